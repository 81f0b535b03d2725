set_option maxRecDepth 20000 in
theorem v142_0 {S : Nat × (Nat → Int32)} {d : Nat} {x : mX} {I : rI0} {J : rJ0} {p0 : Int64} {p1 : Int32} {Q : Int32 → rI0 → rJ0 → Prop} (k : Q ((((p0.toUInt64 >>> (p1.toInt64.toUInt64 &&& Int64.toUInt64 63)).toInt64) &&& (1 : Int64)).toInt32) I J) : wp S d 142 0 [some (.long p0), none, some (.int p1)] [] (wv x I J) (rI x Q) := by
  refine wp_seg (C := gC142) (pc1 := 6) (Lo1 := [some (.long p0), none, some (.int p1)]) (st1' := [.int ((((p0.toUInt64 >>> (p1.toInt64.toUInt64 &&& Int64.toUInt64 63)).toInt64) &&& (1 : Int64)).toInt32)]) (w1 := (wv x I J)) hC142 6 rfl ?_
  exact we_i rfl rfl k
set_option maxRecDepth 20000 in
theorem v50_41_31_0 {S : Nat × (Nat → Int32)} {d : Nat} {x : mX} {I : rI0} {J : rJ0} {p2 : Int32} {Q : rI0 → rJ0 → Prop} (k : (¬ mOut p2 601 ∧ (¬ mOut p2 601 ∧ (¬ mOut p2 601 ∧ (¬ mOut p2 601 ∧ Q I (mSet (mSet (mSet (mSet J 41 8 (J 32 p2.toNatClampNeg)) 41 9 (J 33 p2.toNatClampNeg)) 41 10 (J 34 p2.toNatClampNeg)) 41 11 (J 35 p2.toNatClampNeg))))))) : wp S d 50 0 [some (.ref 41), some (.ref 31), some (.int p2)] [] (wv x I J) (rV x Q) := by
  refine wp_seg (C := gC50) (pc1 := 6) (Lo1 := [some (.ref 41), some (.ref 31), some (.int p2)]) (st1' := [.int p2, .ref 32, .ref 41]) (w1 := (wv x I J)) hC50 4 rfl ?_
  refine wa_l (n := 601) rfl rfl k.1 ?_
  have k := k.2
  refine wp_seg (C := gC50) (pc1 := 16) (Lo1 := [some (.ref 41), some (.ref 31), some (.int p2)]) (st1' := [.int p2, .ref 33, .ref 41]) (w1 := (wv x I (mSet J 41 8 (J 32 p2.toNatClampNeg)))) hC50 5 rfl ?_
  refine wa_l (n := 601) rfl rfl k.1 ?_
  have k := k.2
  refine wp_seg (C := gC50) (pc1 := 26) (Lo1 := [some (.ref 41), some (.ref 31), some (.int p2)]) (st1' := [.int p2, .ref 34, .ref 41]) (w1 := (wv x I (mSet (mSet J 41 8 (J 32 p2.toNatClampNeg)) 41 9 (J 33 p2.toNatClampNeg)))) hC50 5 rfl ?_
  refine wa_l (n := 601) rfl rfl k.1 ?_
  have k := k.2
  refine wp_seg (C := gC50) (pc1 := 36) (Lo1 := [some (.ref 41), some (.ref 31), some (.int p2)]) (st1' := [.int p2, .ref 35, .ref 41]) (w1 := (wv x I (mSet (mSet (mSet J 41 8 (J 32 p2.toNatClampNeg)) 41 9 (J 33 p2.toNatClampNeg)) 41 10 (J 34 p2.toNatClampNeg)))) hC50 5 rfl ?_
  refine wa_l (n := 601) rfl rfl k.1 ?_
  have k := k.2
  refine wp_seg (C := gC50) (pc1 := 40) (Lo1 := [some (.ref 41), some (.ref 31), some (.int p2)]) (st1' := []) (w1 := (wv x I (mSet (mSet (mSet (mSet J 41 8 (J 32 p2.toNatClampNeg)) 41 9 (J 33 p2.toNatClampNeg)) 41 10 (J 34 p2.toNatClampNeg)) 41 11 (J 35 p2.toNatClampNeg)))) hC50 1 rfl ?_
  exact we_v rfl rfl k
set_option maxRecDepth 20000 in
theorem v51_41_0 {S : Nat × (Nat → Int32)} {d : Nat} {x : mX} {I : rI0} {J : rJ0} {p1 : Int32} {p2 : Int32} {Q : Int32 → rI0 → rJ0 → Prop} (k : (¬ mOut p1 12 ∧ (wcJ S d 61 [.ref 41, .int (p1 * (20 : Int32)), .int (I 9 p1.toNatClampNeg), .long ((1 : Int64) <<< (p2.toInt64 &&& 63)), .int (1 : Int32)] x I J (fun r1 I1 J1 => (((lg_cmp r1 (0 : Int64)) = (0 : Int32) → Q (0 : Int32) I1 J1) ∧ (¬ (lg_cmp r1 (0 : Int64)) = (0 : Int32) → Q (1 : Int32) I1 J1)))))) : wp S (d + 1) 51 0 [some (.ref 41), some (.int p1), some (.int p2)] [] (wv x I J) (rI x Q) := by
  refine wp_seg (C := gC51) (pc1 := 13) (Lo1 := [some (.ref 41), some (.int p1), some (.int p2)]) (st1' := [.int p1, .ref 9, .int (p1 * (20 : Int32)), .ref 41]) (w1 := (wv x I J)) hC51 8 rfl ?_
  refine wa_i (n := 12) rfl (by decide) rfl k.1 ?_
  have k := k.2
  refine wp_seg (C := gC51) (pc1 := 18) (Lo1 := [some (.ref 41), some (.int p1), some (.int p2)]) (st1' := [.int (1 : Int32), .long ((1 : Int64) <<< (p2.toInt64 &&& 63)), .int (I 9 p1.toNatClampNeg), .int (p1 * (20 : Int32)), .ref 41]) (w1 := (wv x I J)) hC51 4 rfl ?_
  refine cv_J (mj := 61) (a := 41) (as := [.int (p1 * (20 : Int32)), .int (I 9 p1.toNatClampNeg), .long ((1 : Int64) <<< (p2.toInt64 &&& 63)), .int (1 : Int32)]) (r := []) rfl rfl rfl ⟨rfl, by decide, Nat.le_of_ble_eq_true rfl, Nat.le_of_ble_eq_true rfl⟩ rfl (wcJ_mono k (fun r1 I1 J1 k => ?_))
  refine wp_seg (C := gC51) (pc1 := 23) (Lo1 := [some (.ref 41), some (.int p1), some (.int p2)]) (st1' := [.int (lg_cmp r1 (0 : Int64))]) (w1 := (wv x I1 J1)) hC51 2 rfl ?_
  refine wi_eq (tgt := 30) rfl rfl (fun h => ?_) (fun h => ?_)
  · have k := k.1 h
    refine wp_seg (C := gC51) (pc1 := 31) (Lo1 := [some (.ref 41), some (.int p1), some (.int p2)]) (st1' := [.int (0 : Int32)]) (w1 := (wv x I1 J1)) hC51 1 rfl ?_
    exact we_z rfl rfl (Or.inl rfl) k
  · have k := k.2 h
    refine wp_seg (C := gC51) (pc1 := 31) (Lo1 := [some (.ref 41), some (.int p1), some (.int p2)]) (st1' := [.int (1 : Int32)]) (w1 := (wv x I1 J1)) hC51 2 rfl ?_
    exact we_z rfl rfl (Or.inr rfl) k
set_option maxRecDepth 20000 in
theorem v52_41_0 {S : Nat × (Nat → Int32)} {d : Nat} {x : mX} {I : rI0} {J : rJ0} {p1 : Int64} {p2 : Int64} {Q : rI0 → rJ0 → Prop} (k : (wcI S d 17 [.ref 3] x (mSet (mSet (mSet I 41 2 (0 : Int32)) 41 3 (0 : Int32)) 41 12 (0 : Int32)) (mSet (mSet (mSet J 41 5 p1) 41 6 p2) 41 7 (0 : Int64)) (fun r1 I1 J1 => (((I1 4 3) < (600 : Int32) → wp S (d + 1) 52 72 [some (.ref 41), some (.long p1), none, some (.long p2), none] [] (wv x (mSet (mSet I1 41 4 r1) 41 4 (if r1 < (I1 4 3) then I1 4 3 else r1)) J1) (rV x Q)) ∧ (¬ (I1 4 3) < (600 : Int32) → wp S (d + 1) 52 72 [some (.ref 41), some (.long p1), none, some (.long p2), none] [] (wv x (mSet I1 41 4 r1) J1) (rV x Q)))))) : wp S (d + 1) 52 0 [some (.ref 41), some (.long p1), none, some (.long p2), none] [] (wv x I J) (rV x Q) := by
  refine wp_seg (C := gC52) (pc1 := 20) (Lo1 := [some (.ref 41), some (.long p1), none, some (.long p2), none]) (st1' := []) (w1 := (wv x (mSet (mSet I 41 2 (0 : Int32)) 41 3 (0 : Int32)) (mSet (mSet J 41 5 p1) 41 6 p2))) hC52 12 rfl ?_
  refine wp_seg (C := gC52) (pc1 := 35) (Lo1 := [some (.ref 41), some (.long p1), none, some (.long p2), none]) (st1' := [.ref 3, .ref 41]) (w1 := (wv x (mSet (mSet (mSet I 41 2 (0 : Int32)) 41 3 (0 : Int32)) 41 12 (0 : Int32)) (mSet (mSet (mSet J 41 5 p1) 41 6 p2) 41 7 (0 : Int64)))) hC52 9 rfl ?_
  refine cv_I (mj := 17) (a := 3) (as := []) (r := [.ref 41]) rfl rfl rfl ⟨rfl, by decide, Nat.le_of_ble_eq_true rfl, Nat.le_of_ble_eq_true rfl⟩ rfl (wcI_mono k (fun r1 I1 J1 k => ?_))
  refine wp_seg (C := gC52) (pc1 := 51) (Lo1 := [some (.ref 41), some (.long p1), none, some (.long p2), none]) (st1' := [.int (600 : Int32), .int (I1 4 3)]) (w1 := (wv x (mSet I1 41 4 r1) J1)) hC52 5 rfl ?_
  refine wj_ge (tgt := 72) rfl rfl (fun h => ?_) (fun h => ?_)
  · have k := k.1 h
    refine wp_seg (C := gC52) (pc1 := 66) (Lo1 := [some (.ref 41), some (.long p1), none, some (.long p2), none]) (st1' := [.int (I1 4 3), .int r1, .ref 41]) (w1 := (wv x (mSet I1 41 4 r1) J1)) hC52 6 rfl ?_
    refine wm_2 (f := fun x y => if x < y then y else x) rfl rfl (Or.inl ⟨rfl, rfl⟩) (Nat.le_of_ble_eq_true rfl) ?_
    refine wp_seg (C := gC52) (pc1 := 72) (Lo1 := [some (.ref 41), some (.long p1), none, some (.long p2), none]) (st1' := []) (w1 := (wv x (mSet (mSet I1 41 4 r1) 41 4 (if r1 < (I1 4 3) then I1 4 3 else r1)) J1)) hC52 1 rfl ?_
    exact k
  · have k := k.2 h
    exact k
set_option maxRecDepth 20000 in
theorem v52_41_72 {S : Nat × (Nat → Int32)} {d : Nat} {x : mX} {I : rI0} {J : rJ0} {l1 : Int64} {l3 : Int64} {Q : rI0 → rJ0 → Prop} (k : (wcI S d 56 [.ref 41] x I J (fun r1 I1 J1 => (wcV S d 57 [.ref 41] x I1 J1 (fun I2 J2 => (wcJ S d 58 [.ref 41] x I2 J2 (fun r3 I3 J3 => Q I3 (mSet (mSet (mSet (mSet J3 41 8 r3) 41 9 r3) 41 10 (0 : Int64)) 41 11 (0 : Int64))))))))) : wp S (d + 1) 52 72 [some (.ref 41), some (.long l1), none, some (.long l3), none] [] (wv x I J) (rV x Q) := by
  refine wp_seg (C := gC52) (pc1 := 73) (Lo1 := [some (.ref 41), some (.long l1), none, some (.long l3), none]) (st1' := [.ref 41]) (w1 := (wv x I J)) hC52 1 rfl ?_
  refine cv_I (mj := 56) (a := 41) (as := []) (r := []) rfl rfl rfl ⟨rfl, by decide, Nat.le_of_ble_eq_true rfl, Nat.le_of_ble_eq_true rfl⟩ rfl (wcI_mono k (fun r1 I1 J1 k => ?_))
  refine wp_seg (C := gC52) (pc1 := 78) (Lo1 := [some (.ref 41), some (.long l1), none, some (.long l3), none]) (st1' := [.ref 41]) (w1 := (wv x I1 J1)) hC52 2 rfl ?_
  refine cv_V (mj := 57) (a := 41) (as := []) (r := []) rfl rfl rfl ⟨rfl, by decide, Nat.le_of_ble_eq_true rfl, Nat.le_of_ble_eq_true rfl⟩ rfl (wcV_mono k (fun I2 J2 k => ?_))
  refine wp_seg (C := gC52) (pc1 := 83) (Lo1 := [some (.ref 41), some (.long l1), none, some (.long l3), none]) (st1' := [.ref 41, .ref 41]) (w1 := (wv x I2 J2)) hC52 2 rfl ?_
  refine cv_J (mj := 58) (a := 41) (as := []) (r := [.ref 41]) rfl rfl rfl ⟨rfl, by decide, Nat.le_of_ble_eq_true rfl, Nat.le_of_ble_eq_true rfl⟩ rfl (wcJ_mono k (fun r3 I3 J3 k => ?_))
  refine wp_seg (C := gC52) (pc1 := 107) (Lo1 := [some (.ref 41), some (.long l1), none, some (.long l3), none]) (st1' := []) (w1 := (wv x I3 (mSet (mSet (mSet (mSet J3 41 8 r3) 41 9 r3) 41 10 (0 : Int64)) 41 11 (0 : Int64)))) hC52 11 rfl ?_
  exact we_v rfl rfl k
set_option maxRecDepth 20000 in
theorem v53_41_0 {S : Nat × (Nat → Int32)} {d : Nat} {x : mX} {I : rI0} {J : rJ0} {p1 : Int32} {Q : rI0 → rJ0 → Prop} (k : wp S (d + 1) 53 5 [some (.ref 41), some (.int p1), some (.int (I 41 2))] [] (wv x I J) (rV x Q)) : wp S (d + 1) 53 0 [some (.ref 41), some (.int p1), none] [] (wv x I J) (rV x Q) := by
  refine wp_seg (C := gC53) (pc1 := 5) (Lo1 := [some (.ref 41), some (.int p1), some (.int (I 41 2))]) (st1' := []) (w1 := (wv x I J)) hC53 3 rfl ?_
  exact k
set_option maxRecDepth 20000 in
theorem v53_41_5 {S : Nat × (Nat → Int32)} {d : Nat} {x : mX} {I : rI0} {J : rJ0} {l1 : Int32} {l2 : Int32} {Q : rI0 → rJ0 → Prop} (k : ((l2 < l1 → (((I 41 12) = (0 : Int32) → (wcV S d 55 [.ref 41] x I J (fun I1 J1 => wp S (d + 1) 53 5 [some (.ref 41), some (.int l1), some (.int (l2 + (1 : Int32)))] [] (wv x I1 J1) (rV x Q)))) ∧ (¬ (I 41 12) = (0 : Int32) → Q I J))) ∧ (¬ l2 < l1 → Q I J))) : wp S (d + 1) 53 5 [some (.ref 41), some (.int l1), some (.int l2)] [] (wv x I J) (rV x Q) := by
  refine wp_seg (C := gC53) (pc1 := 7) (Lo1 := [some (.ref 41), some (.int l1), some (.int l2)]) (st1' := [.int l1, .int l2]) (w1 := (wv x I J)) hC53 2 rfl ?_
  refine wj_ge (tgt := 27) rfl rfl (fun h => ?_) (fun h => ?_)
  · have k := k.1 h
    refine wp_seg (C := gC53) (pc1 := 14) (Lo1 := [some (.ref 41), some (.int l1), some (.int l2)]) (st1' := [.int (I 41 12)]) (w1 := (wv x I J)) hC53 2 rfl ?_
    refine wi_ne (tgt := 27) rfl rfl (fun h => ?_) (fun h => ?_)
    · have k := k.1 h
      refine wp_seg (C := gC53) (pc1 := 18) (Lo1 := [some (.ref 41), some (.int l1), some (.int l2)]) (st1' := [.ref 41]) (w1 := (wv x I J)) hC53 1 rfl ?_
      refine cv_V (mj := 55) (a := 41) (as := []) (r := []) rfl rfl rfl ⟨rfl, by decide, Nat.le_of_ble_eq_true rfl, Nat.le_of_ble_eq_true rfl⟩ rfl (wcV_mono k (fun I1 J1 k => ?_))
      refine wp_seg (C := gC53) (pc1 := 5) (Lo1 := [some (.ref 41), some (.int l1), some (.int (l2 + (1 : Int32)))]) (st1' := []) (w1 := (wv x I1 J1)) hC53 2 rfl ?_
      exact k
    · have k := k.2 h
      exact we_v rfl rfl k
  · have k := k.2 h
    exact we_v rfl rfl k
set_option maxRecDepth 20000 in
theorem v9_31_0 {S : Nat × (Nat → Int32)} {d : Nat} {x : mX} {I : rI0} {J : rJ0} {p1 : Int32} {Q : Int32 → rI0 → rJ0 → Prop} (k : ((p1 < (0 : Int32) → Q (0 : Int32) I J) ∧ (¬ p1 < (0 : Int32) → ((p1 < (I 31 6) → (¬ mOut p1 601 ∧ (wcI S d 250 [.long (J 33 p1.toNatClampNeg)] x I J (fun r1 I1 J1 => ((r1 < (I1 4 2) → Q (0 : Int32) I1 J1) ∧ (¬ r1 < (I1 4 2) → Q (1 : Int32) I1 J1)))))) ∧ (¬ p1 < (I 31 6) → Q (0 : Int32) I J))))) : wp S (d + 1) 9 0 [some (.ref 31), some (.int p1)] [] (wv x I J) (rI x Q) := by
  refine wp_seg (C := gC9) (pc1 := 1) (Lo1 := [some (.ref 31), some (.int p1)]) (st1' := [.int p1]) (w1 := (wv x I J)) hC9 1 rfl ?_
  refine wi_lt (tgt := 38) rfl rfl (fun h => ?_) (fun h => ?_)
  · have k := k.1 h
    refine wp_seg (C := gC9) (pc1 := 39) (Lo1 := [some (.ref 31), some (.int p1)]) (st1' := [.int (0 : Int32)]) (w1 := (wv x I J)) hC9 1 rfl ?_
    exact we_z rfl rfl (Or.inl rfl) k
  · have k := k.2 h
    refine wp_seg (C := gC9) (pc1 := 9) (Lo1 := [some (.ref 31), some (.int p1)]) (st1' := [.int (I 31 6), .int p1]) (w1 := (wv x I J)) hC9 3 rfl ?_
    refine wj_ge (tgt := 38) rfl rfl (fun h => ?_) (fun h => ?_)
    · have k := k.1 h
      refine wp_seg (C := gC9) (pc1 := 17) (Lo1 := [some (.ref 31), some (.int p1)]) (st1' := [.int p1, .ref 33]) (w1 := (wv x I J)) hC9 3 rfl ?_
      refine wa_l (n := 601) rfl rfl k.1 ?_
      have k := k.2
      refine cs_I (mj := 250) (nn := 0) (as := [.long (J 33 p1.toNatClampNeg)]) (r := []) rfl rfl rfl ⟨rfl, by decide, Nat.le_of_ble_eq_true rfl, Nat.le_of_ble_eq_true rfl⟩ (by decide) (wcI_mono k (fun r1 I1 J1 k => ?_))
      refine wp_seg (C := gC9) (pc1 := 31) (Lo1 := [some (.ref 31), some (.int p1)]) (st1' := [.int (I1 4 2), .int r1]) (w1 := (wv x I1 J1)) hC9 4 rfl ?_
      refine wj_lt (tgt := 38) rfl rfl (fun h => ?_) (fun h => ?_)
      · have k := k.1 h
        refine wp_seg (C := gC9) (pc1 := 39) (Lo1 := [some (.ref 31), some (.int p1)]) (st1' := [.int (0 : Int32)]) (w1 := (wv x I1 J1)) hC9 1 rfl ?_
        exact we_z rfl rfl (Or.inl rfl) k
      · have k := k.2 h
        refine wp_seg (C := gC9) (pc1 := 39) (Lo1 := [some (.ref 31), some (.int p1)]) (st1' := [.int (1 : Int32)]) (w1 := (wv x I1 J1)) hC9 2 rfl ?_
        exact we_z rfl rfl (Or.inr rfl) k
    · have k := k.2 h
      refine wp_seg (C := gC9) (pc1 := 39) (Lo1 := [some (.ref 31), some (.int p1)]) (st1' := [.int (0 : Int32)]) (w1 := (wv x I J)) hC9 1 rfl ?_
      exact we_z rfl rfl (Or.inl rfl) k
set_option maxRecDepth 20000 in
theorem v18_3_0 {S : Nat × (Nat → Int32)} {d : Nat} {x : mX} {I : rI0} {J : rJ0} {Q : Int32 → rI0 → rJ0 → Prop} (k : (wcI S d 17 [.ref 3] x I J (fun r1 I1 J1 => (((I1 4 3) < (600 : Int32) → (wcI S d 19 [.ref 3] x I1 J1 (fun r2 I2 J2 => ((r2 = (0 : Int32) → Q (if (0 : Int32) < r1 then r1 else (0 : Int32)) I2 J2) ∧ (¬ r2 = (0 : Int32) → Q (if (if (0 : Int32) < r1 then r1 else (0 : Int32)) < ((I2 4 3) + (1 : Int32)) then (I2 4 3) + (1 : Int32) else if (0 : Int32) < r1 then r1 else (0 : Int32)) I2 J2))))) ∧ (¬ (I1 4 3) < (600 : Int32) → Q (if (0 : Int32) < r1 then r1 else (0 : Int32)) I1 J1))))) : wp S (d + 1) 18 0 [some (.ref 3), none] [] (wv x I J) (rI x Q) := by
  refine wp_seg (C := gC18) (pc1 := 2) (Lo1 := [some (.ref 3), none]) (st1' := [.ref 3, .int (0 : Int32)]) (w1 := (wv x I J)) hC18 2 rfl ?_
  refine cv_I (mj := 17) (a := 3) (as := []) (r := [.int (0 : Int32)]) rfl rfl rfl ⟨rfl, by decide, Nat.le_of_ble_eq_true rfl, Nat.le_of_ble_eq_true rfl⟩ rfl (wcI_mono k (fun r1 I1 J1 k => ?_))
  refine wm_2 (f := fun x y => if x < y then y else x) rfl rfl (Or.inl ⟨rfl, rfl⟩) (Nat.le_of_ble_eq_true rfl) ?_
  refine wp_seg (C := gC18) (pc1 := 19) (Lo1 := [some (.ref 3), some (.int (if (0 : Int32) < r1 then r1 else (0 : Int32)))]) (st1' := [.int (600 : Int32), .int (I1 4 3)]) (w1 := (wv x I1 J1)) hC18 5 rfl ?_
  refine wj_ge (tgt := 43) rfl rfl (fun h => ?_) (fun h => ?_)
  · have k := k.1 h
    refine wp_seg (C := gC18) (pc1 := 23) (Lo1 := [some (.ref 3), some (.int (if (0 : Int32) < r1 then r1 else (0 : Int32)))]) (st1' := [.ref 3]) (w1 := (wv x I1 J1)) hC18 1 rfl ?_
    refine cv_I (mj := 19) (a := 3) (as := []) (r := []) rfl rfl rfl ⟨rfl, by decide, Nat.le_of_ble_eq_true rfl, Nat.le_of_ble_eq_true rfl⟩ rfl (wcI_mono k (fun r2 I2 J2 k => ?_))
    refine wi_eq (tgt := 43) rfl rfl (fun h => ?_) (fun h => ?_)
    · have k := k.1 h
      refine wp_seg (C := gC18) (pc1 := 44) (Lo1 := [some (.ref 3), some (.int (if (0 : Int32) < r1 then r1 else (0 : Int32)))]) (st1' := [.int (if (0 : Int32) < r1 then r1 else (0 : Int32))]) (w1 := (wv x I2 J2)) hC18 1 rfl ?_
      exact we_i rfl rfl k
    · have k := k.2 h
      refine wp_seg (C := gC18) (pc1 := 39) (Lo1 := [some (.ref 3), some (.int (if (0 : Int32) < r1 then r1 else (0 : Int32)))]) (st1' := [.int ((I2 4 3) + (1 : Int32)), .int (if (0 : Int32) < r1 then r1 else (0 : Int32))]) (w1 := (wv x I2 J2)) hC18 6 rfl ?_
      refine wm_2 (f := fun x y => if x < y then y else x) rfl rfl (Or.inl ⟨rfl, rfl⟩) (Nat.le_of_ble_eq_true rfl) ?_
      refine wp_seg (C := gC18) (pc1 := 44) (Lo1 := [some (.ref 3), some (.int (if (if (0 : Int32) < r1 then r1 else (0 : Int32)) < ((I2 4 3) + (1 : Int32)) then (I2 4 3) + (1 : Int32) else if (0 : Int32) < r1 then r1 else (0 : Int32)))]) (st1' := [.int (if (if (0 : Int32) < r1 then r1 else (0 : Int32)) < ((I2 4 3) + (1 : Int32)) then (I2 4 3) + (1 : Int32) else if (0 : Int32) < r1 then r1 else (0 : Int32))]) (w1 := (wv x I2 J2)) hC18 2 rfl ?_
      exact we_i rfl rfl k
  · have k := k.2 h
    refine wp_seg (C := gC18) (pc1 := 44) (Lo1 := [some (.ref 3), some (.int (if (0 : Int32) < r1 then r1 else (0 : Int32)))]) (st1' := [.int (if (0 : Int32) < r1 then r1 else (0 : Int32))]) (w1 := (wv x I1 J1)) hC18 1 rfl ?_
    exact we_i rfl rfl k
set_option maxRecDepth 20000 in
theorem v11_31_0 {S : Nat × (Nat → Int32)} {d : Nat} {x : mX} {I : rI0} {J : rJ0} {p1 : Int32} {Q : Int32 → rI0 → rJ0 → Prop} (k : (wcI S d 7 [.ref 31, .int p1] x I J (fun r1 I1 J1 => wp S (d + 1) 11 10 [some (.ref 31), some (.int p1), some (.int r1), some (.int (p1 + (1 : Int32))), none] [] (wv x I1 J1) (rI x Q)))) : wp S (d + 1) 11 0 [some (.ref 31), some (.int p1), none, none, none] [] (wv x I J) (rI x Q) := by
  refine wp_seg (C := gC11) (pc1 := 2) (Lo1 := [some (.ref 31), some (.int p1), none, none, none]) (st1' := [.int p1, .ref 31]) (w1 := (wv x I J)) hC11 2 rfl ?_
  refine cv_I (mj := 7) (a := 31) (as := [.int p1]) (r := []) rfl rfl rfl ⟨rfl, by decide, Nat.le_of_ble_eq_true rfl, Nat.le_of_ble_eq_true rfl⟩ rfl (wcI_mono k (fun r1 I1 J1 k => ?_))
  refine wp_seg (C := gC11) (pc1 := 10) (Lo1 := [some (.ref 31), some (.int p1), some (.int r1), some (.int (p1 + (1 : Int32))), none]) (st1' := []) (w1 := (wv x I1 J1)) hC11 5 rfl ?_
  exact k
set_option maxRecDepth 20000 in
theorem v11_31_10 {S : Nat × (Nat → Int32)} {d : Nat} {x : mX} {I : rI0} {J : rJ0} {l1 : Int32} {l2 : Int32} {l3 : Int32} {Q : Int32 → rI0 → rJ0 → Prop} (k : (((600 : Int32) < l3 → Q (-1 : Int32) I J) ∧ (¬ (600 : Int32) < l3 → (wcI S d 7 [.ref 31, .int l3] x I J (fun r1 I1 J1 => (wcI S d 12 [.ref 31, .int l2, .int r1] x I1 J1 (fun r2 I2 J2 => ((r2 = (0 : Int32) → ((r1 < l3 → Q (-1 : Int32) I2 J2) ∧ (¬ r1 < l3 → wp S (d + 1) 11 10 [some (.ref 31), some (.int l1), some (.int l2), some (.int (l3 + (1 : Int32))), none] [] (wv x I2 J2) (rI x Q)))) ∧ (¬ r2 = (0 : Int32) → Q l3 I2 J2))))))))) : wp S (d + 1) 11 10 [some (.ref 31), some (.int l1), some (.int l2), some (.int l3), none] [] (wv x I J) (rI x Q) := by
  refine wp_seg (C := gC11) (pc1 := 14) (Lo1 := [some (.ref 31), some (.int l1), some (.int l2), some (.int l3), none]) (st1' := [.int (600 : Int32), .int l3]) (w1 := (wv x I J)) hC11 2 rfl ?_
  refine wj_gt (tgt := 50) rfl rfl (fun h => ?_) (fun h => ?_)
  · have k := k.1 h
    refine wp_seg (C := gC11) (pc1 := 51) (Lo1 := [some (.ref 31), some (.int l1), some (.int l2), some (.int l3), none]) (st1' := [.int (-1 : Int32)]) (w1 := (wv x I J)) hC11 1 rfl ?_
    exact we_i rfl rfl k
  · have k := k.2 h
    refine wp_seg (C := gC11) (pc1 := 19) (Lo1 := [some (.ref 31), some (.int l1), some (.int l2), some (.int l3), none]) (st1' := [.int l3, .ref 31]) (w1 := (wv x I J)) hC11 2 rfl ?_
    refine cv_I (mj := 7) (a := 31) (as := [.int l3]) (r := []) rfl rfl rfl ⟨rfl, by decide, Nat.le_of_ble_eq_true rfl, Nat.le_of_ble_eq_true rfl⟩ rfl (wcI_mono k (fun r1 I1 J1 k => ?_))
    refine wp_seg (C := gC11) (pc1 := 28) (Lo1 := [some (.ref 31), some (.int l1), some (.int l2), some (.int l3), some (.int r1)]) (st1' := [.int r1, .int l2, .ref 31]) (w1 := (wv x I1 J1)) hC11 4 rfl ?_
    refine cv_I (mj := 12) (a := 31) (as := [.int l2, .int r1]) (r := []) rfl rfl rfl ⟨rfl, by decide, Nat.le_of_ble_eq_true rfl, Nat.le_of_ble_eq_true rfl⟩ rfl (wcI_mono k (fun r2 I2 J2 k => ?_))
    refine wi_eq (tgt := 36) rfl rfl (fun h => ?_) (fun h => ?_)
    · have k := k.1 h
      refine wp_seg (C := gC11) (pc1 := 39) (Lo1 := [some (.ref 31), some (.int l1), some (.int l2), some (.int l3), some (.int r1)]) (st1' := [.int l3, .int r1]) (w1 := (wv x I2 J2)) hC11 2 rfl ?_
      refine wj_ge (tgt := 44) rfl rfl (fun h => ?_) (fun h => ?_)
      · have k := k.1 h
        refine wp_seg (C := gC11) (pc1 := 43) (Lo1 := [some (.ref 31), some (.int l1), some (.int l2), some (.int l3), some (.int r1)]) (st1' := [.int (-1 : Int32)]) (w1 := (wv x I2 J2)) hC11 1 rfl ?_
        exact we_i rfl rfl k
      · have k := k.2 h
        refine wp_seg (C := gC11) (pc1 := 10) (Lo1 := [some (.ref 31), some (.int l1), some (.int l2), some (.int (l3 + (1 : Int32))), some (.int r1)]) (st1' := []) (w1 := (wv x I2 J2)) hC11 2 rfl ?_
        exact wp_sub (Lo := [some (.ref 31), some (.int l1), some (.int l2), some (.int (l3 + (1 : Int32))), none]) (And.intro rfl (And.intro rfl (And.intro rfl (And.intro rfl (trivial))))) k
    · have k := k.2 h
      refine wp_seg (C := gC11) (pc1 := 35) (Lo1 := [some (.ref 31), some (.int l1), some (.int l2), some (.int l3), some (.int r1)]) (st1' := [.int l3]) (w1 := (wv x I2 J2)) hC11 1 rfl ?_
      exact we_i rfl rfl k
set_option maxRecDepth 20000 in
theorem v10_31_0 {S : Nat × (Nat → Int32)} {d : Nat} {x : mX} {I : rI0} {J : rJ0} {Q : Int32 → rI0 → rJ0 → Prop} (k : wp S (d + 1) 10 4 [some (.ref 31), some (.int (0 : Int32)), some (.int (0 : Int32))] [] (wv x I J) (rI x Q)) : wp S (d + 1) 10 0 [some (.ref 31), none, none] [] (wv x I J) (rI x Q) := by
  refine wp_seg (C := gC10) (pc1 := 4) (Lo1 := [some (.ref 31), some (.int (0 : Int32)), some (.int (0 : Int32))]) (st1' := []) (w1 := (wv x I J)) hC10 4 rfl ?_
  exact k
set_option maxRecDepth 20000 in
theorem v10_31_4 {S : Nat × (Nat → Int32)} {d : Nat} {x : mX} {I : rI0} {J : rJ0} {l1 : Int32} {l2 : Int32} {Q : Int32 → rI0 → rJ0 → Prop} (k : (((60 : Int32) < l2 → Q l1 I J) ∧ (¬ (60 : Int32) < l2 → (wcI S d 7 [.ref 31, .int l2] x I J (fun r1 I1 J1 => (¬ mOut r1 601 ∧ (wcI S d 250 [.long (J1 33 r1.toNatClampNeg)] x I1 J1 (fun r2 I2 J2 => wp S (d + 1) 10 4 [some (.ref 31), some (.int (if l1 < r2 then r2 else l1)), some (.int (l2 + (1 : Int32)))] [] (wv x I2 J2) (rI x Q))))))))) : wp S (d + 1) 10 4 [some (.ref 31), some (.int l1), some (.int l2)] [] (wv x I J) (rI x Q) := by
  refine wp_seg (C := gC10) (pc1 := 7) (Lo1 := [some (.ref 31), some (.int l1), some (.int l2)]) (st1' := [.int (60 : Int32), .int l2]) (w1 := (wv x I J)) hC10 2 rfl ?_
  refine wj_gt (tgt := 34) rfl rfl (fun h => ?_) (fun h => ?_)
  · have k := k.1 h
    refine wp_seg (C := gC10) (pc1 := 35) (Lo1 := [some (.ref 31), some (.int l1), some (.int l2)]) (st1' := [.int l1]) (w1 := (wv x I J)) hC10 1 rfl ?_
    exact we_i rfl rfl k
  · have k := k.2 h
    refine wp_seg (C := gC10) (pc1 := 17) (Lo1 := [some (.ref 31), some (.int l1), some (.int l2)]) (st1' := [.int l2, .ref 31, .ref 33, .int l1]) (w1 := (wv x I J)) hC10 5 rfl ?_
    refine cv_I (mj := 7) (a := 31) (as := [.int l2]) (r := [.ref 33, .int l1]) rfl rfl rfl ⟨rfl, by decide, Nat.le_of_ble_eq_true rfl, Nat.le_of_ble_eq_true rfl⟩ rfl (wcI_mono k (fun r1 I1 J1 k => ?_))
    refine wa_l (n := 601) rfl rfl k.1 ?_
    have k := k.2
    refine cs_I (mj := 250) (nn := 0) (as := [.long (J1 33 r1.toNatClampNeg)]) (r := [.int l1]) rfl rfl rfl ⟨rfl, by decide, Nat.le_of_ble_eq_true rfl, Nat.le_of_ble_eq_true rfl⟩ (by decide) (wcI_mono k (fun r2 I2 J2 k => ?_))
    refine wm_2 (f := fun x y => if x < y then y else x) rfl rfl (Or.inl ⟨rfl, rfl⟩) (Nat.le_of_ble_eq_true rfl) ?_
    refine wp_seg (C := gC10) (pc1 := 31) (Lo1 := [some (.ref 31), some (.int (if l1 < r2 then r2 else l1)), some (.int (l2 + (1 : Int32)))]) (st1' := []) (w1 := (wv x I2 J2)) hC10 2 rfl ?_
    refine wp_seg (C := gC10) (pc1 := 4) (Lo1 := [some (.ref 31), some (.int (if l1 < r2 then r2 else l1)), some (.int (l2 + (1 : Int32)))]) (st1' := []) (w1 := (wv x I2 J2)) hC10 1 rfl ?_
    exact k
set_option maxRecDepth 20000 in
theorem v80_37_0 {S : Nat × (Nat → Int32)} {d : Nat} {x : mX} {I : rI0} {J : rJ0} {p1 : Int32} {Q : Int32 → rI0 → rJ0 → Prop} (k : ((p1 < (1 : Int32) → Q (0 : Int32) I J) ∧ (¬ p1 < (1 : Int32) → (((8 : Int32) < p1 → Q (0 : Int32) I J) ∧ (¬ (8 : Int32) < p1 → (wcI S d 81 [.ref 37, .int (0 : Int32), .int p1] x I J (fun r1 I1 J1 => ((r1 = (0 : Int32) → Q (0 : Int32) I1 J1) ∧ (¬ r1 = (0 : Int32) → Q (1 : Int32) I1 J1))))))))) : wp S (d + 1) 80 0 [some (.ref 37), some (.int p1)] [] (wv x I J) (rI x Q) := by
  refine wp_seg (C := gC80) (pc1 := 2) (Lo1 := [some (.ref 37), some (.int p1)]) (st1' := [.int (1 : Int32), .int p1]) (w1 := (wv x I J)) hC80 2 rfl ?_
  refine wj_lt (tgt := 24) rfl rfl (fun h => ?_) (fun h => ?_)
  · have k := k.1 h
    refine wp_seg (C := gC80) (pc1 := 25) (Lo1 := [some (.ref 37), some (.int p1)]) (st1' := [.int (0 : Int32)]) (w1 := (wv x I J)) hC80 1 rfl ?_
    exact we_z rfl rfl (Or.inl rfl) k
  · have k := k.2 h
    refine wp_seg (C := gC80) (pc1 := 8) (Lo1 := [some (.ref 37), some (.int p1)]) (st1' := [.int (8 : Int32), .int p1]) (w1 := (wv x I J)) hC80 2 rfl ?_
    refine wj_gt (tgt := 24) rfl rfl (fun h => ?_) (fun h => ?_)
    · have k := k.1 h
      refine wp_seg (C := gC80) (pc1 := 25) (Lo1 := [some (.ref 37), some (.int p1)]) (st1' := [.int (0 : Int32)]) (w1 := (wv x I J)) hC80 1 rfl ?_
      exact we_z rfl rfl (Or.inl rfl) k
    · have k := k.2 h
      refine wp_seg (C := gC80) (pc1 := 14) (Lo1 := [some (.ref 37), some (.int p1)]) (st1' := [.int p1, .int (0 : Int32), .ref 37]) (w1 := (wv x I J)) hC80 3 rfl ?_
      refine cv_I (mj := 81) (a := 37) (as := [.int (0 : Int32), .int p1]) (r := []) rfl rfl rfl ⟨rfl, by decide, Nat.le_of_ble_eq_true rfl, Nat.le_of_ble_eq_true rfl⟩ rfl (wcI_mono k (fun r1 I1 J1 k => ?_))
      refine wi_eq (tgt := 24) rfl rfl (fun h => ?_) (fun h => ?_)
      · have k := k.1 h
        refine wp_seg (C := gC80) (pc1 := 25) (Lo1 := [some (.ref 37), some (.int p1)]) (st1' := [.int (0 : Int32)]) (w1 := (wv x I1 J1)) hC80 1 rfl ?_
        exact we_z rfl rfl (Or.inl rfl) k
      · have k := k.2 h
        refine wp_seg (C := gC80) (pc1 := 25) (Lo1 := [some (.ref 37), some (.int p1)]) (st1' := [.int (1 : Int32)]) (w1 := (wv x I1 J1)) hC80 2 rfl ?_
        exact we_z rfl rfl (Or.inr rfl) k
set_option maxRecDepth 20000 in
theorem v84_37_0 {S : Nat × (Nat → Int32)} {d : Nat} {x : mX} {I : rI0} {J : rJ0} {p1 : Int32} {Q : Int32 → rI0 → rJ0 → Prop} (k : wp S (d + 1) 84 19 [some (.ref 37), some (.int p1), some (.int (I 4 2)), some (.int (-1 : Int32)), some (.int (-1 : Int32)), some (.int (0 : Int32)), none, none, none, none] [] (wv x I J) (rI x Q)) : wp S (d + 1) 84 0 [some (.ref 37), some (.int p1), none, none, none, none, none, none, none, none] [] (wv x I J) (rI x Q) := by
  refine wp_seg (C := gC84) (pc1 := 13) (Lo1 := [some (.ref 37), some (.int p1), some (.int (I 4 2)), some (.int (-1 : Int32)), none, none, none, none, none, none]) (st1' := []) (w1 := (wv x I J)) hC84 7 rfl ?_
  refine wp_seg (C := gC84) (pc1 := 19) (Lo1 := [some (.ref 37), some (.int p1), some (.int (I 4 2)), some (.int (-1 : Int32)), some (.int (-1 : Int32)), some (.int (0 : Int32)), none, none, none, none]) (st1' := []) (w1 := (wv x I J)) hC84 4 rfl ?_
  exact k
set_option maxRecDepth 20000 in
theorem v84_37_19 {S : Nat × (Nat → Int32)} {d : Nat} {x : mX} {I : rI0} {J : rJ0} {l1 : Int32} {l2 : Int32} {l3 : Int32} {l4 : Int32} {l5 : Int32} {Q : Int32 → rI0 → rJ0 → Prop} (k : ((l5 < ((1 : Int32) <<< (l1 &&& 31)) → (wcJ S d 82 [.ref 37, .int l5, .int l1] x I J (fun r1 I1 J1 => (wcI S d 83 [.ref 37, .int l5, .int l1] x I1 J1 (fun r2 I2 J2 => ((l3 = (-1 : Int32) → wp S (d + 1) 84 89 [some (.ref 37), some (.int l1), some (.int l2), some (.int l3), some (.int l4), some (.int l5), some (.long ((J 3 5) ||| r1)), none, some (.int r2), none] [.int (1 : Int32)] (wv x I2 J2) (rI x Q)) ∧ (¬ l3 = (-1 : Int32) → ((r2 < l4 → wp S (d + 1) 84 89 [some (.ref 37), some (.int l1), some (.int l2), some (.int l3), some (.int l4), some (.int l5), some (.long ((J 3 5) ||| r1)), none, some (.int r2), none] [.int (1 : Int32)] (wv x I2 J2) (rI x Q)) ∧ (¬ r2 < l4 → ((r2 = l4 → (wcI S d 249 [.int l5] x I2 J2 (fun r3 I3 J3 => (wcI S d 249 [.int l3] x I3 J3 (fun r4 I4 J4 => ((r3 < r4 → wp S (d + 1) 84 89 [some (.ref 37), some (.int l1), some (.int l2), some (.int l3), some (.int l4), some (.int l5), some (.long ((J 3 5) ||| r1)), none, some (.int r2), none] [.int (1 : Int32)] (wv x I4 J4) (rI x Q)) ∧ (¬ r3 < r4 → wp S (d + 1) 84 89 [some (.ref 37), some (.int l1), some (.int l2), some (.int l3), some (.int l4), some (.int l5), some (.long ((J 3 5) ||| r1)), none, some (.int r2), none] [.int (0 : Int32)] (wv x I4 J4) (rI x Q)))))))) ∧ (¬ r2 = l4 → wp S (d + 1) 84 89 [some (.ref 37), some (.int l1), some (.int l2), some (.int l3), some (.int l4), some (.int l5), some (.long ((J 3 5) ||| r1)), none, some (.int r2), none] [.int (0 : Int32)] (wv x I2 J2) (rI x Q)))))))))))) ∧ (¬ l5 < ((1 : Int32) <<< (l1 &&& 31)) → ((l3 = (-1 : Int32) → Q l4 I J) ∧ (¬ l3 = (-1 : Int32) → Q l4 (mSet I 37 8 l3) J))))) : wp S (d + 1) 84 19 [some (.ref 37), some (.int l1), some (.int l2), some (.int l3), some (.int l4), some (.int l5), none, none, none, none] [] (wv x I J) (rI x Q) := by
  refine wp_seg (C := gC84) (pc1 := 24) (Lo1 := [some (.ref 37), some (.int l1), some (.int l2), some (.int l3), some (.int l4), some (.int l5), none, none, none, none]) (st1' := [.int ((1 : Int32) <<< (l1 &&& 31)), .int l5]) (w1 := (wv x I J)) hC84 4 rfl ?_
  refine wj_ge (tgt := 130) rfl rfl (fun h => ?_) (fun h => ?_)
  · have k := k.1 h
    refine wp_seg (C := gC84) (pc1 := 38) (Lo1 := [some (.ref 37), some (.int l1), some (.int l2), some (.int l3), some (.int l4), some (.int l5), none, none, none, none]) (st1' := [.int l1, .int l5, .ref 37, .long (J 3 5)]) (w1 := (wv x I J)) hC84 6 rfl ?_
    refine cv_J (mj := 82) (a := 37) (as := [.int l5, .int l1]) (r := [.long (J 3 5)]) rfl rfl rfl ⟨rfl, by decide, Nat.le_of_ble_eq_true rfl, Nat.le_of_ble_eq_true rfl⟩ rfl (wcJ_mono k (fun r1 I1 J1 k => ?_))
    refine wp_seg (C := gC84) (pc1 := 48) (Lo1 := [some (.ref 37), some (.int l1), some (.int l2), some (.int l3), some (.int l4), some (.int l5), some (.long ((J 3 5) ||| r1)), none, none, none]) (st1' := [.int l1, .int l5, .ref 37]) (w1 := (wv x I1 J1)) hC84 5 rfl ?_
    refine cv_I (mj := 83) (a := 37) (as := [.int l5, .int l1]) (r := []) rfl rfl rfl ⟨rfl, by decide, Nat.le_of_ble_eq_true rfl, Nat.le_of_ble_eq_true rfl⟩ rfl (wcI_mono k (fun r2 I2 J2 k => ?_))
    refine wp_seg (C := gC84) (pc1 := 55) (Lo1 := [some (.ref 37), some (.int l1), some (.int l2), some (.int l3), some (.int l4), some (.int l5), some (.long ((J 3 5) ||| r1)), none, some (.int r2), none]) (st1' := [.int (-1 : Int32), .int l3]) (w1 := (wv x I2 J2)) hC84 3 rfl ?_
    refine wj_eq (tgt := 84) rfl rfl (fun h => ?_) (fun h => ?_)
    · have k := k.1 h
      refine wp_seg (C := gC84) (pc1 := 89) (Lo1 := [some (.ref 37), some (.int l1), some (.int l2), some (.int l3), some (.int l4), some (.int l5), some (.long ((J 3 5) ||| r1)), none, some (.int r2), none]) (st1' := [.int (1 : Int32)]) (w1 := (wv x I2 J2)) hC84 2 rfl ?_
      exact k
    · have k := k.2 h
      refine wp_seg (C := gC84) (pc1 := 62) (Lo1 := [some (.ref 37), some (.int l1), some (.int l2), some (.int l3), some (.int l4), some (.int l5), some (.long ((J 3 5) ||| r1)), none, some (.int r2), none]) (st1' := [.int l4, .int r2]) (w1 := (wv x I2 J2)) hC84 2 rfl ?_
      refine wj_lt (tgt := 84) rfl rfl (fun h => ?_) (fun h => ?_)
      · have k := k.1 h
        refine wp_seg (C := gC84) (pc1 := 89) (Lo1 := [some (.ref 37), some (.int l1), some (.int l2), some (.int l3), some (.int l4), some (.int l5), some (.long ((J 3 5) ||| r1)), none, some (.int r2), none]) (st1' := [.int (1 : Int32)]) (w1 := (wv x I2 J2)) hC84 2 rfl ?_
        exact k
      · have k := k.2 h
        refine wp_seg (C := gC84) (pc1 := 69) (Lo1 := [some (.ref 37), some (.int l1), some (.int l2), some (.int l3), some (.int l4), some (.int l5), some (.long ((J 3 5) ||| r1)), none, some (.int r2), none]) (st1' := [.int l4, .int r2]) (w1 := (wv x I2 J2)) hC84 2 rfl ?_
        refine wj_ne (tgt := 88) rfl rfl (fun h => ?_) (fun h => ?_)
        · have k := k.1 h
          refine wp_seg (C := gC84) (pc1 := 74) (Lo1 := [some (.ref 37), some (.int l1), some (.int l2), some (.int l3), some (.int l4), some (.int l5), some (.long ((J 3 5) ||| r1)), none, some (.int r2), none]) (st1' := [.int l5]) (w1 := (wv x I2 J2)) hC84 1 rfl ?_
          refine cs_I (mj := 249) (nn := 0) (as := [.int l5]) (r := []) rfl rfl rfl ⟨rfl, by decide, Nat.le_of_ble_eq_true rfl, Nat.le_of_ble_eq_true rfl⟩ (by decide) (wcI_mono k (fun r3 I3 J3 k => ?_))
          refine wp_seg (C := gC84) (pc1 := 78) (Lo1 := [some (.ref 37), some (.int l1), some (.int l2), some (.int l3), some (.int l4), some (.int l5), some (.long ((J 3 5) ||| r1)), none, some (.int r2), none]) (st1' := [.int l3, .int r3]) (w1 := (wv x I3 J3)) hC84 1 rfl ?_
          refine cs_I (mj := 249) (nn := 0) (as := [.int l3]) (r := [.int r3]) rfl rfl rfl ⟨rfl, by decide, Nat.le_of_ble_eq_true rfl, Nat.le_of_ble_eq_true rfl⟩ (by decide) (wcI_mono k (fun r4 I4 J4 k => ?_))
          refine wj_ge (tgt := 88) rfl rfl (fun h => ?_) (fun h => ?_)
          · have k := k.1 h
            refine wp_seg (C := gC84) (pc1 := 89) (Lo1 := [some (.ref 37), some (.int l1), some (.int l2), some (.int l3), some (.int l4), some (.int l5), some (.long ((J 3 5) ||| r1)), none, some (.int r2), none]) (st1' := [.int (1 : Int32)]) (w1 := (wv x I4 J4)) hC84 2 rfl ?_
            exact k
          · have k := k.2 h
            refine wp_seg (C := gC84) (pc1 := 89) (Lo1 := [some (.ref 37), some (.int l1), some (.int l2), some (.int l3), some (.int l4), some (.int l5), some (.long ((J 3 5) ||| r1)), none, some (.int r2), none]) (st1' := [.int (0 : Int32)]) (w1 := (wv x I4 J4)) hC84 1 rfl ?_
            exact k
        · have k := k.2 h
          refine wp_seg (C := gC84) (pc1 := 89) (Lo1 := [some (.ref 37), some (.int l1), some (.int l2), some (.int l3), some (.int l4), some (.int l5), some (.long ((J 3 5) ||| r1)), none, some (.int r2), none]) (st1' := [.int (0 : Int32)]) (w1 := (wv x I2 J2)) hC84 1 rfl ?_
          exact k
  · have k := k.2 h
    refine wp_seg (C := gC84) (pc1 := 132) (Lo1 := [some (.ref 37), some (.int l1), some (.int l2), some (.int l3), some (.int l4), some (.int l5), none, none, none, none]) (st1' := [.int (-1 : Int32), .int l3]) (w1 := (wv x I J)) hC84 2 rfl ?_
    refine wj_eq (tgt := 140) rfl rfl (fun h => ?_) (fun h => ?_)
    · have k := k.1 h
      refine wp_seg (C := gC84) (pc1 := 142) (Lo1 := [some (.ref 37), some (.int l1), some (.int l2), some (.int l3), some (.int l4), some (.int l5), none, none, none, none]) (st1' := [.int l4]) (w1 := (wv x I J)) hC84 1 rfl ?_
      exact we_i rfl rfl k
    · have k := k.2 h
      refine wp_seg (C := gC84) (pc1 := 142) (Lo1 := [some (.ref 37), some (.int l1), some (.int l2), some (.int l3), some (.int l4), some (.int l5), none, none, none, none]) (st1' := [.int l4]) (w1 := (wv x (mSet I 37 8 l3) J)) hC84 4 rfl ?_
      exact we_i rfl rfl k
set_option maxRecDepth 20000 in
theorem v84_37_89 {S : Nat × (Nat → Int32)} {d : Nat} {x : mX} {I : rI0} {J : rJ0} {l1 : Int32} {l2 : Int32} {l3 : Int32} {l4 : Int32} {l5 : Int32} {l6 : Int64} {l8 : Int32} {s0 : Int32} {Q : Int32 → rI0 → rJ0 → Prop} (k : ((s0 = (0 : Int32) → wp S (d + 1) 84 19 [some (.ref 37), some (.int l1), some (.int l2), some (.int l3), some (.int l4), some (.int (l5 + (1 : Int32))), none, none, none, none] [] (wv x I J) (rI x Q)) ∧ (¬ s0 = (0 : Int32) → (wcI S d 54 [.ref 41, .long l6, .long (J 3 6), .int l2] x I J (fun r1 I1 J1 => ((r1 < l2 → wp S (d + 1) 84 19 [some (.ref 37), some (.int l1), some (.int l2), some (.int l3), some (.int l4), some (.int (l5 + (1 : Int32))), none, none, none, none] [] (wv x I1 J1) (rI x Q)) ∧ (¬ r1 < l2 → wp S (d + 1) 84 19 [some (.ref 37), some (.int l1), some (.int l2), some (.int l5), some (.int l8), some (.int (l5 + (1 : Int32))), none, none, none, none] [] (wv x I1 J1) (rI x Q)))))))) : wp S (d + 1) 84 89 [some (.ref 37), some (.int l1), some (.int l2), some (.int l3), some (.int l4), some (.int l5), some (.long l6), none, some (.int l8), none] [.int s0] (wv x I J) (rI x Q) := by
  refine wp_seg (C := gC84) (pc1 := 93) (Lo1 := [some (.ref 37), some (.int l1), some (.int l2), some (.int l3), some (.int l4), some (.int l5), some (.long l6), none, some (.int l8), some (.int s0)]) (st1' := [.int s0]) (w1 := (wv x I J)) hC84 2 rfl ?_
  refine wi_eq (tgt := 124) rfl rfl (fun h => ?_) (fun h => ?_)
  · have k := k.1 h
    refine wp_seg (C := gC84) (pc1 := 19) (Lo1 := [some (.ref 37), some (.int l1), some (.int l2), some (.int l3), some (.int l4), some (.int (l5 + (1 : Int32))), some (.long l6), none, some (.int l8), some (.int s0)]) (st1' := []) (w1 := (wv x I J)) hC84 2 rfl ?_
    exact wp_sub (Lo := [some (.ref 37), some (.int l1), some (.int l2), some (.int l3), some (.int l4), some (.int (l5 + (1 : Int32))), none, none, none, none]) (And.intro rfl (And.intro rfl (And.intro rfl (And.intro rfl (And.intro rfl (And.intro rfl (trivial))))))) k
  · have k := k.2 h
    refine wp_seg (C := gC84) (pc1 := 110) (Lo1 := [some (.ref 37), some (.int l1), some (.int l2), some (.int l3), some (.int l4), some (.int l5), some (.long l6), none, some (.int l8), some (.int s0)]) (st1' := [.int l2, .long (J 3 6), .long l6, .ref 41]) (w1 := (wv x I J)) hC84 7 rfl ?_
    refine cv_I (mj := 54) (a := 41) (as := [.long l6, .long (J 3 6), .int l2]) (r := []) rfl rfl rfl ⟨rfl, by decide, Nat.le_of_ble_eq_true rfl, Nat.le_of_ble_eq_true rfl⟩ rfl (wcI_mono k (fun r1 I1 J1 k => ?_))
    refine wp_seg (C := gC84) (pc1 := 114) (Lo1 := [some (.ref 37), some (.int l1), some (.int l2), some (.int l3), some (.int l4), some (.int l5), some (.long l6), none, some (.int l8), some (.int s0)]) (st1' := [.int l2, .int r1]) (w1 := (wv x I1 J1)) hC84 1 rfl ?_
    refine wj_lt (tgt := 124) rfl rfl (fun h => ?_) (fun h => ?_)
    · have k := k.1 h
      refine wp_seg (C := gC84) (pc1 := 19) (Lo1 := [some (.ref 37), some (.int l1), some (.int l2), some (.int l3), some (.int l4), some (.int (l5 + (1 : Int32))), some (.long l6), none, some (.int l8), some (.int s0)]) (st1' := []) (w1 := (wv x I1 J1)) hC84 2 rfl ?_
      exact wp_sub (Lo := [some (.ref 37), some (.int l1), some (.int l2), some (.int l3), some (.int l4), some (.int (l5 + (1 : Int32))), none, none, none, none]) (And.intro rfl (And.intro rfl (And.intro rfl (And.intro rfl (And.intro rfl (And.intro rfl (trivial))))))) k
    · have k := k.2 h
      refine wp_seg (C := gC84) (pc1 := 124) (Lo1 := [some (.ref 37), some (.int l1), some (.int l2), some (.int l5), some (.int l8), some (.int l5), some (.long l6), none, some (.int l8), some (.int s0)]) (st1' := []) (w1 := (wv x I1 J1)) hC84 4 rfl ?_
      refine wp_seg (C := gC84) (pc1 := 19) (Lo1 := [some (.ref 37), some (.int l1), some (.int l2), some (.int l5), some (.int l8), some (.int (l5 + (1 : Int32))), some (.long l6), none, some (.int l8), some (.int s0)]) (st1' := []) (w1 := (wv x I1 J1)) hC84 2 rfl ?_
      exact wp_sub (Lo := [some (.ref 37), some (.int l1), some (.int l2), some (.int l5), some (.int l8), some (.int (l5 + (1 : Int32))), none, none, none, none]) (And.intro rfl (And.intro rfl (And.intro rfl (And.intro rfl (And.intro rfl (And.intro rfl (trivial))))))) k
set_option maxRecDepth 20000 in
theorem v85_37_0 {S : Nat × (Nat → Int32)} {d : Nat} {x : mX} {I : rI0} {J : rJ0} {p1 : Int32} {Q : Int32 → rI0 → rJ0 → Prop} (k : wp S (d + 1) 85 16 [some (.ref 37), some (.int p1), some (.int (I 4 2)), some (.int (-1 : Int32)), some (.int (0 : Int32)), none, none, none] [] (wv x I J) (rI x Q)) : wp S (d + 1) 85 0 [some (.ref 37), some (.int p1), none, none, none, none, none, none] [] (wv x I J) (rI x Q) := by
  refine wp_seg (C := gC85) (pc1 := 13) (Lo1 := [some (.ref 37), some (.int p1), some (.int (I 4 2)), some (.int (-1 : Int32)), none, none, none, none]) (st1' := []) (w1 := (wv x I J)) hC85 7 rfl ?_
  refine wp_seg (C := gC85) (pc1 := 16) (Lo1 := [some (.ref 37), some (.int p1), some (.int (I 4 2)), some (.int (-1 : Int32)), some (.int (0 : Int32)), none, none, none]) (st1' := []) (w1 := (wv x I J)) hC85 2 rfl ?_
  exact k
set_option maxRecDepth 20000 in
theorem v85_37_16 {S : Nat × (Nat → Int32)} {d : Nat} {x : mX} {I : rI0} {J : rJ0} {l1 : Int32} {l2 : Int32} {l3 : Int32} {l4 : Int32} {Q : Int32 → rI0 → rJ0 → Prop} (k : ((l4 < ((1 : Int32) <<< (l1 &&& 31)) → ((l3 = (-1 : Int32) → wp S (d + 1) 85 46 [some (.ref 37), some (.int l1), some (.int l2), some (.int l3), some (.int l4), none, none, none] [.int (1 : Int32)] (wv x I J) (rI x Q)) ∧ (¬ l3 = (-1 : Int32) → (wcI S d 249 [.int l4] x I J (fun r1 I1 J1 => (wcI S d 249 [.int l3] x I1 J1 (fun r2 I2 J2 => ((r1 < r2 → wp S (d + 1) 85 46 [some (.ref 37), some (.int l1), some (.int l2), some (.int l3), some (.int l4), none, none, none] [.int (1 : Int32)] (wv x I2 J2) (rI x Q)) ∧ (¬ r1 < r2 → wp S (d + 1) 85 46 [some (.ref 37), some (.int l1), some (.int l2), some (.int l3), some (.int l4), none, none, none] [.int (0 : Int32)] (wv x I2 J2) (rI x Q)))))))))) ∧ (¬ l4 < ((1 : Int32) <<< (l1 &&& 31)) → Q l3 I J))) : wp S (d + 1) 85 16 [some (.ref 37), some (.int l1), some (.int l2), some (.int l3), some (.int l4), none, none, none] [] (wv x I J) (rI x Q) := by
  refine wp_seg (C := gC85) (pc1 := 21) (Lo1 := [some (.ref 37), some (.int l1), some (.int l2), some (.int l3), some (.int l4), none, none, none]) (st1' := [.int ((1 : Int32) <<< (l1 &&& 31)), .int l4]) (w1 := (wv x I J)) hC85 4 rfl ?_
  refine wj_ge (tgt := 100) rfl rfl (fun h => ?_) (fun h => ?_)
  · have k := k.1 h
    refine wp_seg (C := gC85) (pc1 := 26) (Lo1 := [some (.ref 37), some (.int l1), some (.int l2), some (.int l3), some (.int l4), none, none, none]) (st1' := [.int (-1 : Int32), .int l3]) (w1 := (wv x I J)) hC85 2 rfl ?_
    refine wj_eq (tgt := 41) rfl rfl (fun h => ?_) (fun h => ?_)
    · have k := k.1 h
      refine wp_seg (C := gC85) (pc1 := 46) (Lo1 := [some (.ref 37), some (.int l1), some (.int l2), some (.int l3), some (.int l4), none, none, none]) (st1' := [.int (1 : Int32)]) (w1 := (wv x I J)) hC85 2 rfl ?_
      exact k
    · have k := k.2 h
      refine wp_seg (C := gC85) (pc1 := 31) (Lo1 := [some (.ref 37), some (.int l1), some (.int l2), some (.int l3), some (.int l4), none, none, none]) (st1' := [.int l4]) (w1 := (wv x I J)) hC85 1 rfl ?_
      refine cs_I (mj := 249) (nn := 0) (as := [.int l4]) (r := []) rfl rfl rfl ⟨rfl, by decide, Nat.le_of_ble_eq_true rfl, Nat.le_of_ble_eq_true rfl⟩ (by decide) (wcI_mono k (fun r1 I1 J1 k => ?_))
      refine wp_seg (C := gC85) (pc1 := 35) (Lo1 := [some (.ref 37), some (.int l1), some (.int l2), some (.int l3), some (.int l4), none, none, none]) (st1' := [.int l3, .int r1]) (w1 := (wv x I1 J1)) hC85 1 rfl ?_
      refine cs_I (mj := 249) (nn := 0) (as := [.int l3]) (r := [.int r1]) rfl rfl rfl ⟨rfl, by decide, Nat.le_of_ble_eq_true rfl, Nat.le_of_ble_eq_true rfl⟩ (by decide) (wcI_mono k (fun r2 I2 J2 k => ?_))
      refine wj_ge (tgt := 45) rfl rfl (fun h => ?_) (fun h => ?_)
      · have k := k.1 h
        refine wp_seg (C := gC85) (pc1 := 46) (Lo1 := [some (.ref 37), some (.int l1), some (.int l2), some (.int l3), some (.int l4), none, none, none]) (st1' := [.int (1 : Int32)]) (w1 := (wv x I2 J2)) hC85 2 rfl ?_
        exact k
      · have k := k.2 h
        refine wp_seg (C := gC85) (pc1 := 46) (Lo1 := [some (.ref 37), some (.int l1), some (.int l2), some (.int l3), some (.int l4), none, none, none]) (st1' := [.int (0 : Int32)]) (w1 := (wv x I2 J2)) hC85 1 rfl ?_
        exact k
  · have k := k.2 h
    refine wp_seg (C := gC85) (pc1 := 101) (Lo1 := [some (.ref 37), some (.int l1), some (.int l2), some (.int l3), some (.int l4), none, none, none]) (st1' := [.int l3]) (w1 := (wv x I J)) hC85 1 rfl ?_
    exact we_i rfl rfl k
set_option maxRecDepth 20000 in
theorem v85_37_46 {S : Nat × (Nat → Int32)} {d : Nat} {x : mX} {I : rI0} {J : rJ0} {l1 : Int32} {l2 : Int32} {l3 : Int32} {l4 : Int32} {s0 : Int32} {Q : Int32 → rI0 → rJ0 → Prop} (k : (wcJ S d 82 [.ref 37, .int l4, .int l1] x I J (fun r1 I1 J1 => ((s0 = (0 : Int32) → wp S (d + 1) 85 16 [some (.ref 37), some (.int l1), some (.int l2), some (.int l3), some (.int (l4 + (1 : Int32))), none, none, none] [] (wv x I1 J1) (rI x Q)) ∧ (¬ s0 = (0 : Int32) → (wcI S d 54 [.ref 41, .long (J1 3 5), .long ((J 3 6) ||| r1), .int l2] x I1 J1 (fun r2 I2 J2 => ((r2 < l2 → wp S (d + 1) 85 16 [some (.ref 37), some (.int l1), some (.int l2), some (.int l4), some (.int (l4 + (1 : Int32))), none, none, none] [] (wv x I2 J2) (rI x Q)) ∧ (¬ r2 < l2 → wp S (d + 1) 85 16 [some (.ref 37), some (.int l1), some (.int l2), some (.int l3), some (.int (l4 + (1 : Int32))), none, none, none] [] (wv x I2 J2) (rI x Q)))))))))) : wp S (d + 1) 85 46 [some (.ref 37), some (.int l1), some (.int l2), some (.int l3), some (.int l4), none, none, none] [.int s0] (wv x I J) (rI x Q) := by
  refine wp_seg (C := gC85) (pc1 := 59) (Lo1 := [some (.ref 37), some (.int l1), some (.int l2), some (.int l3), some (.int l4), some (.int s0), none, none]) (st1' := [.int l1, .int l4, .ref 37, .long (J 3 6)]) (w1 := (wv x I J)) hC85 7 rfl ?_
  refine cv_J (mj := 82) (a := 37) (as := [.int l4, .int l1]) (r := [.long (J 3 6)]) rfl rfl rfl ⟨rfl, by decide, Nat.le_of_ble_eq_true rfl, Nat.le_of_ble_eq_true rfl⟩ rfl (wcJ_mono k (fun r1 I1 J1 k => ?_))
  refine wp_seg (C := gC85) (pc1 := 67) (Lo1 := [some (.ref 37), some (.int l1), some (.int l2), some (.int l3), some (.int l4), some (.int s0), some (.long ((J 3 6) ||| r1)), none]) (st1' := [.int s0]) (w1 := (wv x I1 J1)) hC85 3 rfl ?_
  refine wi_eq (tgt := 94) rfl rfl (fun h => ?_) (fun h => ?_)
  · have k := k.1 h
    refine wp_seg (C := gC85) (pc1 := 16) (Lo1 := [some (.ref 37), some (.int l1), some (.int l2), some (.int l3), some (.int (l4 + (1 : Int32))), some (.int s0), some (.long ((J 3 6) ||| r1)), none]) (st1' := []) (w1 := (wv x I1 J1)) hC85 2 rfl ?_
    exact wp_sub (Lo := [some (.ref 37), some (.int l1), some (.int l2), some (.int l3), some (.int (l4 + (1 : Int32))), none, none, none]) (And.intro rfl (And.intro rfl (And.intro rfl (And.intro rfl (And.intro rfl (trivial)))))) k
  · have k := k.2 h
    refine wp_seg (C := gC85) (pc1 := 84) (Lo1 := [some (.ref 37), some (.int l1), some (.int l2), some (.int l3), some (.int l4), some (.int s0), some (.long ((J 3 6) ||| r1)), none]) (st1' := [.int l2, .long ((J 3 6) ||| r1), .long (J1 3 5), .ref 41]) (w1 := (wv x I1 J1)) hC85 7 rfl ?_
    refine cv_I (mj := 54) (a := 41) (as := [.long (J1 3 5), .long ((J 3 6) ||| r1), .int l2]) (r := []) rfl rfl rfl ⟨rfl, by decide, Nat.le_of_ble_eq_true rfl, Nat.le_of_ble_eq_true rfl⟩ rfl (wcI_mono k (fun r2 I2 J2 k => ?_))
    refine wp_seg (C := gC85) (pc1 := 88) (Lo1 := [some (.ref 37), some (.int l1), some (.int l2), some (.int l3), some (.int l4), some (.int s0), some (.long ((J 3 6) ||| r1)), none]) (st1' := [.int l2, .int r2]) (w1 := (wv x I2 J2)) hC85 1 rfl ?_
    refine wj_ge (tgt := 94) rfl rfl (fun h => ?_) (fun h => ?_)
    · have k := k.1 h
      refine wp_seg (C := gC85) (pc1 := 97) (Lo1 := [some (.ref 37), some (.int l1), some (.int l2), some (.int l4), some (.int (l4 + (1 : Int32))), some (.int s0), some (.long ((J 3 6) ||| r1)), none]) (st1' := []) (w1 := (wv x I2 J2)) hC85 3 rfl ?_
      refine wp_seg (C := gC85) (pc1 := 16) (Lo1 := [some (.ref 37), some (.int l1), some (.int l2), some (.int l4), some (.int (l4 + (1 : Int32))), some (.int s0), some (.long ((J 3 6) ||| r1)), none]) (st1' := []) (w1 := (wv x I2 J2)) hC85 1 rfl ?_
      exact wp_sub (Lo := [some (.ref 37), some (.int l1), some (.int l2), some (.int l4), some (.int (l4 + (1 : Int32))), none, none, none]) (And.intro rfl (And.intro rfl (And.intro rfl (And.intro rfl (And.intro rfl (trivial)))))) k
    · have k := k.2 h
      refine wp_seg (C := gC85) (pc1 := 16) (Lo1 := [some (.ref 37), some (.int l1), some (.int l2), some (.int l3), some (.int (l4 + (1 : Int32))), some (.int s0), some (.long ((J 3 6) ||| r1)), none]) (st1' := []) (w1 := (wv x I2 J2)) hC85 2 rfl ?_
      exact wp_sub (Lo := [some (.ref 37), some (.int l1), some (.int l2), some (.int l3), some (.int (l4 + (1 : Int32))), none, none, none]) (And.intro rfl (And.intro rfl (And.intro rfl (And.intro rfl (And.intro rfl (trivial)))))) k
set_option maxRecDepth 20000 in
theorem v86_37_0 {S : Nat × (Nat → Int32)} {d : Nat} {x : mX} {I : rI0} {J : rJ0} {p1 : Int32} {Q : Int32 → rI0 → rJ0 → Prop} (k : wp S (d + 1) 86 16 [some (.ref 37), some (.int p1), some (.int (I 4 2)), some (.int (0 : Int32)), some (.int (0 : Int32)), none, none] [] (wv x I J) (rI x Q)) : wp S (d + 1) 86 0 [some (.ref 37), some (.int p1), none, none, none, none, none] [] (wv x I J) (rI x Q) := by
  refine wp_seg (C := gC86) (pc1 := 13) (Lo1 := [some (.ref 37), some (.int p1), some (.int (I 4 2)), some (.int (0 : Int32)), none, none, none]) (st1' := []) (w1 := (wv x I J)) hC86 7 rfl ?_
  refine wp_seg (C := gC86) (pc1 := 16) (Lo1 := [some (.ref 37), some (.int p1), some (.int (I 4 2)), some (.int (0 : Int32)), some (.int (0 : Int32)), none, none]) (st1' := []) (w1 := (wv x I J)) hC86 2 rfl ?_
  exact k
set_option maxRecDepth 20000 in
theorem v86_37_16 {S : Nat × (Nat → Int32)} {d : Nat} {x : mX} {I : rI0} {J : rJ0} {l1 : Int32} {l2 : Int32} {l3 : Int32} {l4 : Int32} {Q : Int32 → rI0 → rJ0 → Prop} (k : ((l4 < ((1 : Int32) <<< (l1 &&& 31)) → (wcI S d 87 [.ref 37, .int l4, .int l3] x I J (fun r1 I1 J1 => ((r1 = (0 : Int32) → (wcJ S d 82 [.ref 37, .int l4, .int l1] x I1 J1 (fun r2 I2 J2 => (wcI S d 54 [.ref 41, .long ((J1 3 5) ||| r2), .long (J2 3 6), .int l2] x I2 J2 (fun r3 I3 J3 => ((r3 < l2 → wp S (d + 1) 86 16 [some (.ref 37), some (.int l1), some (.int l2), some (.int l3), some (.int (l4 + (1 : Int32))), none, none] [] (wv x I3 J3) (rI x Q)) ∧ (¬ r3 < l2 → (¬ mOut l3 256 ∧ wp S (d + 1) 86 16 [some (.ref 37), some (.int l1), some (.int l2), some (.int (l3 + (1 : Int32))), some (.int (l4 + (1 : Int32))), none, none] [] (wv x (mSet I3 39 l3.toNatClampNeg l4) J3) (rI x Q))))))))) ∧ (¬ r1 = (0 : Int32) → wp S (d + 1) 86 16 [some (.ref 37), some (.int l1), some (.int l2), some (.int l3), some (.int (l4 + (1 : Int32))), none, none] [] (wv x I1 J1) (rI x Q)))))) ∧ (¬ l4 < ((1 : Int32) <<< (l1 &&& 31)) → Q l3 I J))) : wp S (d + 1) 86 16 [some (.ref 37), some (.int l1), some (.int l2), some (.int l3), some (.int l4), none, none] [] (wv x I J) (rI x Q) := by
  refine wp_seg (C := gC86) (pc1 := 21) (Lo1 := [some (.ref 37), some (.int l1), some (.int l2), some (.int l3), some (.int l4), none, none]) (st1' := [.int ((1 : Int32) <<< (l1 &&& 31)), .int l4]) (w1 := (wv x I J)) hC86 4 rfl ?_
  refine wj_ge (tgt := 89) rfl rfl (fun h => ?_) (fun h => ?_)
  · have k := k.1 h
    refine wp_seg (C := gC86) (pc1 := 28) (Lo1 := [some (.ref 37), some (.int l1), some (.int l2), some (.int l3), some (.int l4), none, none]) (st1' := [.int l3, .int l4, .ref 37]) (w1 := (wv x I J)) hC86 3 rfl ?_
    refine cv_I (mj := 87) (a := 37) (as := [.int l4, .int l3]) (r := []) rfl rfl rfl ⟨rfl, by decide, Nat.le_of_ble_eq_true rfl, Nat.le_of_ble_eq_true rfl⟩ rfl (wcI_mono k (fun r1 I1 J1 k => ?_))
    refine wi_ne (tgt := 83) rfl rfl (fun h => ?_) (fun h => ?_)
    · have k := k.1 h
      refine wp_seg (C := gC86) (pc1 := 45) (Lo1 := [some (.ref 37), some (.int l1), some (.int l2), some (.int l3), some (.int l4), none, none]) (st1' := [.int l1, .int l4, .ref 37, .long (J1 3 5)]) (w1 := (wv x I1 J1)) hC86 6 rfl ?_
      refine cv_J (mj := 82) (a := 37) (as := [.int l4, .int l1]) (r := [.long (J1 3 5)]) rfl rfl rfl ⟨rfl, by decide, Nat.le_of_ble_eq_true rfl, Nat.le_of_ble_eq_true rfl⟩ rfl (wcJ_mono k (fun r2 I2 J2 k => ?_))
      refine wp_seg (C := gC86) (pc1 := 65) (Lo1 := [some (.ref 37), some (.int l1), some (.int l2), some (.int l3), some (.int l4), some (.long ((J1 3 5) ||| r2)), none]) (st1' := [.int l2, .long (J2 3 6), .long ((J1 3 5) ||| r2), .ref 41]) (w1 := (wv x I2 J2)) hC86 9 rfl ?_
      refine cv_I (mj := 54) (a := 41) (as := [.long ((J1 3 5) ||| r2), .long (J2 3 6), .int l2]) (r := []) rfl rfl rfl ⟨rfl, by decide, Nat.le_of_ble_eq_true rfl, Nat.le_of_ble_eq_true rfl⟩ rfl (wcI_mono k (fun r3 I3 J3 k => ?_))
      refine wp_seg (C := gC86) (pc1 := 69) (Lo1 := [some (.ref 37), some (.int l1), some (.int l2), some (.int l3), some (.int l4), some (.long ((J1 3 5) ||| r2)), none]) (st1' := [.int l2, .int r3]) (w1 := (wv x I3 J3)) hC86 1 rfl ?_
      refine wj_lt (tgt := 83) rfl rfl (fun h => ?_) (fun h => ?_)
      · have k := k.1 h
        refine wp_seg (C := gC86) (pc1 := 16) (Lo1 := [some (.ref 37), some (.int l1), some (.int l2), some (.int l3), some (.int (l4 + (1 : Int32))), some (.long ((J1 3 5) ||| r2)), none]) (st1' := []) (w1 := (wv x I3 J3)) hC86 2 rfl ?_
        exact wp_sub (Lo := [some (.ref 37), some (.int l1), some (.int l2), some (.int l3), some (.int (l4 + (1 : Int32))), none, none]) (And.intro rfl (And.intro rfl (And.intro rfl (And.intro rfl (And.intro rfl (trivial)))))) k
      · have k := k.2 h
        refine wp_seg (C := gC86) (pc1 := 79) (Lo1 := [some (.ref 37), some (.int l1), some (.int l2), some (.int l3), some (.int l4), some (.long ((J1 3 5) ||| r2)), none]) (st1' := [.int l4, .int l3, .ref 39]) (w1 := (wv x I3 J3)) hC86 4 rfl ?_
        refine ws_i (n := 256) rfl rfl k.1 ?_
        have k := k.2
        refine wp_seg (C := gC86) (pc1 := 86) (Lo1 := [some (.ref 37), some (.int l1), some (.int l2), some (.int (l3 + (1 : Int32))), some (.int (l4 + (1 : Int32))), some (.long ((J1 3 5) ||| r2)), none]) (st1' := []) (w1 := (wv x (mSet I3 39 l3.toNatClampNeg l4) J3)) hC86 2 rfl ?_
        refine wp_seg (C := gC86) (pc1 := 16) (Lo1 := [some (.ref 37), some (.int l1), some (.int l2), some (.int (l3 + (1 : Int32))), some (.int (l4 + (1 : Int32))), some (.long ((J1 3 5) ||| r2)), none]) (st1' := []) (w1 := (wv x (mSet I3 39 l3.toNatClampNeg l4) J3)) hC86 1 rfl ?_
        exact wp_sub (Lo := [some (.ref 37), some (.int l1), some (.int l2), some (.int (l3 + (1 : Int32))), some (.int (l4 + (1 : Int32))), none, none]) (And.intro rfl (And.intro rfl (And.intro rfl (And.intro rfl (And.intro rfl (trivial)))))) k
    · have k := k.2 h
      refine wp_seg (C := gC86) (pc1 := 16) (Lo1 := [some (.ref 37), some (.int l1), some (.int l2), some (.int l3), some (.int (l4 + (1 : Int32))), none, none]) (st1' := []) (w1 := (wv x I1 J1)) hC86 2 rfl ?_
      exact k
  · have k := k.2 h
    refine wp_seg (C := gC86) (pc1 := 90) (Lo1 := [some (.ref 37), some (.int l1), some (.int l2), some (.int l3), some (.int l4), none, none]) (st1' := [.int l3]) (w1 := (wv x I J)) hC86 1 rfl ?_
    exact we_i rfl rfl k
set_option maxRecDepth 20000 in
theorem v88_37_0 {S : Nat × (Nat → Int32)} {d : Nat} {x : mX} {I : rI0} {J : rJ0} {p1 : Int32} {Q : Int32 → rI0 → rJ0 → Prop} (k : wp S (d + 1) 88 6 [some (.ref 37), some (.int p1), some (.int ((1 : Int32) <<< (p1 &&& 31))), some (.int (0 : Int32))] [] (wv x I J) (rI x Q)) : wp S (d + 1) 88 0 [some (.ref 37), some (.int p1), none, none] [] (wv x I J) (rI x Q) := by
  refine wp_seg (C := gC88) (pc1 := 6) (Lo1 := [some (.ref 37), some (.int p1), some (.int ((1 : Int32) <<< (p1 &&& 31))), some (.int (0 : Int32))]) (st1' := []) (w1 := (wv x I J)) hC88 6 rfl ?_
  exact k
set_option maxRecDepth 20000 in
theorem v88_37_6 {S : Nat × (Nat → Int32)} {d : Nat} {x : mX} {I : rI0} {J : rJ0} {l1 : Int32} {l2 : Int32} {l3 : Int32} {Q : Int32 → rI0 → rJ0 → Prop} (k : ((l3 < l2 → (wcJ S d 82 [.ref 37, .int l3, .int l1] x I J (fun r1 I1 J1 => (wcI S d 54 [.ref 41, .long r1, .long (J1 3 6), .int (64 : Int32)] x I1 J1 (fun r2 I2 J2 => (¬ mOut l3 256 ∧ wp S (d + 1) 88 6 [some (.ref 37), some (.int l1), some (.int l2), some (.int (l3 + (1 : Int32)))] [] (wv x (mSet I2 38 l3.toNatClampNeg r2) J2) (rI x Q))))))) ∧ (¬ l3 < l2 → wp S (d + 1) 88 47 [some (.ref 37), some (.int l1), some (.int l2), some (.int (0 : Int32))] [] (wv x I J) (rI x Q)))) : wp S (d + 1) 88 6 [some (.ref 37), some (.int l1), some (.int l2), some (.int l3)] [] (wv x I J) (rI x Q) := by
  refine wp_seg (C := gC88) (pc1 := 8) (Lo1 := [some (.ref 37), some (.int l1), some (.int l2), some (.int l3)]) (st1' := [.int l2, .int l3]) (w1 := (wv x I J)) hC88 2 rfl ?_
  refine wj_ge (tgt := 45) rfl rfl (fun h => ?_) (fun h => ?_)
  · have k := k.1 h
    refine wp_seg (C := gC88) (pc1 := 23) (Lo1 := [some (.ref 37), some (.int l1), some (.int l2), some (.int l3)]) (st1' := [.int l1, .int l3, .ref 37, .ref 41, .int l3, .ref 38]) (w1 := (wv x I J)) hC88 8 rfl ?_
    refine cv_J (mj := 82) (a := 37) (as := [.int l3, .int l1]) (r := [.ref 41, .int l3, .ref 38]) rfl rfl rfl ⟨rfl, by decide, Nat.le_of_ble_eq_true rfl, Nat.le_of_ble_eq_true rfl⟩ rfl (wcJ_mono k (fun r1 I1 J1 k => ?_))
    refine wp_seg (C := gC88) (pc1 := 35) (Lo1 := [some (.ref 37), some (.int l1), some (.int l2), some (.int l3)]) (st1' := [.int (64 : Int32), .long (J1 3 6), .long r1, .ref 41, .int l3, .ref 38]) (w1 := (wv x I1 J1)) hC88 4 rfl ?_
    refine cv_I (mj := 54) (a := 41) (as := [.long r1, .long (J1 3 6), .int (64 : Int32)]) (r := [.int l3, .ref 38]) rfl rfl rfl ⟨rfl, by decide, Nat.le_of_ble_eq_true rfl, Nat.le_of_ble_eq_true rfl⟩ rfl (wcI_mono k (fun r2 I2 J2 k => ?_))
    refine ws_i (n := 256) rfl rfl k.1 ?_
    have k := k.2
    refine wp_seg (C := gC88) (pc1 := 6) (Lo1 := [some (.ref 37), some (.int l1), some (.int l2), some (.int (l3 + (1 : Int32)))]) (st1' := []) (w1 := (wv x (mSet I2 38 l3.toNatClampNeg r2) J2)) hC88 2 rfl ?_
    exact k
  · have k := k.2 h
    refine wp_seg (C := gC88) (pc1 := 47) (Lo1 := [some (.ref 37), some (.int l1), some (.int l2), some (.int (0 : Int32))]) (st1' := []) (w1 := (wv x I J)) hC88 2 rfl ?_
    exact k
set_option maxRecDepth 20000 in
theorem v88_37_47 {S : Nat × (Nat → Int32)} {d : Nat} {x : mX} {I : rI0} {J : rJ0} {l1 : Int32} {l2 : Int32} {l3 : Int32} {Q : Int32 → rI0 → rJ0 → Prop} (k : ((l3 < l1 → (wcI S d 89 [.ref 37, .int l3, .int l1] x I J (fun r1 I1 J1 => (¬ mOut l3 8 ∧ wp S (d + 1) 88 47 [some (.ref 37), some (.int l1), some (.int l2), some (.int (l3 + (1 : Int32)))] [] (wv x (mSet I1 40 l3.toNatClampNeg r1) J1) (rI x Q))))) ∧ (¬ l3 < l1 → (¬ mOut (l2 - (1 : Int32)) 256 ∧ Q (I 38 ((l2 - (1 : Int32)).toNatClampNeg)) (mSet I 37 7 l1) J)))) : wp S (d + 1) 88 47 [some (.ref 37), some (.int l1), some (.int l2), some (.int l3)] [] (wv x I J) (rI x Q) := by
  refine wp_seg (C := gC88) (pc1 := 49) (Lo1 := [some (.ref 37), some (.int l1), some (.int l2), some (.int l3)]) (st1' := [.int l1, .int l3]) (w1 := (wv x I J)) hC88 2 rfl ?_
  refine wj_ge (tgt := 70) rfl rfl (fun h => ?_) (fun h => ?_)
  · have k := k.1 h
    refine wp_seg (C := gC88) (pc1 := 60) (Lo1 := [some (.ref 37), some (.int l1), some (.int l2), some (.int l3)]) (st1' := [.int l1, .int l3, .ref 37, .int l3, .ref 40]) (w1 := (wv x I J)) hC88 6 rfl ?_
    refine cv_I (mj := 89) (a := 37) (as := [.int l3, .int l1]) (r := [.int l3, .ref 40]) rfl rfl rfl ⟨rfl, by decide, Nat.le_of_ble_eq_true rfl, Nat.le_of_ble_eq_true rfl⟩ rfl (wcI_mono k (fun r1 I1 J1 k => ?_))
    refine ws_i (n := 8) rfl rfl k.1 ?_
    have k := k.2
    refine wp_seg (C := gC88) (pc1 := 47) (Lo1 := [some (.ref 37), some (.int l1), some (.int l2), some (.int (l3 + (1 : Int32)))]) (st1' := []) (w1 := (wv x (mSet I1 40 l3.toNatClampNeg r1) J1)) hC88 2 rfl ?_
    exact k
  · have k := k.2 h
    refine wp_seg (C := gC88) (pc1 := 82) (Lo1 := [some (.ref 37), some (.int l1), some (.int l2), some (.int l3)]) (st1' := [.int (l2 - (1 : Int32)), .ref 38]) (w1 := (wv x (mSet I 37 7 l1) J)) hC88 8 rfl ?_
    refine wa_i (n := 256) rfl (by decide) rfl k.1 ?_
    have k := k.2
    exact we_i rfl rfl k
set_option maxRecDepth 20000 in
theorem v81_37_0 {S : Nat × (Nat → Int32)} {d : Nat} {x : mX} {I : rI0} {J : rJ0} {p1 : Int32} {p2 : Int32} {Q : Int32 → rI0 → rJ0 → Prop} (k : wp S (d + 1) 81 5 [some (.ref 37), some (.int p1), some (.int p2), some (.long (0 : Int64)), none, some (.int p1)] [] (wv x I J) (rI x Q)) : wp S (d + 1) 81 0 [some (.ref 37), some (.int p1), some (.int p2), none, none, none] [] (wv x I J) (rI x Q) := by
  refine wp_seg (C := gC81) (pc1 := 5) (Lo1 := [some (.ref 37), some (.int p1), some (.int p2), some (.long (0 : Int64)), none, some (.int p1)]) (st1' := []) (w1 := (wv x I J)) hC81 4 rfl ?_
  exact k
set_option maxRecDepth 20000 in
theorem v81_37_5 {S : Nat × (Nat → Int32)} {d : Nat} {x : mX} {I : rI0} {J : rJ0} {l1 : Int32} {l2 : Int32} {l3 : Int64} {l5 : Int32} {Q : Int32 → rI0 → rJ0 → Prop} (k : ((l5 < l2 → (¬ mOut l5 940 ∧ (wcI S d 24 [.ref 4, .int (I 2 l5.toNatClampNeg)] x I J (fun r1 I1 J1 => ((r1 = (0 : Int32) → Q (0 : Int32) I1 J1) ∧ (¬ r1 = (0 : Int32) → (¬ mOut l5 940 ∧ (wcI S d 142 [.long l3, .int (I1 2 l5.toNatClampNeg)] x I1 J1 (fun r2 I2 J2 => ((r2 = (1 : Int32) → Q (0 : Int32) I2 J2) ∧ (¬ r2 = (1 : Int32) → (¬ mOut l5 940 ∧ wp S (d + 1) 81 5 [some (.ref 37), some (.int l1), some (.int l2), some (.long (l3 ||| ((1 : Int64) <<< ((I2 2 l5.toNatClampNeg).toInt64 &&& 63)))), none, some (.int (l5 + (1 : Int32)))] [] (wv x I2 J2) (rI x Q))))))))))))) ∧ (¬ l5 < l2 → Q (1 : Int32) I J))) : wp S (d + 1) 81 5 [some (.ref 37), some (.int l1), some (.int l2), some (.long l3), none, some (.int l5)] [] (wv x I J) (rI x Q) := by
  refine wp_seg (C := gC81) (pc1 := 8) (Lo1 := [some (.ref 37), some (.int l1), some (.int l2), some (.long l3), none, some (.int l5)]) (st1' := [.int l2, .int l5]) (w1 := (wv x I J)) hC81 2 rfl ?_
  refine wj_ge (tgt := 66) rfl rfl (fun h => ?_) (fun h => ?_)
  · have k := k.1 h
    refine wp_seg (C := gC81) (pc1 := 24) (Lo1 := [some (.ref 37), some (.int l1), some (.int l2), some (.long l3), none, some (.int l5)]) (st1' := [.int l5, .ref 2, .ref 4]) (w1 := (wv x I J)) hC81 6 rfl ?_
    refine wa_i (n := 940) rfl (by decide) rfl k.1 ?_
    have k := k.2
    refine cv_I (mj := 24) (a := 4) (as := [.int (I 2 l5.toNatClampNeg)]) (r := []) rfl rfl rfl ⟨rfl, by decide, Nat.le_of_ble_eq_true rfl, Nat.le_of_ble_eq_true rfl⟩ rfl (wcI_mono k (fun r1 I1 J1 k => ?_))
    refine wi_eq (tgt := 46) rfl rfl (fun h => ?_) (fun h => ?_)
    · have k := k.1 h
      refine wp_seg (C := gC81) (pc1 := 47) (Lo1 := [some (.ref 37), some (.int l1), some (.int l2), some (.long l3), none, some (.int l5)]) (st1' := [.int (0 : Int32)]) (w1 := (wv x I1 J1)) hC81 1 rfl ?_
      exact we_z rfl rfl (Or.inl rfl) k
    · have k := k.2 h
      refine wp_seg (C := gC81) (pc1 := 38) (Lo1 := [some (.ref 37), some (.int l1), some (.int l2), some (.long l3), none, some (.int l5)]) (st1' := [.int l5, .ref 2, .long l3]) (w1 := (wv x I1 J1)) hC81 4 rfl ?_
      refine wa_i (n := 940) rfl (by decide) rfl k.1 ?_
      have k := k.2
      refine cs_I (mj := 142) (nn := 1) (as := [.long l3, .int (I1 2 l5.toNatClampNeg)]) (r := []) rfl rfl rfl ⟨rfl, by decide, Nat.le_of_ble_eq_true rfl, Nat.le_of_ble_eq_true rfl⟩ (by decide) (wcI_mono k (fun r2 I2 J2 k => ?_))
      refine wp_seg (C := gC81) (pc1 := 43) (Lo1 := [some (.ref 37), some (.int l1), some (.int l2), some (.long l3), none, some (.int l5)]) (st1' := [.int (1 : Int32), .int r2]) (w1 := (wv x I2 J2)) hC81 1 rfl ?_
      refine wj_ne (tgt := 48) rfl rfl (fun h => ?_) (fun h => ?_)
      · have k := k.1 h
        refine wp_seg (C := gC81) (pc1 := 47) (Lo1 := [some (.ref 37), some (.int l1), some (.int l2), some (.long l3), none, some (.int l5)]) (st1' := [.int (0 : Int32)]) (w1 := (wv x I2 J2)) hC81 1 rfl ?_
        exact we_z rfl rfl (Or.inl rfl) k
      · have k := k.2 h
        refine wp_seg (C := gC81) (pc1 := 56) (Lo1 := [some (.ref 37), some (.int l1), some (.int l2), some (.long l3), none, some (.int l5)]) (st1' := [.int l5, .ref 2, .long (1 : Int64), .long l3]) (w1 := (wv x I2 J2)) hC81 5 rfl ?_
        refine wa_i (n := 940) rfl (by decide) rfl k.1 ?_
        have k := k.2
        refine wp_seg (C := gC81) (pc1 := 63) (Lo1 := [some (.ref 37), some (.int l1), some (.int l2), some (.long (l3 ||| ((1 : Int64) <<< ((I2 2 l5.toNatClampNeg).toInt64 &&& 63)))), none, some (.int (l5 + (1 : Int32)))]) (st1' := []) (w1 := (wv x I2 J2)) hC81 4 rfl ?_
        refine wp_seg (C := gC81) (pc1 := 5) (Lo1 := [some (.ref 37), some (.int l1), some (.int l2), some (.long (l3 ||| ((1 : Int64) <<< ((I2 2 l5.toNatClampNeg).toInt64 &&& 63)))), none, some (.int (l5 + (1 : Int32)))]) (st1' := []) (w1 := (wv x I2 J2)) hC81 1 rfl ?_
        exact k
  · have k := k.2 h
    refine wp_seg (C := gC81) (pc1 := 67) (Lo1 := [some (.ref 37), some (.int l1), some (.int l2), some (.long l3), none, some (.int l5)]) (st1' := [.int (1 : Int32)]) (w1 := (wv x I J)) hC81 1 rfl ?_
    exact we_z rfl rfl (Or.inr rfl) k
set_option maxRecDepth 20000 in
theorem v92_37_0 {S : Nat × (Nat → Int32)} {d : Nat} {x : mX} {I : rI0} {J : rJ0} {p1 : Int32} {p2 : Int32} {Q : Int32 → rI0 → rJ0 → Prop} (k : wp S (d + 1) 92 5 [some (.ref 37), some (.int p1), some (.int p2), some (.int (-1 : Int32)), some (.int (1 : Int32)), none, none, none, none, none, none, none] [] (wv x I J) (rI x Q)) : wp S (d + 1) 92 0 [some (.ref 37), some (.int p1), some (.int p2), none, none, none, none, none, none, none, none, none] [] (wv x I J) (rI x Q) := by
  refine wp_seg (C := gC92) (pc1 := 5) (Lo1 := [some (.ref 37), some (.int p1), some (.int p2), some (.int (-1 : Int32)), some (.int (1 : Int32)), none, none, none, none, none, none, none]) (st1' := []) (w1 := (wv x I J)) hC92 4 rfl ?_
  exact k
set_option maxRecDepth 20000 in
theorem v92_37_5 {S : Nat × (Nat → Int32)} {d : Nat} {x : mX} {I : rI0} {J : rJ0} {l1 : Int32} {l2 : Int32} {l3 : Int32} {l4 : Int32} {Q : Int32 → rI0 → rJ0 → Prop} (k : ((l1 < l4 → wp S (d + 1) 92 148 [some (.ref 37), some (.int l1), some (.int l2), some (.int l3), some (.int (l1 + (1 : Int32))), none, none, none, none, none, none, none] [] (wv x (mSet I 37 9 (65 : Int32)) J) (rI x Q)) ∧ (¬ l1 < l4 → wp S (d + 1) 92 20 [some (.ref 37), some (.int l1), some (.int l2), some (.int l3), some (.int l4), some (.int (64 : Int32)), some (.int (l1 + (1 : Int32))), none, none, none, none, none] [] (wv x I J) (rI x Q)))) : wp S (d + 1) 92 5 [some (.ref 37), some (.int l1), some (.int l2), some (.int l3), some (.int l4), none, none, none, none, none, none, none] [] (wv x I J) (rI x Q) := by
  refine wp_seg (C := gC92) (pc1 := 8) (Lo1 := [some (.ref 37), some (.int l1), some (.int l2), some (.int l3), some (.int l4), none, none, none, none, none, none, none]) (st1' := [.int l1, .int l4]) (w1 := (wv x I J)) hC92 2 rfl ?_
  refine wj_gt (tgt := 137) rfl rfl (fun h => ?_) (fun h => ?_)
  · have k := k.1 h
    refine wp_seg (C := gC92) (pc1 := 148) (Lo1 := [some (.ref 37), some (.int l1), some (.int l2), some (.int l3), some (.int (l1 + (1 : Int32))), none, none, none, none, none, none, none]) (st1' := []) (w1 := (wv x (mSet I 37 9 (65 : Int32)) J)) hC92 7 rfl ?_
    exact k
  · have k := k.2 h
    refine wp_seg (C := gC92) (pc1 := 20) (Lo1 := [some (.ref 37), some (.int l1), some (.int l2), some (.int l3), some (.int l4), some (.int (64 : Int32)), some (.int (l1 + (1 : Int32))), none, none, none, none, none]) (st1' := []) (w1 := (wv x I J)) hC92 6 rfl ?_
    exact k
set_option maxRecDepth 20000 in
theorem v92_37_20 {S : Nat × (Nat → Int32)} {d : Nat} {x : mX} {I : rI0} {J : rJ0} {l1 : Int32} {l2 : Int32} {l3 : Int32} {l4 : Int32} {l5 : Int32} {l6 : Int32} {Q : Int32 → rI0 → rJ0 → Prop} (k : ((l6 < l2 → (¬ mOut l4 940 ∧ (¬ mOut l6 940 ∧ (wcI S d 54 [.ref 41, .long ((J 3 5) ||| ((1 : Int64) <<< ((I 2 l4.toNatClampNeg).toInt64 &&& 63))), .long ((J 3 6) ||| ((1 : Int64) <<< ((I 2 l6.toNatClampNeg).toInt64 &&& 63))), .int (64 : Int32)] x I J (fun r1 I1 J1 => (¬ mOut (((l4 * (8 : Int32)) + l6) - l1) 256 ∧ wp S (d + 1) 92 20 [some (.ref 37), some (.int l1), some (.int l2), some (.int l3), some (.int l4), some (.int (if r1 < l5 then r1 else l5)), some (.int (l6 + (1 : Int32))), none, none, none, none, none] [] (wv x (mSet I1 38 ((((l4 * (8 : Int32)) + l6) - l1).toNatClampNeg) r1) J1) (rI x Q))))))) ∧ (¬ l6 < l2 → ((l3 < l5 → (¬ mOut l4 940 ∧ wp S (d + 1) 92 5 [some (.ref 37), some (.int l1), some (.int l2), some (.int l5), some (.int (l4 + (1 : Int32))), none, none, none, none, none, none, none] [] (wv x (mSet I 37 10 (I 2 l4.toNatClampNeg)) J) (rI x Q))) ∧ (¬ l3 < l5 → wp S (d + 1) 92 5 [some (.ref 37), some (.int l1), some (.int l2), some (.int l3), some (.int (l4 + (1 : Int32))), none, none, none, none, none, none, none] [] (wv x I J) (rI x Q)))))) : wp S (d + 1) 92 20 [some (.ref 37), some (.int l1), some (.int l2), some (.int l3), some (.int l4), some (.int l5), some (.int l6), none, none, none, none, none] [] (wv x I J) (rI x Q) := by
  refine wp_seg (C := gC92) (pc1 := 23) (Lo1 := [some (.ref 37), some (.int l1), some (.int l2), some (.int l3), some (.int l4), some (.int l5), some (.int l6), none, none, none, none, none]) (st1' := [.int l2, .int l6]) (w1 := (wv x I J)) hC92 2 rfl ?_
  refine wj_ge (tgt := 111) rfl rfl (fun h => ?_) (fun h => ?_)
  · have k := k.1 h
    refine wp_seg (C := gC92) (pc1 := 40) (Lo1 := [some (.ref 37), some (.int l1), some (.int l2), some (.int l3), some (.int l4), some (.int l5), some (.int l6), none, none, none, none, none]) (st1' := [.int l4, .ref 2, .long (1 : Int64), .long (J 3 5)]) (w1 := (wv x I J)) hC92 7 rfl ?_
    refine wa_i (n := 940) rfl (by decide) rfl k.1 ?_
    have k := k.2
    refine wp_seg (C := gC92) (pc1 := 59) (Lo1 := [some (.ref 37), some (.int l1), some (.int l2), some (.int l3), some (.int l4), some (.int l5), some (.int l6), some (.long ((J 3 5) ||| ((1 : Int64) <<< ((I 2 l4.toNatClampNeg).toInt64 &&& 63)))), none, none, none, none]) (st1' := [.int l6, .ref 2, .long (1 : Int64), .long (J 3 6)]) (w1 := (wv x I J)) hC92 10 rfl ?_
    refine wa_i (n := 940) rfl (by decide) rfl k.1 ?_
    have k := k.2
    refine wp_seg (C := gC92) (pc1 := 74) (Lo1 := [some (.ref 37), some (.int l1), some (.int l2), some (.int l3), some (.int l4), some (.int l5), some (.int l6), some (.long ((J 3 5) ||| ((1 : Int64) <<< ((I 2 l4.toNatClampNeg).toInt64 &&& 63)))), none, some (.long ((J 3 6) ||| ((1 : Int64) <<< ((I 2 l6.toNatClampNeg).toInt64 &&& 63)))), none, none]) (st1' := [.int (64 : Int32), .long ((J 3 6) ||| ((1 : Int64) <<< ((I 2 l6.toNatClampNeg).toInt64 &&& 63))), .long ((J 3 5) ||| ((1 : Int64) <<< ((I 2 l4.toNatClampNeg).toInt64 &&& 63))), .ref 41]) (w1 := (wv x I J)) hC92 8 rfl ?_
    refine cv_I (mj := 54) (a := 41) (as := [.long ((J 3 5) ||| ((1 : Int64) <<< ((I 2 l4.toNatClampNeg).toInt64 &&& 63))), .long ((J 3 6) ||| ((1 : Int64) <<< ((I 2 l6.toNatClampNeg).toInt64 &&& 63))), .int (64 : Int32)]) (r := []) rfl rfl rfl ⟨rfl, by decide, Nat.le_of_ble_eq_true rfl, Nat.le_of_ble_eq_true rfl⟩ rfl (wcI_mono k (fun r1 I1 J1 k => ?_))
    refine wp_seg (C := gC92) (pc1 := 95) (Lo1 := [some (.ref 37), some (.int l1), some (.int l2), some (.int l3), some (.int l4), some (.int l5), some (.int l6), some (.long ((J 3 5) ||| ((1 : Int64) <<< ((I 2 l4.toNatClampNeg).toInt64 &&& 63)))), none, some (.long ((J 3 6) ||| ((1 : Int64) <<< ((I 2 l6.toNatClampNeg).toInt64 &&& 63)))), none, some (.int r1)]) (st1' := [.int r1, .int (((l4 * (8 : Int32)) + l6) - l1), .ref 38]) (w1 := (wv x I1 J1)) hC92 11 rfl ?_
    refine ws_i (n := 256) rfl rfl k.1 ?_
    have k := k.2
    refine wp_seg (C := gC92) (pc1 := 100) (Lo1 := [some (.ref 37), some (.int l1), some (.int l2), some (.int l3), some (.int l4), some (.int l5), some (.int l6), some (.long ((J 3 5) ||| ((1 : Int64) <<< ((I 2 l4.toNatClampNeg).toInt64 &&& 63)))), none, some (.long ((J 3 6) ||| ((1 : Int64) <<< ((I 2 l6.toNatClampNeg).toInt64 &&& 63)))), none, some (.int r1)]) (st1' := [.int r1, .int l5]) (w1 := (wv x (mSet I1 38 ((((l4 * (8 : Int32)) + l6) - l1).toNatClampNeg) r1) J1)) hC92 2 rfl ?_
    refine wm_2 (f := fun x y => if y < x then y else x) rfl rfl (Or.inr ⟨rfl, rfl⟩) (Nat.le_of_ble_eq_true rfl) ?_
    refine wp_seg (C := gC92) (pc1 := 108) (Lo1 := [some (.ref 37), some (.int l1), some (.int l2), some (.int l3), some (.int l4), some (.int (if r1 < l5 then r1 else l5)), some (.int (l6 + (1 : Int32))), some (.long ((J 3 5) ||| ((1 : Int64) <<< ((I 2 l4.toNatClampNeg).toInt64 &&& 63)))), none, some (.long ((J 3 6) ||| ((1 : Int64) <<< ((I 2 l6.toNatClampNeg).toInt64 &&& 63)))), none, some (.int r1)]) (st1' := []) (w1 := (wv x (mSet I1 38 ((((l4 * (8 : Int32)) + l6) - l1).toNatClampNeg) r1) J1)) hC92 2 rfl ?_
    refine wp_seg (C := gC92) (pc1 := 20) (Lo1 := [some (.ref 37), some (.int l1), some (.int l2), some (.int l3), some (.int l4), some (.int (if r1 < l5 then r1 else l5)), some (.int (l6 + (1 : Int32))), some (.long ((J 3 5) ||| ((1 : Int64) <<< ((I 2 l4.toNatClampNeg).toInt64 &&& 63)))), none, some (.long ((J 3 6) ||| ((1 : Int64) <<< ((I 2 l6.toNatClampNeg).toInt64 &&& 63)))), none, some (.int r1)]) (st1' := []) (w1 := (wv x (mSet I1 38 ((((l4 * (8 : Int32)) + l6) - l1).toNatClampNeg) r1) J1)) hC92 1 rfl ?_
    exact wp_sub (Lo := [some (.ref 37), some (.int l1), some (.int l2), some (.int l3), some (.int l4), some (.int (if r1 < l5 then r1 else l5)), some (.int (l6 + (1 : Int32))), none, none, none, none, none]) (And.intro rfl (And.intro rfl (And.intro rfl (And.intro rfl (And.intro rfl (And.intro rfl (And.intro rfl (trivial)))))))) k
  · have k := k.2 h
    refine wp_seg (C := gC92) (pc1 := 114) (Lo1 := [some (.ref 37), some (.int l1), some (.int l2), some (.int l3), some (.int l4), some (.int l5), some (.int l6), none, none, none, none, none]) (st1' := [.int l3, .int l5]) (w1 := (wv x I J)) hC92 2 rfl ?_
    refine wj_le (tgt := 131) rfl rfl (fun h => ?_) (fun h => ?_)
    · have k := k.1 h
      refine wp_seg (C := gC92) (pc1 := 127) (Lo1 := [some (.ref 37), some (.int l1), some (.int l2), some (.int l5), some (.int l4), some (.int l5), some (.int l6), none, none, none, none, none]) (st1' := [.int l4, .ref 2, .ref 37]) (w1 := (wv x I J)) hC92 6 rfl ?_
      refine wa_i (n := 940) rfl (by decide) rfl k.1 ?_
      have k := k.2
      refine wp_seg (C := gC92) (pc1 := 5) (Lo1 := [some (.ref 37), some (.int l1), some (.int l2), some (.int l5), some (.int (l4 + (1 : Int32))), some (.int l5), some (.int l6), none, none, none, none, none]) (st1' := []) (w1 := (wv x (mSet I 37 10 (I 2 l4.toNatClampNeg)) J)) hC92 3 rfl ?_
      exact wp_sub (Lo := [some (.ref 37), some (.int l1), some (.int l2), some (.int l5), some (.int (l4 + (1 : Int32))), none, none, none, none, none, none, none]) (And.intro rfl (And.intro rfl (And.intro rfl (And.intro rfl (And.intro rfl (trivial)))))) k
    · have k := k.2 h
      refine wp_seg (C := gC92) (pc1 := 5) (Lo1 := [some (.ref 37), some (.int l1), some (.int l2), some (.int l3), some (.int (l4 + (1 : Int32))), some (.int l5), some (.int l6), none, none, none, none, none]) (st1' := []) (w1 := (wv x I J)) hC92 2 rfl ?_
      exact wp_sub (Lo := [some (.ref 37), some (.int l1), some (.int l2), some (.int l3), some (.int (l4 + (1 : Int32))), none, none, none, none, none, none, none]) (And.intro rfl (And.intro rfl (And.intro rfl (And.intro rfl (And.intro rfl (trivial)))))) k
set_option maxRecDepth 20000 in
theorem v92_37_148 {S : Nat × (Nat → Int32)} {d : Nat} {x : mX} {I : rI0} {J : rJ0} {l1 : Int32} {l2 : Int32} {l3 : Int32} {l4 : Int32} {Q : Int32 → rI0 → rJ0 → Prop} (k : ((l4 < l2 → wp S (d + 1) 92 160 [some (.ref 37), some (.int l1), some (.int l2), some (.int l3), some (.int l4), some (.int (-1 : Int32)), some (.int (1 : Int32)), none, none, none, none, none] [] (wv x I J) (rI x Q)) ∧ (¬ l4 < l2 → Q l3 I J))) : wp S (d + 1) 92 148 [some (.ref 37), some (.int l1), some (.int l2), some (.int l3), some (.int l4), none, none, none, none, none, none, none] [] (wv x I J) (rI x Q) := by
  refine wp_seg (C := gC92) (pc1 := 151) (Lo1 := [some (.ref 37), some (.int l1), some (.int l2), some (.int l3), some (.int l4), none, none, none, none, none, none, none]) (st1' := [.int l2, .int l4]) (w1 := (wv x I J)) hC92 2 rfl ?_
  refine wj_ge (tgt := 226) rfl rfl (fun h => ?_) (fun h => ?_)
  · have k := k.1 h
    refine wp_seg (C := gC92) (pc1 := 160) (Lo1 := [some (.ref 37), some (.int l1), some (.int l2), some (.int l3), some (.int l4), some (.int (-1 : Int32)), some (.int (1 : Int32)), none, none, none, none, none]) (st1' := []) (w1 := (wv x I J)) hC92 4 rfl ?_
    exact k
  · have k := k.2 h
    refine wp_seg (C := gC92) (pc1 := 227) (Lo1 := [some (.ref 37), some (.int l1), some (.int l2), some (.int l3), some (.int l4), none, none, none, none, none, none, none]) (st1' := [.int l3]) (w1 := (wv x I J)) hC92 1 rfl ?_
    exact we_i rfl rfl k
set_option maxRecDepth 20000 in
theorem v92_37_160 {S : Nat × (Nat → Int32)} {d : Nat} {x : mX} {I : rI0} {J : rJ0} {l1 : Int32} {l2 : Int32} {l3 : Int32} {l4 : Int32} {l5 : Int32} {l6 : Int32} {Q : Int32 → rI0 → rJ0 → Prop} (k : ((l1 < l6 → ((l5 < (I 37 9) → (¬ mOut l4 940 ∧ wp S (d + 1) 92 148 [some (.ref 37), some (.int l1), some (.int l2), some (.int l3), some (.int (l4 + (1 : Int32))), none, none, none, none, none, none, none] [] (wv x (mSet (mSet I 37 9 l5) 37 11 (I 2 l4.toNatClampNeg)) J) (rI x Q))) ∧ (¬ l5 < (I 37 9) → wp S (d + 1) 92 148 [some (.ref 37), some (.int l1), some (.int l2), some (.int l3), some (.int (l4 + (1 : Int32))), none, none, none, none, none, none, none] [] (wv x I J) (rI x Q)))) ∧ (¬ l1 < l6 → (¬ mOut (((l6 * (8 : Int32)) + l4) - l1) 256 ∧ wp S (d + 1) 92 160 [some (.ref 37), some (.int l1), some (.int l2), some (.int l3), some (.int l4), some (.int (if l5 < (I 38 ((((l6 * (8 : Int32)) + l4) - l1).toNatClampNeg)) then I 38 ((((l6 * (8 : Int32)) + l4) - l1).toNatClampNeg) else l5)), some (.int (l6 + (1 : Int32))), none, none, none, none, none] [] (wv x I J) (rI x Q))))) : wp S (d + 1) 92 160 [some (.ref 37), some (.int l1), some (.int l2), some (.int l3), some (.int l4), some (.int l5), some (.int l6), none, none, none, none, none] [] (wv x I J) (rI x Q) := by
  refine wp_seg (C := gC92) (pc1 := 163) (Lo1 := [some (.ref 37), some (.int l1), some (.int l2), some (.int l3), some (.int l4), some (.int l5), some (.int l6), none, none, none, none, none]) (st1' := [.int l1, .int l6]) (w1 := (wv x I J)) hC92 2 rfl ?_
  refine wj_gt (tgt := 194) rfl rfl (fun h => ?_) (fun h => ?_)
  · have k := k.1 h
    refine wp_seg (C := gC92) (pc1 := 200) (Lo1 := [some (.ref 37), some (.int l1), some (.int l2), some (.int l3), some (.int l4), some (.int l5), some (.int l6), none, none, none, none, none]) (st1' := [.int (I 37 9), .int l5]) (w1 := (wv x I J)) hC92 3 rfl ?_
    refine wj_ge (tgt := 220) rfl rfl (fun h => ?_) (fun h => ?_)
    · have k := k.1 h
      refine wp_seg (C := gC92) (pc1 := 216) (Lo1 := [some (.ref 37), some (.int l1), some (.int l2), some (.int l3), some (.int l4), some (.int l5), some (.int l6), none, none, none, none, none]) (st1' := [.int l4, .ref 2, .ref 37]) (w1 := (wv x (mSet I 37 9 l5) J)) hC92 7 rfl ?_
      refine wa_i (n := 940) rfl (by decide) rfl k.1 ?_
      have k := k.2
      refine wp_seg (C := gC92) (pc1 := 148) (Lo1 := [some (.ref 37), some (.int l1), some (.int l2), some (.int l3), some (.int (l4 + (1 : Int32))), some (.int l5), some (.int l6), none, none, none, none, none]) (st1' := []) (w1 := (wv x (mSet (mSet I 37 9 l5) 37 11 (I 2 l4.toNatClampNeg)) J)) hC92 3 rfl ?_
      exact wp_sub (Lo := [some (.ref 37), some (.int l1), some (.int l2), some (.int l3), some (.int (l4 + (1 : Int32))), none, none, none, none, none, none, none]) (And.intro rfl (And.intro rfl (And.intro rfl (And.intro rfl (And.intro rfl (trivial)))))) k
    · have k := k.2 h
      refine wp_seg (C := gC92) (pc1 := 148) (Lo1 := [some (.ref 37), some (.int l1), some (.int l2), some (.int l3), some (.int (l4 + (1 : Int32))), some (.int l5), some (.int l6), none, none, none, none, none]) (st1' := []) (w1 := (wv x I J)) hC92 2 rfl ?_
      exact wp_sub (Lo := [some (.ref 37), some (.int l1), some (.int l2), some (.int l3), some (.int (l4 + (1 : Int32))), none, none, none, none, none, none, none]) (And.intro rfl (And.intro rfl (And.intro rfl (And.intro rfl (And.intro rfl (trivial)))))) k
  · have k := k.2 h
    refine wp_seg (C := gC92) (pc1 := 182) (Lo1 := [some (.ref 37), some (.int l1), some (.int l2), some (.int l3), some (.int l4), some (.int l5), some (.int l6), none, none, none, none, none]) (st1' := [.int (((l6 * (8 : Int32)) + l4) - l1), .ref 38, .int l5]) (w1 := (wv x I J)) hC92 10 rfl ?_
    refine wa_i (n := 256) rfl (by decide) rfl k.1 ?_
    have k := k.2
    refine wm_2 (f := fun x y => if x < y then y else x) rfl rfl (Or.inl ⟨rfl, rfl⟩) (Nat.le_of_ble_eq_true rfl) ?_
    refine wp_seg (C := gC92) (pc1 := 191) (Lo1 := [some (.ref 37), some (.int l1), some (.int l2), some (.int l3), some (.int l4), some (.int (if l5 < (I 38 ((((l6 * (8 : Int32)) + l4) - l1).toNatClampNeg)) then I 38 ((((l6 * (8 : Int32)) + l4) - l1).toNatClampNeg) else l5)), some (.int (l6 + (1 : Int32))), none, none, none, none, none]) (st1' := []) (w1 := (wv x I J)) hC92 2 rfl ?_
    refine wp_seg (C := gC92) (pc1 := 160) (Lo1 := [some (.ref 37), some (.int l1), some (.int l2), some (.int l3), some (.int l4), some (.int (if l5 < (I 38 ((((l6 * (8 : Int32)) + l4) - l1).toNatClampNeg)) then I 38 ((((l6 * (8 : Int32)) + l4) - l1).toNatClampNeg) else l5)), some (.int (l6 + (1 : Int32))), none, none, none, none, none]) (st1' := []) (w1 := (wv x I J)) hC92 1 rfl ?_
    exact k
set_option maxRecDepth 20000 in
theorem v23_4_0 {S : Nat × (Nat → Int32)} {d : Nat} {x : mX} {I : rI0} {J : rJ0} {Q : Int32 → rI0 → rJ0 → Prop} (k : Q ((I 4 0) * (I 4 1)) I J) : wp S d 23 0 [some (.ref 4)] [] (wv x I J) (rI x Q) := by
  refine wp_seg (C := gC23) (pc1 := 9) (Lo1 := [some (.ref 4)]) (st1' := [.int ((I 4 0) * (I 4 1))]) (w1 := (wv x I J)) hC23 5 rfl ?_
  exact we_i rfl rfl k
set_option maxRecDepth 20000 in
theorem v93_37_0 {S : Nat × (Nat → Int32)} {d : Nat} {x : mX} {I : rI0} {J : rJ0} {p1 : Int32} {Q : Int32 → rI0 → rJ0 → Prop} (k : wp S (d + 1) 93 17 [some (.ref 37), some (.int p1), some (.int (0 : Int32))] [] (wv x I (mSet (mSet (mSet J 37 14 (0 : Int64)) 37 15 (0 : Int64)) 37 16 (0 : Int64))) (rI x Q)) : wp S (d + 1) 93 0 [some (.ref 37), some (.int p1), none] [] (wv x I J) (rI x Q) := by
  refine wp_seg (C := gC93) (pc1 := 17) (Lo1 := [some (.ref 37), some (.int p1), some (.int (0 : Int32))]) (st1' := []) (w1 := (wv x I (mSet (mSet (mSet J 37 14 (0 : Int64)) 37 15 (0 : Int64)) 37 16 (0 : Int64)))) hC93 11 rfl ?_
  exact k
set_option maxRecDepth 20000 in
theorem v93_37_17 {S : Nat × (Nat → Int32)} {d : Nat} {x : mX} {I : rI0} {J : rJ0} {l1 : Int32} {l2 : Int32} {Q : Int32 → rI0 → rJ0 → Prop} (k : ((l2 < l1 → ((l2 < (64 : Int32) → (wcI S d 24 [.ref 4, .int l2] x I J (fun r1 I1 J1 => ((r1 = (0 : Int32) → wp S (d + 1) 93 17 [some (.ref 37), some (.int l1), some (.int (l2 + (1 : Int32)))] [] (wv x I1 J1) (rI x Q)) ∧ (¬ r1 = (0 : Int32) → (¬ mOut l2 940 ∧ (((3 : Int32) < (I1 2 l2.toNatClampNeg) → Q (0 : Int32) I1 J1) ∧ (¬ (3 : Int32) < (I1 2 l2.toNatClampNeg) → (¬ mOut l2 940 ∧ (((I1 2 l2.toNatClampNeg) < (3 : Int32) → wp S (d + 1) 93 75 [some (.ref 37), some (.int l1), some (.int l2)] [.int (1 : Int32), .int l2, .long (J1 37 14), .ref 37] (wv x I1 J1) (rI x Q)) ∧ (¬ (I1 2 l2.toNatClampNeg) < (3 : Int32) → wp S (d + 1) 93 75 [some (.ref 37), some (.int l1), some (.int l2)] [.int (0 : Int32), .int l2, .long (J1 37 14), .ref 37] (wv x I1 J1) (rI x Q)))))))))))) ∧ (¬ l2 < (64 : Int32) → Q (1 : Int32) I J))) ∧ (¬ l2 < l1 → Q (1 : Int32) I J))) : wp S (d + 1) 93 17 [some (.ref 37), some (.int l1), some (.int l2)] [] (wv x I J) (rI x Q) := by
  refine wp_seg (C := gC93) (pc1 := 19) (Lo1 := [some (.ref 37), some (.int l1), some (.int l2)]) (st1' := [.int l1, .int l2]) (w1 := (wv x I J)) hC93 2 rfl ?_
  refine wj_ge (tgt := 151) rfl rfl (fun h => ?_) (fun h => ?_)
  · have k := k.1 h
    refine wp_seg (C := gC93) (pc1 := 25) (Lo1 := [some (.ref 37), some (.int l1), some (.int l2)]) (st1' := [.int (64 : Int32), .int l2]) (w1 := (wv x I J)) hC93 2 rfl ?_
    refine wj_ge (tgt := 151) rfl rfl (fun h => ?_) (fun h => ?_)
    · have k := k.1 h
      refine wp_seg (C := gC93) (pc1 := 36) (Lo1 := [some (.ref 37), some (.int l1), some (.int l2)]) (st1' := [.int l2, .ref 4]) (w1 := (wv x I J)) hC93 4 rfl ?_
      refine cv_I (mj := 24) (a := 4) (as := [.int l2]) (r := []) rfl rfl rfl ⟨rfl, by decide, Nat.le_of_ble_eq_true rfl, Nat.le_of_ble_eq_true rfl⟩ rfl (wcI_mono k (fun r1 I1 J1 k => ?_))
      refine wi_eq (tgt := 145) rfl rfl (fun h => ?_) (fun h => ?_)
      · have k := k.1 h
        refine wp_seg (C := gC93) (pc1 := 17) (Lo1 := [some (.ref 37), some (.int l1), some (.int (l2 + (1 : Int32)))]) (st1' := []) (w1 := (wv x I1 J1)) hC93 2 rfl ?_
        exact k
      · have k := k.2 h
        refine wp_seg (C := gC93) (pc1 := 47) (Lo1 := [some (.ref 37), some (.int l1), some (.int l2)]) (st1' := [.int l2, .ref 2]) (w1 := (wv x I1 J1)) hC93 3 rfl ?_
        refine wa_i (n := 940) rfl (by decide) rfl k.1 ?_
        have k := k.2
        refine wp_seg (C := gC93) (pc1 := 49) (Lo1 := [some (.ref 37), some (.int l1), some (.int l2)]) (st1' := [.int (3 : Int32), .int (I1 2 l2.toNatClampNeg)]) (w1 := (wv x I1 J1)) hC93 1 rfl ?_
        refine wj_le (tgt := 54) rfl rfl (fun h => ?_) (fun h => ?_)
        · have k := k.1 h
          refine wp_seg (C := gC93) (pc1 := 53) (Lo1 := [some (.ref 37), some (.int l1), some (.int l2)]) (st1' := [.int (0 : Int32)]) (w1 := (wv x I1 J1)) hC93 1 rfl ?_
          exact we_z rfl rfl (Or.inl rfl) k
        · have k := k.2 h
          refine wp_seg (C := gC93) (pc1 := 65) (Lo1 := [some (.ref 37), some (.int l1), some (.int l2)]) (st1' := [.int l2, .ref 2, .int l2, .long (J1 37 14), .ref 37]) (w1 := (wv x I1 J1)) hC93 7 rfl ?_
          refine wa_i (n := 940) rfl (by decide) rfl k.1 ?_
          have k := k.2
          refine wp_seg (C := gC93) (pc1 := 67) (Lo1 := [some (.ref 37), some (.int l1), some (.int l2)]) (st1' := [.int (3 : Int32), .int (I1 2 l2.toNatClampNeg), .int l2, .long (J1 37 14), .ref 37]) (w1 := (wv x I1 J1)) hC93 1 rfl ?_
          refine wj_ge (tgt := 74) rfl rfl (fun h => ?_) (fun h => ?_)
          · have k := k.1 h
            refine wp_seg (C := gC93) (pc1 := 75) (Lo1 := [some (.ref 37), some (.int l1), some (.int l2)]) (st1' := [.int (1 : Int32), .int l2, .long (J1 37 14), .ref 37]) (w1 := (wv x I1 J1)) hC93 2 rfl ?_
            exact k
          · have k := k.2 h
            refine wp_seg (C := gC93) (pc1 := 75) (Lo1 := [some (.ref 37), some (.int l1), some (.int l2)]) (st1' := [.int (0 : Int32), .int l2, .long (J1 37 14), .ref 37]) (w1 := (wv x I1 J1)) hC93 1 rfl ?_
            exact k
    · have k := k.2 h
      refine wp_seg (C := gC93) (pc1 := 152) (Lo1 := [some (.ref 37), some (.int l1), some (.int l2)]) (st1' := [.int (1 : Int32)]) (w1 := (wv x I J)) hC93 1 rfl ?_
      exact we_z rfl rfl (Or.inr rfl) k
  · have k := k.2 h
    refine wp_seg (C := gC93) (pc1 := 152) (Lo1 := [some (.ref 37), some (.int l1), some (.int l2)]) (st1' := [.int (1 : Int32)]) (w1 := (wv x I J)) hC93 1 rfl ?_
    exact we_z rfl rfl (Or.inr rfl) k
set_option maxRecDepth 20000 in
theorem v93_37_75 {S : Nat × (Nat → Int32)} {d : Nat} {x : mX} {I : rI0} {J : rJ0} {l1 : Int32} {l2 : Int32} {s1 : Int64} {s2 : Int32} {s3 : Int32} {Q : Int32 → rI0 → rJ0 → Prop} (k : (wcJ S d 143 [.long s1, .int s2, .int s3] x I J (fun r1 I1 J1 => (¬ mOut l2 940 ∧ (((I1 2 l2.toNatClampNeg) = (1 : Int32) → wp S (d + 1) 93 112 [some (.ref 37), some (.int l1), some (.int l2)] [.int (1 : Int32), .int l2, .long (J1 37 15), .ref 37] (wv x I1 (mSet J1 37 14 r1)) (rI x Q)) ∧ (¬ (I1 2 l2.toNatClampNeg) = (1 : Int32) → (¬ mOut l2 940 ∧ (((I1 2 l2.toNatClampNeg) = (2 : Int32) → wp S (d + 1) 93 112 [some (.ref 37), some (.int l1), some (.int l2)] [.int (1 : Int32), .int l2, .long (J1 37 15), .ref 37] (wv x I1 (mSet J1 37 14 r1)) (rI x Q)) ∧ (¬ (I1 2 l2.toNatClampNeg) = (2 : Int32) → wp S (d + 1) 93 112 [some (.ref 37), some (.int l1), some (.int l2)] [.int (0 : Int32), .int l2, .long (J1 37 15), .ref 37] (wv x I1 (mSet J1 37 14 r1)) (rI x Q)))))))))) : wp S (d + 1) 93 75 [some (.ref 37), some (.int l1), some (.int l2)] [.int s3, .int s2, .long s1, .ref 37] (wv x I J) (rI x Q) := by
  refine cs_J (mj := 143) (nn := 1) (as := [.long s1, .int s2, .int s3]) (r := [.ref 37]) rfl rfl rfl ⟨rfl, by decide, Nat.le_of_ble_eq_true rfl, Nat.le_of_ble_eq_true rfl⟩ (by decide) (wcJ_mono k (fun r1 I1 J1 k => ?_))
  refine wp_seg (C := gC93) (pc1 := 92) (Lo1 := [some (.ref 37), some (.int l1), some (.int l2)]) (st1' := [.int l2, .ref 2, .int l2, .long (J1 37 15), .ref 37]) (w1 := (wv x I1 (mSet J1 37 14 r1))) hC93 8 rfl ?_
  refine wa_i (n := 940) rfl (by decide) rfl k.1 ?_
  have k := k.2
  refine wp_seg (C := gC93) (pc1 := 94) (Lo1 := [some (.ref 37), some (.int l1), some (.int l2)]) (st1' := [.int (1 : Int32), .int (I1 2 l2.toNatClampNeg), .int l2, .long (J1 37 15), .ref 37]) (w1 := (wv x I1 (mSet J1 37 14 r1))) hC93 1 rfl ?_
  refine wj_eq (tgt := 107) rfl rfl (fun h => ?_) (fun h => ?_)
  · have k := k.1 h
    refine wp_seg (C := gC93) (pc1 := 112) (Lo1 := [some (.ref 37), some (.int l1), some (.int l2)]) (st1' := [.int (1 : Int32), .int l2, .long (J1 37 15), .ref 37]) (w1 := (wv x I1 (mSet J1 37 14 r1))) hC93 2 rfl ?_
    exact k
  · have k := k.2 h
    refine wp_seg (C := gC93) (pc1 := 102) (Lo1 := [some (.ref 37), some (.int l1), some (.int l2)]) (st1' := [.int l2, .ref 2, .int l2, .long (J1 37 15), .ref 37]) (w1 := (wv x I1 (mSet J1 37 14 r1))) hC93 3 rfl ?_
    refine wa_i (n := 940) rfl (by decide) rfl k.1 ?_
    have k := k.2
    refine wp_seg (C := gC93) (pc1 := 104) (Lo1 := [some (.ref 37), some (.int l1), some (.int l2)]) (st1' := [.int (2 : Int32), .int (I1 2 l2.toNatClampNeg), .int l2, .long (J1 37 15), .ref 37]) (w1 := (wv x I1 (mSet J1 37 14 r1))) hC93 1 rfl ?_
    refine wj_ne (tgt := 111) rfl rfl (fun h => ?_) (fun h => ?_)
    · have k := k.1 h
      refine wp_seg (C := gC93) (pc1 := 112) (Lo1 := [some (.ref 37), some (.int l1), some (.int l2)]) (st1' := [.int (1 : Int32), .int l2, .long (J1 37 15), .ref 37]) (w1 := (wv x I1 (mSet J1 37 14 r1))) hC93 2 rfl ?_
      exact k
    · have k := k.2 h
      refine wp_seg (C := gC93) (pc1 := 112) (Lo1 := [some (.ref 37), some (.int l1), some (.int l2)]) (st1' := [.int (0 : Int32), .int l2, .long (J1 37 15), .ref 37]) (w1 := (wv x I1 (mSet J1 37 14 r1))) hC93 1 rfl ?_
      exact k
set_option maxRecDepth 20000 in
theorem v93_37_112 {S : Nat × (Nat → Int32)} {d : Nat} {x : mX} {I : rI0} {J : rJ0} {l1 : Int32} {l2 : Int32} {s1 : Int64} {s2 : Int32} {s3 : Int32} {Q : Int32 → rI0 → rJ0 → Prop} (k : (wcJ S d 143 [.long s1, .int s2, .int s3] x I J (fun r1 I1 J1 => (¬ mOut l2 940 ∧ (((I1 2 l2.toNatClampNeg) = (2 : Int32) → (wcJ S d 143 [.long (J1 37 16), .int l2, .int (1 : Int32)] x I1 (mSet J1 37 15 r1) (fun r2 I2 J2 => wp S (d + 1) 93 17 [some (.ref 37), some (.int l1), some (.int (l2 + (1 : Int32)))] [] (wv x I2 (mSet J2 37 16 r2)) (rI x Q)))) ∧ (¬ (I1 2 l2.toNatClampNeg) = (2 : Int32) → (wcJ S d 143 [.long (J1 37 16), .int l2, .int (0 : Int32)] x I1 (mSet J1 37 15 r1) (fun r3 I3 J3 => wp S (d + 1) 93 17 [some (.ref 37), some (.int l1), some (.int (l2 + (1 : Int32)))] [] (wv x I3 (mSet J3 37 16 r3)) (rI x Q))))))))) : wp S (d + 1) 93 112 [some (.ref 37), some (.int l1), some (.int l2)] [.int s3, .int s2, .long s1, .ref 37] (wv x I J) (rI x Q) := by
  refine cs_J (mj := 143) (nn := 1) (as := [.long s1, .int s2, .int s3]) (r := [.ref 37]) rfl rfl rfl ⟨rfl, by decide, Nat.le_of_ble_eq_true rfl, Nat.le_of_ble_eq_true rfl⟩ (by decide) (wcJ_mono k (fun r1 I1 J1 k => ?_))
  refine wp_seg (C := gC93) (pc1 := 129) (Lo1 := [some (.ref 37), some (.int l1), some (.int l2)]) (st1' := [.int l2, .ref 2, .int l2, .long (J1 37 16), .ref 37]) (w1 := (wv x I1 (mSet J1 37 15 r1))) hC93 8 rfl ?_
  refine wa_i (n := 940) rfl (by decide) rfl k.1 ?_
  have k := k.2
  refine wp_seg (C := gC93) (pc1 := 131) (Lo1 := [some (.ref 37), some (.int l1), some (.int l2)]) (st1' := [.int (2 : Int32), .int (I1 2 l2.toNatClampNeg), .int l2, .long (J1 37 16), .ref 37]) (w1 := (wv x I1 (mSet J1 37 15 r1))) hC93 1 rfl ?_
  refine wj_ne (tgt := 138) rfl rfl (fun h => ?_) (fun h => ?_)
  · have k := k.1 h
    refine wp_seg (C := gC93) (pc1 := 139) (Lo1 := [some (.ref 37), some (.int l1), some (.int l2)]) (st1' := [.int (1 : Int32), .int l2, .long (J1 37 16), .ref 37]) (w1 := (wv x I1 (mSet J1 37 15 r1))) hC93 2 rfl ?_
    refine cs_J (mj := 143) (nn := 1) (as := [.long (J1 37 16), .int l2, .int (1 : Int32)]) (r := [.ref 37]) rfl rfl rfl ⟨rfl, by decide, Nat.le_of_ble_eq_true rfl, Nat.le_of_ble_eq_true rfl⟩ (by decide) (wcJ_mono k (fun r2 I2 J2 k => ?_))
    refine wp_seg (C := gC93) (pc1 := 17) (Lo1 := [some (.ref 37), some (.int l1), some (.int (l2 + (1 : Int32)))]) (st1' := []) (w1 := (wv x I2 (mSet J2 37 16 r2))) hC93 3 rfl ?_
    exact k
  · have k := k.2 h
    refine wp_seg (C := gC93) (pc1 := 139) (Lo1 := [some (.ref 37), some (.int l1), some (.int l2)]) (st1' := [.int (0 : Int32), .int l2, .long (J1 37 16), .ref 37]) (w1 := (wv x I1 (mSet J1 37 15 r1))) hC93 1 rfl ?_
    refine cs_J (mj := 143) (nn := 1) (as := [.long (J1 37 16), .int l2, .int (0 : Int32)]) (r := [.ref 37]) rfl rfl rfl ⟨rfl, by decide, Nat.le_of_ble_eq_true rfl, Nat.le_of_ble_eq_true rfl⟩ (by decide) (wcJ_mono k (fun r3 I3 J3 k => ?_))
    refine wp_seg (C := gC93) (pc1 := 17) (Lo1 := [some (.ref 37), some (.int l1), some (.int (l2 + (1 : Int32)))]) (st1' := []) (w1 := (wv x I3 (mSet J3 37 16 r3))) hC93 3 rfl ?_
    exact k
set_option maxRecDepth 20000 in
theorem v94_37_0 {S : Nat × (Nat → Int32)} {d : Nat} {x : mX} {I : rI0} {J : rJ0} {p1 : Int32} {Q : Int32 → rI0 → rJ0 → Prop} (k : wp S (d + 1) 94 14 [some (.ref 37), some (.int p1), some (.int (0 : Int32)), some (.int (0 : Int32)), none] [] (wv x (mSet (mSet I 37 12 (-1 : Int32)) 37 13 (-1 : Int32)) J) (rI x Q)) : wp S (d + 1) 94 0 [some (.ref 37), some (.int p1), none, none, none] [] (wv x I J) (rI x Q) := by
  refine wp_seg (C := gC94) (pc1 := 14) (Lo1 := [some (.ref 37), some (.int p1), some (.int (0 : Int32)), some (.int (0 : Int32)), none]) (st1' := []) (w1 := (wv x (mSet (mSet I 37 12 (-1 : Int32)) 37 13 (-1 : Int32)) J)) hC94 10 rfl ?_
  exact k
set_option maxRecDepth 20000 in
theorem v94_37_14 {S : Nat × (Nat → Int32)} {d : Nat} {x : mX} {I : rI0} {J : rJ0} {l1 : Int32} {l2 : Int32} {l3 : Int32} {Q : Int32 → rI0 → rJ0 → Prop} (k : ((l3 < (64 : Int32) → wp S (d + 1) 94 23 [some (.ref 37), some (.int l1), some (.int l2), some (.int l3), some (.int l3)] [] (wv x I J) (rI x Q)) ∧ (¬ l3 < (64 : Int32) → Q l2 I J))) : wp S (d + 1) 94 14 [some (.ref 37), some (.int l1), some (.int l2), some (.int l3), none] [] (wv x I J) (rI x Q) := by
  refine wp_seg (C := gC94) (pc1 := 17) (Lo1 := [some (.ref 37), some (.int l1), some (.int l2), some (.int l3), none]) (st1' := [.int (64 : Int32), .int l3]) (w1 := (wv x I J)) hC94 2 rfl ?_
  refine wj_ge (tgt := 150) rfl rfl (fun h => ?_) (fun h => ?_)
  · have k := k.1 h
    refine wp_seg (C := gC94) (pc1 := 23) (Lo1 := [some (.ref 37), some (.int l1), some (.int l2), some (.int l3), some (.int l3)]) (st1' := []) (w1 := (wv x I J)) hC94 2 rfl ?_
    exact k
  · have k := k.2 h
    refine wp_seg (C := gC94) (pc1 := 151) (Lo1 := [some (.ref 37), some (.int l1), some (.int l2), some (.int l3), none]) (st1' := [.int l2]) (w1 := (wv x I J)) hC94 1 rfl ?_
    exact we_i rfl rfl k
set_option maxRecDepth 20000 in
theorem v94_37_23 {S : Nat × (Nat → Int32)} {d : Nat} {x : mX} {I : rI0} {J : rJ0} {l1 : Int32} {l2 : Int32} {l3 : Int32} {l4 : Int32} {Q : Int32 → rI0 → rJ0 → Prop} (k : ((l4 < (64 : Int32) → (wcI S d 24 [.ref 4, .int l3] x I J (fun r1 I1 J1 => ((r1 = (0 : Int32) → wp S (d + 1) 94 14 [some (.ref 37), some (.int l1), some (.int l2), some (.int (l3 + (1 : Int32))), none] [] (wv x I1 J1) (rI x Q)) ∧ (¬ r1 = (0 : Int32) → (wcI S d 24 [.ref 4, .int l4] x I1 J1 (fun r2 I2 J2 => ((r2 = (0 : Int32) → wp S (d + 1) 94 23 [some (.ref 37), some (.int l1), some (.int l2), some (.int l3), some (.int (l4 + (1 : Int32)))] [] (wv x I2 J2) (rI x Q)) ∧ (¬ r2 = (0 : Int32) → (wcV S d 52 [.ref 41, .long (((1 : Int64) <<< (l3.toInt64 &&& 63)) ||| ((1 : Int64) <<< (l4.toInt64 &&& 63))), .long (J2 3 6)] x I2 J2 (fun I3 J3 => (wcV S d 53 [.ref 41, .int l1] x I3 J3 (fun I4 J4 => (wcI S d 95 [.ref 37] x I4 J4 (fun r5 I5 J5 => ((r5 = (0 : Int32) → wp S (d + 1) 94 23 [some (.ref 37), some (.int l1), some (.int l2), some (.int l3), some (.int (l4 + (1 : Int32)))] [] (wv x I5 J5) (rI x Q)) ∧ (¬ r5 = (0 : Int32) → ((l2 = (0 : Int32) → wp S (d + 1) 94 109 [some (.ref 37), some (.int l1), some (.int l2), some (.int l3), some (.int l4)] [.int l3, .ref 37] (wv x I5 J5) (rI x Q)) ∧ (¬ l2 = (0 : Int32) → wp S (d + 1) 94 109 [some (.ref 37), some (.int l1), some (.int l2), some (.int l3), some (.int l4)] [.int (I5 37 12), .ref 37] (wv x I5 J5) (rI x Q)))))))))))))))))))) ∧ (¬ l4 < (64 : Int32) → wp S (d + 1) 94 14 [some (.ref 37), some (.int l1), some (.int l2), some (.int (l3 + (1 : Int32))), none] [] (wv x I J) (rI x Q)))) : wp S (d + 1) 94 23 [some (.ref 37), some (.int l1), some (.int l2), some (.int l3), some (.int l4)] [] (wv x I J) (rI x Q) := by
  refine wp_seg (C := gC94) (pc1 := 27) (Lo1 := [some (.ref 37), some (.int l1), some (.int l2), some (.int l3), some (.int l4)]) (st1' := [.int (64 : Int32), .int l4]) (w1 := (wv x I J)) hC94 2 rfl ?_
  refine wj_ge (tgt := 144) rfl rfl (fun h => ?_) (fun h => ?_)
  · have k := k.1 h
    refine wp_seg (C := gC94) (pc1 := 38) (Lo1 := [some (.ref 37), some (.int l1), some (.int l2), some (.int l3), some (.int l4)]) (st1' := [.int l3, .ref 4]) (w1 := (wv x I J)) hC94 4 rfl ?_
    refine cv_I (mj := 24) (a := 4) (as := [.int l3]) (r := []) rfl rfl rfl ⟨rfl, by decide, Nat.le_of_ble_eq_true rfl, Nat.le_of_ble_eq_true rfl⟩ rfl (wcI_mono k (fun r1 I1 J1 k => ?_))
    refine wi_eq (tgt := 144) rfl rfl (fun h => ?_) (fun h => ?_)
    · have k := k.1 h
      refine wp_seg (C := gC94) (pc1 := 14) (Lo1 := [some (.ref 37), some (.int l1), some (.int l2), some (.int (l3 + (1 : Int32))), some (.int l4)]) (st1' := []) (w1 := (wv x I1 J1)) hC94 2 rfl ?_
      exact wp_sub (Lo := [some (.ref 37), some (.int l1), some (.int l2), some (.int (l3 + (1 : Int32))), none]) (And.intro rfl (And.intro rfl (And.intro rfl (And.intro rfl (trivial))))) k
    · have k := k.2 h
      refine wp_seg (C := gC94) (pc1 := 53) (Lo1 := [some (.ref 37), some (.int l1), some (.int l2), some (.int l3), some (.int l4)]) (st1' := [.int l4, .ref 4]) (w1 := (wv x I1 J1)) hC94 4 rfl ?_
      refine cv_I (mj := 24) (a := 4) (as := [.int l4]) (r := []) rfl rfl rfl ⟨rfl, by decide, Nat.le_of_ble_eq_true rfl, Nat.le_of_ble_eq_true rfl⟩ rfl (wcI_mono k (fun r2 I2 J2 k => ?_))
      refine wi_eq (tgt := 138) rfl rfl (fun h => ?_) (fun h => ?_)
      · have k := k.1 h
        refine wp_seg (C := gC94) (pc1 := 23) (Lo1 := [some (.ref 37), some (.int l1), some (.int l2), some (.int l3), some (.int (l4 + (1 : Int32)))]) (st1' := []) (w1 := (wv x I2 J2)) hC94 2 rfl ?_
        exact k
      · have k := k.2 h
        refine wp_seg (C := gC94) (pc1 := 78) (Lo1 := [some (.ref 37), some (.int l1), some (.int l2), some (.int l3), some (.int l4)]) (st1' := [.long (J2 3 6), .long (((1 : Int64) <<< (l3.toInt64 &&& 63)) ||| ((1 : Int64) <<< (l4.toInt64 &&& 63))), .ref 41]) (w1 := (wv x I2 J2)) hC94 12 rfl ?_
        refine cv_V (mj := 52) (a := 41) (as := [.long (((1 : Int64) <<< (l3.toInt64 &&& 63)) ||| ((1 : Int64) <<< (l4.toInt64 &&& 63))), .long (J2 3 6)]) (r := []) rfl rfl rfl ⟨rfl, by decide, Nat.le_of_ble_eq_true rfl, Nat.le_of_ble_eq_true rfl⟩ rfl (wcV_mono k (fun I3 J3 k => ?_))
        refine wp_seg (C := gC94) (pc1 := 86) (Lo1 := [some (.ref 37), some (.int l1), some (.int l2), some (.int l3), some (.int l4)]) (st1' := [.int l1, .ref 41]) (w1 := (wv x I3 J3)) hC94 3 rfl ?_
        refine cv_V (mj := 53) (a := 41) (as := [.int l1]) (r := []) rfl rfl rfl ⟨rfl, by decide, Nat.le_of_ble_eq_true rfl, Nat.le_of_ble_eq_true rfl⟩ rfl (wcV_mono k (fun I4 J4 k => ?_))
        refine wp_seg (C := gC94) (pc1 := 90) (Lo1 := [some (.ref 37), some (.int l1), some (.int l2), some (.int l3), some (.int l4)]) (st1' := [.ref 37]) (w1 := (wv x I4 J4)) hC94 1 rfl ?_
        refine cv_I (mj := 95) (a := 37) (as := []) (r := []) rfl rfl rfl ⟨rfl, by decide, Nat.le_of_ble_eq_true rfl, Nat.le_of_ble_eq_true rfl⟩ rfl (wcI_mono k (fun r5 I5 J5 k => ?_))
        refine wi_eq (tgt := 138) rfl rfl (fun h => ?_) (fun h => ?_)
        · have k := k.1 h
          refine wp_seg (C := gC94) (pc1 := 23) (Lo1 := [some (.ref 37), some (.int l1), some (.int l2), some (.int l3), some (.int (l4 + (1 : Int32)))]) (st1' := []) (w1 := (wv x I5 J5)) hC94 2 rfl ?_
          exact k
        · have k := k.2 h
          refine wp_seg (C := gC94) (pc1 := 98) (Lo1 := [some (.ref 37), some (.int l1), some (.int l2), some (.int l3), some (.int l4)]) (st1' := [.int l2, .ref 37]) (w1 := (wv x I5 J5)) hC94 2 rfl ?_
          refine wi_ne (tgt := 105) rfl rfl (fun h => ?_) (fun h => ?_)
          · have k := k.1 h
            refine wp_seg (C := gC94) (pc1 := 109) (Lo1 := [some (.ref 37), some (.int l1), some (.int l2), some (.int l3), some (.int l4)]) (st1' := [.int l3, .ref 37]) (w1 := (wv x I5 J5)) hC94 2 rfl ?_
            exact k
          · have k := k.2 h
            refine wp_seg (C := gC94) (pc1 := 109) (Lo1 := [some (.ref 37), some (.int l1), some (.int l2), some (.int l3), some (.int l4)]) (st1' := [.int (I5 37 12), .ref 37]) (w1 := (wv x I5 J5)) hC94 2 rfl ?_
            exact k
  · have k := k.2 h
    refine wp_seg (C := gC94) (pc1 := 14) (Lo1 := [some (.ref 37), some (.int l1), some (.int l2), some (.int (l3 + (1 : Int32))), some (.int l4)]) (st1' := []) (w1 := (wv x I J)) hC94 2 rfl ?_
    exact wp_sub (Lo := [some (.ref 37), some (.int l1), some (.int l2), some (.int (l3 + (1 : Int32))), none]) (And.intro rfl (And.intro rfl (And.intro rfl (And.intro rfl (trivial))))) k
set_option maxRecDepth 20000 in
theorem v94_37_109 {S : Nat × (Nat → Int32)} {d : Nat} {x : mX} {I : rI0} {J : rJ0} {l1 : Int32} {l2 : Int32} {l3 : Int32} {l4 : Int32} {s1 : Int32} {Q : Int32 → rI0 → rJ0 → Prop} (k : ((l2 = (0 : Int32) → ((l4 = l3 → wp S (d + 1) 94 23 [some (.ref 37), some (.int l1), some (.int (l2 + (1 : Int32))), some (.int l3), some (.int (l4 + (1 : Int32)))] [] (wv x (mSet (mSet I 37 12 s1) 37 13 (I 37 13)) J) (rI x Q)) ∧ (¬ l4 = l3 → wp S (d + 1) 94 23 [some (.ref 37), some (.int l1), some (.int (l2 + (1 : Int32))), some (.int l3), some (.int (l4 + (1 : Int32)))] [] (wv x (mSet (mSet I 37 12 s1) 37 13 l4) J) (rI x Q)))) ∧ (¬ l2 = (0 : Int32) → wp S (d + 1) 94 23 [some (.ref 37), some (.int l1), some (.int (l2 + (1 : Int32))), some (.int l3), some (.int (l4 + (1 : Int32)))] [] (wv x (mSet (mSet I 37 12 s1) 37 13 (I 37 13)) J) (rI x Q)))) : wp S (d + 1) 94 109 [some (.ref 37), some (.int l1), some (.int l2), some (.int l3), some (.int l4)] [.int s1, .ref 37] (wv x I J) (rI x Q) := by
  refine wp_seg (C := gC94) (pc1 := 114) (Lo1 := [some (.ref 37), some (.int l1), some (.int l2), some (.int l3), some (.int l4)]) (st1' := [.int l2, .ref 37]) (w1 := (wv x (mSet I 37 12 s1) J)) hC94 3 rfl ?_
  refine wi_ne (tgt := 128) rfl rfl (fun h => ?_) (fun h => ?_)
  · have k := k.1 h
    refine wp_seg (C := gC94) (pc1 := 120) (Lo1 := [some (.ref 37), some (.int l1), some (.int l2), some (.int l3), some (.int l4)]) (st1' := [.int l3, .int l4, .ref 37]) (w1 := (wv x (mSet I 37 12 s1) J)) hC94 2 rfl ?_
    refine wj_eq (tgt := 128) rfl rfl (fun h => ?_) (fun h => ?_)
    · have k := k.1 h
      refine wp_seg (C := gC94) (pc1 := 141) (Lo1 := [some (.ref 37), some (.int l1), some (.int (l2 + (1 : Int32))), some (.int l3), some (.int (l4 + (1 : Int32)))]) (st1' := []) (w1 := (wv x (mSet (mSet I 37 12 s1) 37 13 (I 37 13)) J)) hC94 5 rfl ?_
      refine wp_seg (C := gC94) (pc1 := 23) (Lo1 := [some (.ref 37), some (.int l1), some (.int (l2 + (1 : Int32))), some (.int l3), some (.int (l4 + (1 : Int32)))]) (st1' := []) (w1 := (wv x (mSet (mSet I 37 12 s1) 37 13 (I 37 13)) J)) hC94 1 rfl ?_
      exact k
    · have k := k.2 h
      refine wp_seg (C := gC94) (pc1 := 141) (Lo1 := [some (.ref 37), some (.int l1), some (.int (l2 + (1 : Int32))), some (.int l3), some (.int (l4 + (1 : Int32)))]) (st1' := []) (w1 := (wv x (mSet (mSet I 37 12 s1) 37 13 l4) J)) hC94 5 rfl ?_
      refine wp_seg (C := gC94) (pc1 := 23) (Lo1 := [some (.ref 37), some (.int l1), some (.int (l2 + (1 : Int32))), some (.int l3), some (.int (l4 + (1 : Int32)))]) (st1' := []) (w1 := (wv x (mSet (mSet I 37 12 s1) 37 13 l4) J)) hC94 1 rfl ?_
      exact k
  · have k := k.2 h
    refine wp_seg (C := gC94) (pc1 := 141) (Lo1 := [some (.ref 37), some (.int l1), some (.int (l2 + (1 : Int32))), some (.int l3), some (.int (l4 + (1 : Int32)))]) (st1' := []) (w1 := (wv x (mSet (mSet I 37 12 s1) 37 13 (I 37 13)) J)) hC94 5 rfl ?_
    refine wp_seg (C := gC94) (pc1 := 23) (Lo1 := [some (.ref 37), some (.int l1), some (.int (l2 + (1 : Int32))), some (.int l3), some (.int (l4 + (1 : Int32)))]) (st1' := []) (w1 := (wv x (mSet (mSet I 37 12 s1) 37 13 (I 37 13)) J)) hC94 1 rfl ?_
    exact k
set_option maxRecDepth 20000 in
theorem v96_37_0 {S : Nat × (Nat → Int32)} {d : Nat} {x : mX} {I : rI0} {J : rJ0} {p1 : Int64} {p2 : Int64} {Q : Int32 → rI0 → rJ0 → Prop} (k : (wcV S d 52 [.ref 41, .long p1, .long (J 3 6)] x I J (fun I1 J1 => (wcV S d 52 [.ref 42, .long p2, .long (J1 3 6)] x I1 J1 (fun I2 J2 => wp S (d + 1) 96 33 [some (.ref 37), some (.long p1), none, some (.long p2), none, some (.int (0 : Int32))] [] (wv x I2 J2) (rI x Q)))))) : wp S (d + 1) 96 0 [some (.ref 37), some (.long p1), none, some (.long p2), none, none] [] (wv x I J) (rI x Q) := by
  refine wp_seg (C := gC96) (pc1 := 12) (Lo1 := [some (.ref 37), some (.long p1), none, some (.long p2), none, none]) (st1' := [.long (J 3 6), .long p1, .ref 41]) (w1 := (wv x I J)) hC96 6 rfl ?_
  refine cv_V (mj := 52) (a := 41) (as := [.long p1, .long (J 3 6)]) (r := []) rfl rfl rfl ⟨rfl, by decide, Nat.le_of_ble_eq_true rfl, Nat.le_of_ble_eq_true rfl⟩ rfl (wcV_mono k (fun I1 J1 k => ?_))
  refine wp_seg (C := gC96) (pc1 := 27) (Lo1 := [some (.ref 37), some (.long p1), none, some (.long p2), none, none]) (st1' := [.long (J1 3 6), .long p2, .ref 42]) (w1 := (wv x I1 J1)) hC96 6 rfl ?_
  refine cv_V (mj := 52) (a := 42) (as := [.long p2, .long (J1 3 6)]) (r := []) rfl rfl rfl ⟨rfl, by decide, Nat.le_of_ble_eq_true rfl, Nat.le_of_ble_eq_true rfl⟩ rfl (wcV_mono k (fun I2 J2 k => ?_))
  refine wp_seg (C := gC96) (pc1 := 33) (Lo1 := [some (.ref 37), some (.long p1), none, some (.long p2), none, some (.int (0 : Int32))]) (st1' := []) (w1 := (wv x I2 J2)) hC96 2 rfl ?_
  exact k
set_option maxRecDepth 20000 in
theorem v96_37_33 {S : Nat × (Nat → Int32)} {d : Nat} {x : mX} {I : rI0} {J : rJ0} {l1 : Int64} {l3 : Int64} {l5 : Int32} {Q : Int32 → rI0 → rJ0 → Prop} (k : (((60 : Int32) < l5 → Q (-1 : Int32) I J) ∧ (¬ (60 : Int32) < l5 → (wcV S d 53 [.ref 41, .int l5] x I J (fun I1 J1 => (wcV S d 53 [.ref 42, .int l5] x I1 J1 (fun I2 J2 => (((lg_cmp (J2 41 8) (J2 42 8)) = (0 : Int32) → (((lg_cmp (J2 41 9) (J2 42 9)) = (0 : Int32) → wp S (d + 1) 96 33 [some (.ref 37), some (.long l1), none, some (.long l3), none, some (.int (l5 + (1 : Int32)))] [] (wv x I2 J2) (rI x Q)) ∧ (¬ (lg_cmp (J2 41 9) (J2 42 9)) = (0 : Int32) → Q l5 I2 J2))) ∧ (¬ (lg_cmp (J2 41 8) (J2 42 8)) = (0 : Int32) → Q l5 I2 J2))))))))) : wp S (d + 1) 96 33 [some (.ref 37), some (.long l1), none, some (.long l3), none, some (.int l5)] [] (wv x I J) (rI x Q) := by
  refine wp_seg (C := gC96) (pc1 := 37) (Lo1 := [some (.ref 37), some (.long l1), none, some (.long l3), none, some (.int l5)]) (st1' := [.int (60 : Int32), .int l5]) (w1 := (wv x I J)) hC96 2 rfl ?_
  refine wj_gt (tgt := 103) rfl rfl (fun h => ?_) (fun h => ?_)
  · have k := k.1 h
    refine wp_seg (C := gC96) (pc1 := 104) (Lo1 := [some (.ref 37), some (.long l1), none, some (.long l3), none, some (.int l5)]) (st1' := [.int (-1 : Int32)]) (w1 := (wv x I J)) hC96 1 rfl ?_
    exact we_i rfl rfl k
  · have k := k.2 h
    refine wp_seg (C := gC96) (pc1 := 46) (Lo1 := [some (.ref 37), some (.long l1), none, some (.long l3), none, some (.int l5)]) (st1' := [.int l5, .ref 41]) (w1 := (wv x I J)) hC96 3 rfl ?_
    refine cv_V (mj := 53) (a := 41) (as := [.int l5]) (r := []) rfl rfl rfl ⟨rfl, by decide, Nat.le_of_ble_eq_true rfl, Nat.le_of_ble_eq_true rfl⟩ rfl (wcV_mono k (fun I1 J1 k => ?_))
    refine wp_seg (C := gC96) (pc1 := 55) (Lo1 := [some (.ref 37), some (.long l1), none, some (.long l3), none, some (.int l5)]) (st1' := [.int l5, .ref 42]) (w1 := (wv x I1 J1)) hC96 3 rfl ?_
    refine cv_V (mj := 53) (a := 42) (as := [.int l5]) (r := []) rfl rfl rfl ⟨rfl, by decide, Nat.le_of_ble_eq_true rfl, Nat.le_of_ble_eq_true rfl⟩ rfl (wcV_mono k (fun I2 J2 k => ?_))
    refine wp_seg (C := gC96) (pc1 := 73) (Lo1 := [some (.ref 37), some (.long l1), none, some (.long l3), none, some (.int l5)]) (st1' := [.int (lg_cmp (J2 41 8) (J2 42 8))]) (w1 := (wv x I2 J2)) hC96 7 rfl ?_
    refine wi_ne (tgt := 94) rfl rfl (fun h => ?_) (fun h => ?_)
    · have k := k.1 h
      refine wp_seg (C := gC96) (pc1 := 91) (Lo1 := [some (.ref 37), some (.long l1), none, some (.long l3), none, some (.int l5)]) (st1' := [.int (lg_cmp (J2 41 9) (J2 42 9))]) (w1 := (wv x I2 J2)) hC96 7 rfl ?_
      refine wi_eq (tgt := 97) rfl rfl (fun h => ?_) (fun h => ?_)
      · have k := k.1 h
        refine wp_seg (C := gC96) (pc1 := 33) (Lo1 := [some (.ref 37), some (.long l1), none, some (.long l3), none, some (.int (l5 + (1 : Int32)))]) (st1' := []) (w1 := (wv x I2 J2)) hC96 2 rfl ?_
        exact k
      · have k := k.2 h
        refine wp_seg (C := gC96) (pc1 := 96) (Lo1 := [some (.ref 37), some (.long l1), none, some (.long l3), none, some (.int l5)]) (st1' := [.int l5]) (w1 := (wv x I2 J2)) hC96 1 rfl ?_
        exact we_i rfl rfl k
    · have k := k.2 h
      refine wp_seg (C := gC96) (pc1 := 96) (Lo1 := [some (.ref 37), some (.long l1), none, some (.long l3), none, some (.int l5)]) (st1' := [.int l5]) (w1 := (wv x I2 J2)) hC96 1 rfl ?_
      exact we_i rfl rfl k
set_option maxRecDepth 20000 in
theorem v97_37_0 {S : Nat × (Nat → Int32)} {d : Nat} {x : mX} {I : rI0} {J : rJ0} {p1 : Int32} {Q : Int32 → rI0 → rJ0 → Prop} (k : wp S (d + 1) 97 10 [some (.ref 37), some (.int p1), some (.ref 4), some (.int (0 : Int32)), none, none] [] (wv x I J) (rI x Q)) : wp S (d + 1) 97 0 [some (.ref 37), some (.int p1), none, none, none, none] [] (wv x I J) (rI x Q) := by
  refine wp_seg (C := gC97) (pc1 := 10) (Lo1 := [some (.ref 37), some (.int p1), some (.ref 4), some (.int (0 : Int32)), none, none]) (st1' := []) (w1 := (wv x I J)) hC97 6 rfl ?_
  exact k
