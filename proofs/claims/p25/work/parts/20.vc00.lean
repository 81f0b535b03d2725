set_option maxRecDepth 20000 in
theorem v99_0_0 {S : Nat × (Nat → Int32)} {d : Nat} {x : mX} {I : rI0} {J : rJ0} {p1 : Int32} {p2 : Int32} {p3 : Int32} {p4 : Int32} {p5 : Int32} {Q : Int32 → rI0 → rJ0 → Prop} (k : (((940 : Int32) < ((I 1 1) + (20 : Int32)) → Q (-1 : Int32) I J) ∧ (¬ (940 : Int32) < ((I 1 1) + (20 : Int32)) → (wcV S d 66 [.ref 1, .int p1] x I J (fun I1 J1 => (wcV S d 66 [.ref 1, .int p2] x I1 J1 (fun I2 J2 => (wcV S d 66 [.ref 1, .int p3] x I2 J2 (fun I3 J3 => (wcV S d 66 [.ref 1, .int p4] x I3 J3 (fun I4 J4 => (wcV S d 66 [.ref 1, .int p5] x I4 J4 (fun I5 J5 => Q (I5 1 1) I5 J5))))))))))))) : wp S (d + 1) 99 0 [some (.ref 0), some (.int p1), some (.int p2), some (.int p3), some (.int p4), some (.int p5)] [] (wv x I J) (rI x Q) := by
  refine wp_seg (C := gC99) (pc1 := 13) (Lo1 := [some (.ref 0), some (.int p1), some (.int p2), some (.int p3), some (.int p4), some (.int p5)]) (st1' := [.int (940 : Int32), .int ((I 1 1) + (20 : Int32))]) (w1 := (wv x I J)) hC99 6 rfl ?_
  refine wj_le (tgt := 18) rfl rfl (fun h => ?_) (fun h => ?_)
  · have k := k.1 h
    refine wp_seg (C := gC99) (pc1 := 17) (Lo1 := [some (.ref 0), some (.int p1), some (.int p2), some (.int p3), some (.int p4), some (.int p5)]) (st1' := [.int (-1 : Int32)]) (w1 := (wv x I J)) hC99 1 rfl ?_
    exact we_i rfl rfl k
  · have k := k.2 h
    refine wp_seg (C := gC99) (pc1 := 23) (Lo1 := [some (.ref 0), some (.int p1), some (.int p2), some (.int p3), some (.int p4), some (.int p5)]) (st1' := [.int p1, .ref 1]) (w1 := (wv x I J)) hC99 3 rfl ?_
    refine cv_V (mj := 66) (a := 1) (as := [.int p1]) (r := []) rfl rfl rfl ⟨rfl, by decide, Nat.le_of_ble_eq_true rfl, Nat.le_of_ble_eq_true rfl⟩ rfl (wcV_mono k (fun I1 J1 k => ?_))
    refine wp_seg (C := gC99) (pc1 := 31) (Lo1 := [some (.ref 0), some (.int p1), some (.int p2), some (.int p3), some (.int p4), some (.int p5)]) (st1' := [.int p2, .ref 1]) (w1 := (wv x I1 J1)) hC99 3 rfl ?_
    refine cv_V (mj := 66) (a := 1) (as := [.int p2]) (r := []) rfl rfl rfl ⟨rfl, by decide, Nat.le_of_ble_eq_true rfl, Nat.le_of_ble_eq_true rfl⟩ rfl (wcV_mono k (fun I2 J2 k => ?_))
    refine wp_seg (C := gC99) (pc1 := 39) (Lo1 := [some (.ref 0), some (.int p1), some (.int p2), some (.int p3), some (.int p4), some (.int p5)]) (st1' := [.int p3, .ref 1]) (w1 := (wv x I2 J2)) hC99 3 rfl ?_
    refine cv_V (mj := 66) (a := 1) (as := [.int p3]) (r := []) rfl rfl rfl ⟨rfl, by decide, Nat.le_of_ble_eq_true rfl, Nat.le_of_ble_eq_true rfl⟩ rfl (wcV_mono k (fun I3 J3 k => ?_))
    refine wp_seg (C := gC99) (pc1 := 48) (Lo1 := [some (.ref 0), some (.int p1), some (.int p2), some (.int p3), some (.int p4), some (.int p5)]) (st1' := [.int p4, .ref 1]) (w1 := (wv x I3 J3)) hC99 3 rfl ?_
    refine cv_V (mj := 66) (a := 1) (as := [.int p4]) (r := []) rfl rfl rfl ⟨rfl, by decide, Nat.le_of_ble_eq_true rfl, Nat.le_of_ble_eq_true rfl⟩ rfl (wcV_mono k (fun I4 J4 k => ?_))
    refine wp_seg (C := gC99) (pc1 := 57) (Lo1 := [some (.ref 0), some (.int p1), some (.int p2), some (.int p3), some (.int p4), some (.int p5)]) (st1' := [.int p5, .ref 1]) (w1 := (wv x I4 J4)) hC99 3 rfl ?_
    refine cv_V (mj := 66) (a := 1) (as := [.int p5]) (r := []) rfl rfl rfl ⟨rfl, by decide, Nat.le_of_ble_eq_true rfl, Nat.le_of_ble_eq_true rfl⟩ rfl (wcV_mono k (fun I5 J5 k => ?_))
    refine wp_seg (C := gC99) (pc1 := 67) (Lo1 := [some (.ref 0), some (.int p1), some (.int p2), some (.int p3), some (.int p4), some (.int p5)]) (st1' := [.int (I5 1 1)]) (w1 := (wv x I5 J5)) hC99 3 rfl ?_
    exact we_i rfl rfl k
set_option maxRecDepth 20000 in
theorem v100_0_0 {S : Nat × (Nat → Int32)} {d : Nat} {x : mX} {I : rI0} {J : rJ0} {p1 : Int32} {Q : Int32 → rI0 → rJ0 → Prop} (k : ((p1 < (0 : Int32) → Q (0 : Int32) I J) ∧ (¬ p1 < (0 : Int32) → (((I 1 1) < p1 → Q (0 : Int32) I J) ∧ (¬ (I 1 1) < p1 → Q (1 : Int32) (mSet I 1 1 p1) J))))) : wp S d 100 0 [some (.ref 0), some (.int p1)] [] (wv x I J) (rI x Q) := by
  refine wp_seg (C := gC100) (pc1 := 1) (Lo1 := [some (.ref 0), some (.int p1)]) (st1' := [.int p1]) (w1 := (wv x I J)) hC100 1 rfl ?_
  refine wi_lt (tgt := 15) rfl rfl (fun h => ?_) (fun h => ?_)
  · have k := k.1 h
    refine wp_seg (C := gC100) (pc1 := 16) (Lo1 := [some (.ref 0), some (.int p1)]) (st1' := [.int (0 : Int32)]) (w1 := (wv x I J)) hC100 1 rfl ?_
    exact we_z rfl rfl (Or.inl rfl) k
  · have k := k.2 h
    refine wp_seg (C := gC100) (pc1 := 12) (Lo1 := [some (.ref 0), some (.int p1)]) (st1' := [.int (I 1 1), .int p1]) (w1 := (wv x I J)) hC100 4 rfl ?_
    refine wj_le (tgt := 17) rfl rfl (fun h => ?_) (fun h => ?_)
    · have k := k.1 h
      refine wp_seg (C := gC100) (pc1 := 16) (Lo1 := [some (.ref 0), some (.int p1)]) (st1' := [.int (0 : Int32)]) (w1 := (wv x I J)) hC100 1 rfl ?_
      exact we_z rfl rfl (Or.inl rfl) k
    · have k := k.2 h
      refine wp_seg (C := gC100) (pc1 := 26) (Lo1 := [some (.ref 0), some (.int p1)]) (st1' := [.int (1 : Int32)]) (w1 := (wv x (mSet I 1 1 p1) J)) hC100 5 rfl ?_
      exact we_z rfl rfl (Or.inr rfl) k
set_option maxRecDepth 20000 in
theorem v101_0_0 {S : Nat × (Nat → Int32)} {d : Nat} {x : mX} {I : rI0} {J : rJ0} {Q : Int32 → rI0 → rJ0 → Prop} (k : (wcV S d 14 [.ref 15] x I J (fun I1 J1 => (wcI S d 67 [.ref 1] x I1 J1 (fun r2 I2 J2 => (wcV S d 69 [.ref 28, .int r2, .int (900 : Int32)] x I2 J2 (fun I3 J3 => (wcV S d 36 [.ref 29] x I3 J3 (fun I4 J4 => wp S (d + 1) 101 33 [some (.ref 0), some (.int (0 : Int32))] [] (wv x I4 J4) (rI x Q)))))))))) : wp S (d + 1) 101 0 [some (.ref 0), none] [] (wv x I J) (rI x Q) := by
  refine wp_seg (C := gC101) (pc1 := 4) (Lo1 := [some (.ref 0), none]) (st1' := [.ref 15]) (w1 := (wv x I J)) hC101 2 rfl ?_
  refine cv_V (mj := 14) (a := 15) (as := []) (r := []) rfl rfl rfl ⟨rfl, by decide, Nat.le_of_ble_eq_true rfl, Nat.le_of_ble_eq_true rfl⟩ rfl (wcV_mono k (fun I1 J1 k => ?_))
  refine wp_seg (C := gC101) (pc1 := 15) (Lo1 := [some (.ref 0), none]) (st1' := [.ref 1, .ref 28]) (w1 := (wv x I1 J1)) hC101 4 rfl ?_
  refine cv_I (mj := 67) (a := 1) (as := []) (r := [.ref 28]) rfl rfl rfl ⟨rfl, by decide, Nat.le_of_ble_eq_true rfl, Nat.le_of_ble_eq_true rfl⟩ rfl (wcI_mono k (fun r2 I2 J2 k => ?_))
  refine wp_seg (C := gC101) (pc1 := 21) (Lo1 := [some (.ref 0), none]) (st1' := [.int (900 : Int32), .int r2, .ref 28]) (w1 := (wv x I2 J2)) hC101 1 rfl ?_
  refine cv_V (mj := 69) (a := 28) (as := [.int r2, .int (900 : Int32)]) (r := []) rfl rfl rfl ⟨rfl, by decide, Nat.le_of_ble_eq_true rfl, Nat.le_of_ble_eq_true rfl⟩ rfl (wcV_mono k (fun I3 J3 k => ?_))
  refine wp_seg (C := gC101) (pc1 := 28) (Lo1 := [some (.ref 0), none]) (st1' := [.ref 29]) (w1 := (wv x I3 J3)) hC101 2 rfl ?_
  refine cv_V (mj := 36) (a := 29) (as := []) (r := []) rfl rfl rfl ⟨rfl, by decide, Nat.le_of_ble_eq_true rfl, Nat.le_of_ble_eq_true rfl⟩ rfl (wcV_mono k (fun I4 J4 k => ?_))
  refine wp_seg (C := gC101) (pc1 := 33) (Lo1 := [some (.ref 0), some (.int (0 : Int32))]) (st1' := []) (w1 := (wv x I4 J4)) hC101 2 rfl ?_
  exact k
set_option maxRecDepth 20000 in
theorem v101_0_33 {S : Nat × (Nat → Int32)} {d : Nat} {x : mX} {I : rI0} {J : rJ0} {l1 : Int32} {Q : Int32 → rI0 → rJ0 → Prop} (k : ((l1 < (900 : Int32) → (((I 28 3) = (1 : Int32) → wp S (d + 1) 101 67 [some (.ref 0), some (.int l1)] [] (wv x I J) (rI x Q)) ∧ (¬ (I 28 3) = (1 : Int32) → (wcI S d 37 [.ref 29] x I J (fun r1 I1 J1 => ((r1 = (0 : Int32) → wp S (d + 1) 101 67 [some (.ref 0), some (.int l1)] [] (wv x I1 J1) (rI x Q)) ∧ (¬ r1 = (0 : Int32) → wp S (d + 1) 101 33 [some (.ref 0), some (.int (l1 + (1 : Int32)))] [] (wv x I1 J1) (rI x Q)))))))) ∧ (¬ l1 < (900 : Int32) → wp S (d + 1) 101 67 [some (.ref 0), some (.int l1)] [] (wv x I J) (rI x Q)))) : wp S (d + 1) 101 33 [some (.ref 0), some (.int l1)] [] (wv x I J) (rI x Q) := by
  refine wp_seg (C := gC101) (pc1 := 37) (Lo1 := [some (.ref 0), some (.int l1)]) (st1' := [.int (900 : Int32), .int l1]) (w1 := (wv x I J)) hC101 2 rfl ?_
  refine wj_ge (tgt := 67) rfl rfl (fun h => ?_) (fun h => ?_)
  · have k := k.1 h
    refine wp_seg (C := gC101) (pc1 := 48) (Lo1 := [some (.ref 0), some (.int l1)]) (st1' := [.int (1 : Int32), .int (I 28 3)]) (w1 := (wv x I J)) hC101 4 rfl ?_
    refine wj_eq (tgt := 67) rfl rfl (fun h => ?_) (fun h => ?_)
    · have k := k.1 h
      exact k
    · have k := k.2 h
      refine wp_seg (C := gC101) (pc1 := 55) (Lo1 := [some (.ref 0), some (.int l1)]) (st1' := [.ref 29]) (w1 := (wv x I J)) hC101 2 rfl ?_
      refine cv_I (mj := 37) (a := 29) (as := []) (r := []) rfl rfl rfl ⟨rfl, by decide, Nat.le_of_ble_eq_true rfl, Nat.le_of_ble_eq_true rfl⟩ rfl (wcI_mono k (fun r1 I1 J1 k => ?_))
      refine wi_eq (tgt := 67) rfl rfl (fun h => ?_) (fun h => ?_)
      · have k := k.1 h
        exact k
      · have k := k.2 h
        refine wp_seg (C := gC101) (pc1 := 33) (Lo1 := [some (.ref 0), some (.int (l1 + (1 : Int32)))]) (st1' := []) (w1 := (wv x I1 J1)) hC101 2 rfl ?_
        exact k
  · have k := k.2 h
    exact k
set_option maxRecDepth 20000 in
theorem v101_0_67 {S : Nat × (Nat → Int32)} {d : Nat} {x : mX} {I : rI0} {J : rJ0} {l1 : Int32} {Q : Int32 → rI0 → rJ0 → Prop} (k : (((I 28 8) = (0 : Int32) → (wcV S d 32 [.ref 16] x (mSet I 0 9 (I 28 8)) J (fun I1 J1 => (wcV S d 15 [.ref 3, .ref 15] x I1 J1 (fun I2 J2 => (wcV S d 6 [.ref 31] x I2 J2 (fun I3 J3 => Q l1 I3 J3))))))) ∧ (¬ (I 28 8) = (0 : Int32) → Q ((-1 : Int32) - (I 28 4)) (mSet I 0 9 (I 28 8)) J))) : wp S (d + 1) 101 67 [some (.ref 0), some (.int l1)] [] (wv x I J) (rI x Q) := by
  refine wp_seg (C := gC101) (pc1 := 82) (Lo1 := [some (.ref 0), some (.int l1)]) (st1' := [.int (I 28 8)]) (w1 := (wv x (mSet I 0 9 (I 28 8)) J)) hC101 7 rfl ?_
  refine wi_eq (tgt := 95) rfl rfl (fun h => ?_) (fun h => ?_)
  · have k := k.1 h
    refine wp_seg (C := gC101) (pc1 := 102) (Lo1 := [some (.ref 0), some (.int l1)]) (st1' := [.ref 16]) (w1 := (wv x (mSet I 0 9 (I 28 8)) J)) hC101 3 rfl ?_
    refine cv_V (mj := 32) (a := 16) (as := []) (r := []) rfl rfl rfl ⟨rfl, by decide, Nat.le_of_ble_eq_true rfl, Nat.le_of_ble_eq_true rfl⟩ rfl (wcV_mono k (fun I1 J1 k => ?_))
    refine wp_seg (C := gC101) (pc1 := 113) (Lo1 := [some (.ref 0), some (.int l1)]) (st1' := [.ref 15, .ref 3]) (w1 := (wv x I1 J1)) hC101 4 rfl ?_
    refine cv_V (mj := 15) (a := 3) (as := [.ref 15]) (r := []) rfl rfl rfl ⟨rfl, by decide, Nat.le_of_ble_eq_true rfl, Nat.le_of_ble_eq_true rfl⟩ rfl (wcV_mono k (fun I2 J2 k => ?_))
    refine wp_seg (C := gC101) (pc1 := 120) (Lo1 := [some (.ref 0), some (.int l1)]) (st1' := [.ref 31]) (w1 := (wv x I2 J2)) hC101 2 rfl ?_
    refine cv_V (mj := 6) (a := 31) (as := []) (r := []) rfl rfl rfl ⟨rfl, by decide, Nat.le_of_ble_eq_true rfl, Nat.le_of_ble_eq_true rfl⟩ rfl (wcV_mono k (fun I3 J3 k => ?_))
    refine wp_seg (C := gC101) (pc1 := 124) (Lo1 := [some (.ref 0), some (.int l1)]) (st1' := [.int l1]) (w1 := (wv x I3 J3)) hC101 1 rfl ?_
    exact we_i rfl rfl k
  · have k := k.2 h
    refine wp_seg (C := gC101) (pc1 := 94) (Lo1 := [some (.ref 0), some (.int l1)]) (st1' := [.int ((-1 : Int32) - (I 28 4))]) (w1 := (wv x (mSet I 0 9 (I 28 8)) J)) hC101 5 rfl ?_
    exact we_i rfl rfl k
set_option maxRecDepth 20000 in
theorem v102_0_0 {S : Nat × (Nat → Int32)} {d : Nat} {x : mX} {I : rI0} {J : rJ0} {Q : Int32 → rI0 → rJ0 → Prop} (k : Q (I 0 9) I J) : wp S d 102 0 [some (.ref 0)] [] (wv x I J) (rI x Q) := by
  refine wp_seg (C := gC102) (pc1 := 4) (Lo1 := [some (.ref 0)]) (st1' := [.int (I 0 9)]) (w1 := (wv x I J)) hC102 2 rfl ?_
  exact we_i rfl rfl k
set_option maxRecDepth 20000 in
theorem v104_0_0 {S : Nat × (Nat → Int32)} {d : Nat} {x : mX} {I : rI0} {J : rJ0} {p1 : Int32} {p2 : Int32} {Q : Int32 → rI0 → rJ0 → Prop} (k : ((p1 < (0 : Int32) → Q (-1 : Int32) I J) ∧ (¬ p1 < (0 : Int32) → ((p1 < (6 : Int32) → ((p2 < (0 : Int32) → Q (-1 : Int32) I J) ∧ (¬ p2 < (0 : Int32) → (((1 : Int32) < p2 → Q (-1 : Int32) I J) ∧ (¬ (1 : Int32) < p2 → (¬ mOut (((2 : Int32) * p1) + p2) 12 ∧ Q (I 9 ((((2 : Int32) * p1) + p2).toNatClampNeg)) I J)))))) ∧ (¬ p1 < (6 : Int32) → Q (-1 : Int32) I J))))) : wp S d 104 0 [some (.ref 0), some (.int p1), some (.int p2)] [] (wv x I J) (rI x Q) := by
  refine wp_seg (C := gC104) (pc1 := 1) (Lo1 := [some (.ref 0), some (.int p1), some (.int p2)]) (st1' := [.int p1]) (w1 := (wv x I J)) hC104 1 rfl ?_
  refine wi_lt (tgt := 19) rfl rfl (fun h => ?_) (fun h => ?_)
  · have k := k.1 h
    refine wp_seg (C := gC104) (pc1 := 20) (Lo1 := [some (.ref 0), some (.int p1), some (.int p2)]) (st1' := [.int (-1 : Int32)]) (w1 := (wv x I J)) hC104 1 rfl ?_
    exact we_i rfl rfl k
  · have k := k.2 h
    refine wp_seg (C := gC104) (pc1 := 7) (Lo1 := [some (.ref 0), some (.int p1), some (.int p2)]) (st1' := [.int (6 : Int32), .int p1]) (w1 := (wv x I J)) hC104 2 rfl ?_
    refine wj_ge (tgt := 19) rfl rfl (fun h => ?_) (fun h => ?_)
    · have k := k.1 h
      refine wp_seg (C := gC104) (pc1 := 11) (Lo1 := [some (.ref 0), some (.int p1), some (.int p2)]) (st1' := [.int p2]) (w1 := (wv x I J)) hC104 1 rfl ?_
      refine wi_lt (tgt := 19) rfl rfl (fun h => ?_) (fun h => ?_)
      · have k := k.1 h
        refine wp_seg (C := gC104) (pc1 := 20) (Lo1 := [some (.ref 0), some (.int p1), some (.int p2)]) (st1' := [.int (-1 : Int32)]) (w1 := (wv x I J)) hC104 1 rfl ?_
        exact we_i rfl rfl k
      · have k := k.2 h
        refine wp_seg (C := gC104) (pc1 := 16) (Lo1 := [some (.ref 0), some (.int p1), some (.int p2)]) (st1' := [.int (1 : Int32), .int p2]) (w1 := (wv x I J)) hC104 2 rfl ?_
        refine wj_le (tgt := 21) rfl rfl (fun h => ?_) (fun h => ?_)
        · have k := k.1 h
          refine wp_seg (C := gC104) (pc1 := 20) (Lo1 := [some (.ref 0), some (.int p1), some (.int p2)]) (st1' := [.int (-1 : Int32)]) (w1 := (wv x I J)) hC104 1 rfl ?_
          exact we_i rfl rfl k
        · have k := k.2 h
          refine wp_seg (C := gC104) (pc1 := 36) (Lo1 := [some (.ref 0), some (.int p1), some (.int p2)]) (st1' := [.int (((2 : Int32) * p1) + p2), .ref 9]) (w1 := (wv x I J)) hC104 9 rfl ?_
          refine wa_i (n := 12) rfl (by decide) rfl k.1 ?_
          have k := k.2
          exact we_i rfl rfl k
    · have k := k.2 h
      refine wp_seg (C := gC104) (pc1 := 20) (Lo1 := [some (.ref 0), some (.int p1), some (.int p2)]) (st1' := [.int (-1 : Int32)]) (w1 := (wv x I J)) hC104 1 rfl ?_
      exact we_i rfl rfl k
set_option maxRecDepth 20000 in
theorem v105_0_0 {S : Nat × (Nat → Int32)} {d : Nat} {x : mX} {I : rI0} {J : rJ0} {p1 : Int32} {p2 : Int32} {Q : Int32 → rI0 → rJ0 → Prop} (k : (wcI S d 24 [.ref 4, .int p1] x I J (fun r1 I1 J1 => ((r1 = (0 : Int32) → Q (0 : Int32) I1 J1) ∧ (¬ r1 = (0 : Int32) → ((p2 < (0 : Int32) → Q (0 : Int32) I1 J1) ∧ (¬ p2 < (0 : Int32) → (((1 : Int32) < p2 → Q (0 : Int32) I1 J1) ∧ (¬ (1 : Int32) < p2 → (wcJ S d 143 [.long (J1 3 5), .int p1, .int p2] x I1 J1 (fun r2 I2 J2 => (wcV S d 6 [.ref 31] x I2 (mSet J2 3 5 r2) (fun I3 J3 => Q (1 : Int32) I3 J3))))))))))))) : wp S (d + 1) 105 0 [some (.ref 0), some (.int p1), some (.int p2)] [] (wv x I J) (rI x Q) := by
  refine wp_seg (C := gC105) (pc1 := 8) (Lo1 := [some (.ref 0), some (.int p1), some (.int p2)]) (st1' := [.int p1, .ref 4]) (w1 := (wv x I J)) hC105 4 rfl ?_
  refine cv_I (mj := 24) (a := 4) (as := [.int p1]) (r := []) rfl rfl rfl ⟨rfl, by decide, Nat.le_of_ble_eq_true rfl, Nat.le_of_ble_eq_true rfl⟩ rfl (wcI_mono k (fun r1 I1 J1 k => ?_))
  refine wi_eq (tgt := 23) rfl rfl (fun h => ?_) (fun h => ?_)
  · have k := k.1 h
    refine wp_seg (C := gC105) (pc1 := 24) (Lo1 := [some (.ref 0), some (.int p1), some (.int p2)]) (st1' := [.int (0 : Int32)]) (w1 := (wv x I1 J1)) hC105 1 rfl ?_
    exact we_z rfl rfl (Or.inl rfl) k
  · have k := k.2 h
    refine wp_seg (C := gC105) (pc1 := 15) (Lo1 := [some (.ref 0), some (.int p1), some (.int p2)]) (st1' := [.int p2]) (w1 := (wv x I1 J1)) hC105 1 rfl ?_
    refine wi_lt (tgt := 23) rfl rfl (fun h => ?_) (fun h => ?_)
    · have k := k.1 h
      refine wp_seg (C := gC105) (pc1 := 24) (Lo1 := [some (.ref 0), some (.int p1), some (.int p2)]) (st1' := [.int (0 : Int32)]) (w1 := (wv x I1 J1)) hC105 1 rfl ?_
      exact we_z rfl rfl (Or.inl rfl) k
    · have k := k.2 h
      refine wp_seg (C := gC105) (pc1 := 20) (Lo1 := [some (.ref 0), some (.int p1), some (.int p2)]) (st1' := [.int (1 : Int32), .int p2]) (w1 := (wv x I1 J1)) hC105 2 rfl ?_
      refine wj_le (tgt := 25) rfl rfl (fun h => ?_) (fun h => ?_)
      · have k := k.1 h
        refine wp_seg (C := gC105) (pc1 := 24) (Lo1 := [some (.ref 0), some (.int p1), some (.int p2)]) (st1' := [.int (0 : Int32)]) (w1 := (wv x I1 J1)) hC105 1 rfl ?_
        exact we_z rfl rfl (Or.inl rfl) k
      · have k := k.2 h
        refine wp_seg (C := gC105) (pc1 := 38) (Lo1 := [some (.ref 0), some (.int p1), some (.int p2)]) (st1' := [.int p2, .int p1, .long (J1 3 5), .ref 3]) (w1 := (wv x I1 J1)) hC105 7 rfl ?_
        refine cs_J (mj := 143) (nn := 0) (as := [.long (J1 3 5), .int p1, .int p2]) (r := [.ref 3]) rfl rfl rfl ⟨rfl, by decide, Nat.le_of_ble_eq_true rfl, Nat.le_of_ble_eq_true rfl⟩ (by decide) (wcJ_mono k (fun r2 I2 J2 k => ?_))
        refine wp_seg (C := gC105) (pc1 := 48) (Lo1 := [some (.ref 0), some (.int p1), some (.int p2)]) (st1' := [.ref 31]) (w1 := (wv x I2 (mSet J2 3 5 r2))) hC105 3 rfl ?_
        refine cv_V (mj := 6) (a := 31) (as := []) (r := []) rfl rfl rfl ⟨rfl, by decide, Nat.le_of_ble_eq_true rfl, Nat.le_of_ble_eq_true rfl⟩ rfl (wcV_mono k (fun I3 J3 k => ?_))
        refine wp_seg (C := gC105) (pc1 := 52) (Lo1 := [some (.ref 0), some (.int p1), some (.int p2)]) (st1' := [.int (1 : Int32)]) (w1 := (wv x I3 J3)) hC105 1 rfl ?_
        exact we_z rfl rfl (Or.inr rfl) k
set_option maxRecDepth 20000 in
theorem v106_0_0 {S : Nat × (Nat → Int32)} {d : Nat} {x : mX} {I : rI0} {J : rJ0} {p1 : Int32} {p2 : Int32} {Q : Int32 → rI0 → rJ0 → Prop} (k : (wcI S d 24 [.ref 4, .int p1] x I J (fun r1 I1 J1 => ((r1 = (0 : Int32) → Q (0 : Int32) I1 J1) ∧ (¬ r1 = (0 : Int32) → ((p2 < (0 : Int32) → Q (0 : Int32) I1 J1) ∧ (¬ p2 < (0 : Int32) → (((1 : Int32) < p2 → Q (0 : Int32) I1 J1) ∧ (¬ (1 : Int32) < p2 → (wcJ S d 143 [.long (J1 3 6), .int p1, .int p2] x I1 J1 (fun r2 I2 J2 => (wcV S d 6 [.ref 31] x I2 (mSet J2 3 6 r2) (fun I3 J3 => Q (1 : Int32) I3 J3))))))))))))) : wp S (d + 1) 106 0 [some (.ref 0), some (.int p1), some (.int p2)] [] (wv x I J) (rI x Q) := by
  refine wp_seg (C := gC106) (pc1 := 8) (Lo1 := [some (.ref 0), some (.int p1), some (.int p2)]) (st1' := [.int p1, .ref 4]) (w1 := (wv x I J)) hC106 4 rfl ?_
  refine cv_I (mj := 24) (a := 4) (as := [.int p1]) (r := []) rfl rfl rfl ⟨rfl, by decide, Nat.le_of_ble_eq_true rfl, Nat.le_of_ble_eq_true rfl⟩ rfl (wcI_mono k (fun r1 I1 J1 k => ?_))
  refine wi_eq (tgt := 23) rfl rfl (fun h => ?_) (fun h => ?_)
  · have k := k.1 h
    refine wp_seg (C := gC106) (pc1 := 24) (Lo1 := [some (.ref 0), some (.int p1), some (.int p2)]) (st1' := [.int (0 : Int32)]) (w1 := (wv x I1 J1)) hC106 1 rfl ?_
    exact we_z rfl rfl (Or.inl rfl) k
  · have k := k.2 h
    refine wp_seg (C := gC106) (pc1 := 15) (Lo1 := [some (.ref 0), some (.int p1), some (.int p2)]) (st1' := [.int p2]) (w1 := (wv x I1 J1)) hC106 1 rfl ?_
    refine wi_lt (tgt := 23) rfl rfl (fun h => ?_) (fun h => ?_)
    · have k := k.1 h
      refine wp_seg (C := gC106) (pc1 := 24) (Lo1 := [some (.ref 0), some (.int p1), some (.int p2)]) (st1' := [.int (0 : Int32)]) (w1 := (wv x I1 J1)) hC106 1 rfl ?_
      exact we_z rfl rfl (Or.inl rfl) k
    · have k := k.2 h
      refine wp_seg (C := gC106) (pc1 := 20) (Lo1 := [some (.ref 0), some (.int p1), some (.int p2)]) (st1' := [.int (1 : Int32), .int p2]) (w1 := (wv x I1 J1)) hC106 2 rfl ?_
      refine wj_le (tgt := 25) rfl rfl (fun h => ?_) (fun h => ?_)
      · have k := k.1 h
        refine wp_seg (C := gC106) (pc1 := 24) (Lo1 := [some (.ref 0), some (.int p1), some (.int p2)]) (st1' := [.int (0 : Int32)]) (w1 := (wv x I1 J1)) hC106 1 rfl ?_
        exact we_z rfl rfl (Or.inl rfl) k
      · have k := k.2 h
        refine wp_seg (C := gC106) (pc1 := 38) (Lo1 := [some (.ref 0), some (.int p1), some (.int p2)]) (st1' := [.int p2, .int p1, .long (J1 3 6), .ref 3]) (w1 := (wv x I1 J1)) hC106 7 rfl ?_
        refine cs_J (mj := 143) (nn := 0) (as := [.long (J1 3 6), .int p1, .int p2]) (r := [.ref 3]) rfl rfl rfl ⟨rfl, by decide, Nat.le_of_ble_eq_true rfl, Nat.le_of_ble_eq_true rfl⟩ (by decide) (wcJ_mono k (fun r2 I2 J2 k => ?_))
        refine wp_seg (C := gC106) (pc1 := 48) (Lo1 := [some (.ref 0), some (.int p1), some (.int p2)]) (st1' := [.ref 31]) (w1 := (wv x I2 (mSet J2 3 6 r2))) hC106 3 rfl ?_
        refine cv_V (mj := 6) (a := 31) (as := []) (r := []) rfl rfl rfl ⟨rfl, by decide, Nat.le_of_ble_eq_true rfl, Nat.le_of_ble_eq_true rfl⟩ rfl (wcV_mono k (fun I3 J3 k => ?_))
        refine wp_seg (C := gC106) (pc1 := 52) (Lo1 := [some (.ref 0), some (.int p1), some (.int p2)]) (st1' := [.int (1 : Int32)]) (w1 := (wv x I3 J3)) hC106 1 rfl ?_
        exact we_z rfl rfl (Or.inr rfl) k
set_option maxRecDepth 20000 in
theorem v107_0_0 {S : Nat × (Nat → Int32)} {d : Nat} {x : mX} {I : rI0} {J : rJ0} {Q : Int32 → rI0 → rJ0 → Prop} (k : (wcI S d 67 [.ref 1] x I J (fun r1 I1 J1 => (wcV S d 69 [.ref 28, .int r1, .int (400 : Int32)] x I1 J1 (fun I2 J2 => (wcV S d 2 [.ref 30] x I2 J2 (fun I3 J3 => (((I3 28 8) = (0 : Int32) → (wcV S d 16 [.ref 3, .ref 15] x (mSet I3 0 9 (I3 28 8)) J3 (fun I4 J4 => (wcV S d 6 [.ref 31] x I4 J4 (fun I5 J5 => Q (I5 3 4) I5 J5))))) ∧ (¬ (I3 28 8) = (0 : Int32) → Q ((-1 : Int32) - (I3 28 4)) (mSet I3 0 9 (I3 28 8)) J3))))))))) : wp S (d + 1) 107 0 [some (.ref 0)] [] (wv x I J) (rI x Q) := by
  refine wp_seg (C := gC107) (pc1 := 8) (Lo1 := [some (.ref 0)]) (st1' := [.ref 1, .ref 28]) (w1 := (wv x I J)) hC107 4 rfl ?_
  refine cv_I (mj := 67) (a := 1) (as := []) (r := [.ref 28]) rfl rfl rfl ⟨rfl, by decide, Nat.le_of_ble_eq_true rfl, Nat.le_of_ble_eq_true rfl⟩ rfl (wcI_mono k (fun r1 I1 J1 k => ?_))
  refine wp_seg (C := gC107) (pc1 := 14) (Lo1 := [some (.ref 0)]) (st1' := [.int (400 : Int32), .int r1, .ref 28]) (w1 := (wv x I1 J1)) hC107 1 rfl ?_
  refine cv_V (mj := 69) (a := 28) (as := [.int r1, .int (400 : Int32)]) (r := []) rfl rfl rfl ⟨rfl, by decide, Nat.le_of_ble_eq_true rfl, Nat.le_of_ble_eq_true rfl⟩ rfl (wcV_mono k (fun I2 J2 k => ?_))
  refine wp_seg (C := gC107) (pc1 := 21) (Lo1 := [some (.ref 0)]) (st1' := [.ref 30]) (w1 := (wv x I2 J2)) hC107 2 rfl ?_
  refine cv_V (mj := 2) (a := 30) (as := []) (r := []) rfl rfl rfl ⟨rfl, by decide, Nat.le_of_ble_eq_true rfl, Nat.le_of_ble_eq_true rfl⟩ rfl (wcV_mono k (fun I3 J3 k => ?_))
  refine wp_seg (C := gC107) (pc1 := 39) (Lo1 := [some (.ref 0)]) (st1' := [.int (I3 28 8)]) (w1 := (wv x (mSet I3 0 9 (I3 28 8)) J3)) hC107 7 rfl ?_
  refine wi_eq (tgt := 52) rfl rfl (fun h => ?_) (fun h => ?_)
  · have k := k.1 h
    refine wp_seg (C := gC107) (pc1 := 60) (Lo1 := [some (.ref 0)]) (st1' := [.ref 15, .ref 3]) (w1 := (wv x (mSet I3 0 9 (I3 28 8)) J3)) hC107 4 rfl ?_
    refine cv_V (mj := 16) (a := 3) (as := [.ref 15]) (r := []) rfl rfl rfl ⟨rfl, by decide, Nat.le_of_ble_eq_true rfl, Nat.le_of_ble_eq_true rfl⟩ rfl (wcV_mono k (fun I4 J4 k => ?_))
    refine wp_seg (C := gC107) (pc1 := 67) (Lo1 := [some (.ref 0)]) (st1' := [.ref 31]) (w1 := (wv x I4 J4)) hC107 2 rfl ?_
    refine cv_V (mj := 6) (a := 31) (as := []) (r := []) rfl rfl rfl ⟨rfl, by decide, Nat.le_of_ble_eq_true rfl, Nat.le_of_ble_eq_true rfl⟩ rfl (wcV_mono k (fun I5 J5 k => ?_))
    refine wp_seg (C := gC107) (pc1 := 77) (Lo1 := [some (.ref 0)]) (st1' := [.int (I5 3 4)]) (w1 := (wv x I5 J5)) hC107 3 rfl ?_
    exact we_i rfl rfl k
  · have k := k.2 h
    refine wp_seg (C := gC107) (pc1 := 51) (Lo1 := [some (.ref 0)]) (st1' := [.int ((-1 : Int32) - (I3 28 4))]) (w1 := (wv x (mSet I3 0 9 (I3 28 8)) J3)) hC107 5 rfl ?_
    exact we_i rfl rfl k
set_option maxRecDepth 20000 in
theorem v109_0_0 {S : Nat × (Nat → Int32)} {d : Nat} {x : mX} {I : rI0} {J : rJ0} {p1 : Int32} {p2 : Int32} {p3 : Int32} {p4 : Int32} {Q : Int32 → rI0 → rJ0 → Prop} (k : (wcI S d 24 [.ref 4, .int p1] x I J (fun r1 I1 J1 => ((r1 = (0 : Int32) → Q (-1 : Int32) I1 J1) ∧ (¬ r1 = (0 : Int32) → (wcI S d 141 [.int p2] x I1 J1 (fun r2 I2 J2 => ((r2 = (0 : Int32) → Q (-1 : Int32) I2 J2) ∧ (¬ r2 = (0 : Int32) → ((p3 < (0 : Int32) → Q (-1 : Int32) I2 J2) ∧ (¬ p3 < (0 : Int32) → ((p3 < (6 : Int32) → ((p4 < (1 : Int32) → Q (-1 : Int32) I2 J2) ∧ (¬ p4 < (1 : Int32) → (((2 : Int32) < p4 → Q (-1 : Int32) I2 J2) ∧ (¬ (2 : Int32) < p4 → (wcI S d 7 [.ref 31, .int p2] x I2 J2 (fun r3 I3 J3 => ((p4 = (1 : Int32) → (¬ mOut r3 601 ∧ wp S (d + 1) 109 86 [some (.ref 0), some (.int p1), some (.int p2), some (.int p3), some (.int p4), some (.int r3), none, none] [.long (J3 32 r3.toNatClampNeg)] (wv x I3 J3) (rI x Q))) ∧ (¬ p4 = (1 : Int32) → (¬ mOut r3 601 ∧ wp S (d + 1) 109 86 [some (.ref 0), some (.int p1), some (.int p2), some (.int p3), some (.int p4), some (.int r3), none, none] [.long (J3 33 r3.toNatClampNeg)] (wv x I3 J3) (rI x Q))))))))))) ∧ (¬ p3 < (6 : Int32) → Q (-1 : Int32) I2 J2))))))))))))) : wp S (d + 1) 109 0 [some (.ref 0), some (.int p1), some (.int p2), some (.int p3), some (.int p4), none, none, none] [] (wv x I J) (rI x Q) := by
  refine wp_seg (C := gC109) (pc1 := 8) (Lo1 := [some (.ref 0), some (.int p1), some (.int p2), some (.int p3), some (.int p4), none, none, none]) (st1' := [.int p1, .ref 4]) (w1 := (wv x I J)) hC109 4 rfl ?_
  refine cv_I (mj := 24) (a := 4) (as := [.int p1]) (r := []) rfl rfl rfl ⟨rfl, by decide, Nat.le_of_ble_eq_true rfl, Nat.le_of_ble_eq_true rfl⟩ rfl (wcI_mono k (fun r1 I1 J1 k => ?_))
  refine wi_eq (tgt := 21) rfl rfl (fun h => ?_) (fun h => ?_)
  · have k := k.1 h
    refine wp_seg (C := gC109) (pc1 := 22) (Lo1 := [some (.ref 0), some (.int p1), some (.int p2), some (.int p3), some (.int p4), none, none, none]) (st1' := [.int (-1 : Int32)]) (w1 := (wv x I1 J1)) hC109 1 rfl ?_
    exact we_i rfl rfl k
  · have k := k.2 h
    refine wp_seg (C := gC109) (pc1 := 15) (Lo1 := [some (.ref 0), some (.int p1), some (.int p2), some (.int p3), some (.int p4), none, none, none]) (st1' := [.int p2]) (w1 := (wv x I1 J1)) hC109 1 rfl ?_
    refine cs_I (mj := 141) (nn := 0) (as := [.int p2]) (r := []) rfl rfl rfl ⟨rfl, by decide, Nat.le_of_ble_eq_true rfl, Nat.le_of_ble_eq_true rfl⟩ (by decide) (wcI_mono k (fun r2 I2 J2 k => ?_))
    refine wi_ne (tgt := 23) rfl rfl (fun h => ?_) (fun h => ?_)
    · have k := k.1 h
      refine wp_seg (C := gC109) (pc1 := 22) (Lo1 := [some (.ref 0), some (.int p1), some (.int p2), some (.int p3), some (.int p4), none, none, none]) (st1' := [.int (-1 : Int32)]) (w1 := (wv x I2 J2)) hC109 1 rfl ?_
      exact we_i rfl rfl k
    · have k := k.2 h
      refine wp_seg (C := gC109) (pc1 := 24) (Lo1 := [some (.ref 0), some (.int p1), some (.int p2), some (.int p3), some (.int p4), none, none, none]) (st1' := [.int p3]) (w1 := (wv x I2 J2)) hC109 1 rfl ?_
      refine wi_lt (tgt := 45) rfl rfl (fun h => ?_) (fun h => ?_)
      · have k := k.1 h
        refine wp_seg (C := gC109) (pc1 := 46) (Lo1 := [some (.ref 0), some (.int p1), some (.int p2), some (.int p3), some (.int p4), none, none, none]) (st1' := [.int (-1 : Int32)]) (w1 := (wv x I2 J2)) hC109 1 rfl ?_
        exact we_i rfl rfl k
      · have k := k.2 h
        refine wp_seg (C := gC109) (pc1 := 30) (Lo1 := [some (.ref 0), some (.int p1), some (.int p2), some (.int p3), some (.int p4), none, none, none]) (st1' := [.int (6 : Int32), .int p3]) (w1 := (wv x I2 J2)) hC109 2 rfl ?_
        refine wj_ge (tgt := 45) rfl rfl (fun h => ?_) (fun h => ?_)
        · have k := k.1 h
          refine wp_seg (C := gC109) (pc1 := 36) (Lo1 := [some (.ref 0), some (.int p1), some (.int p2), some (.int p3), some (.int p4), none, none, none]) (st1' := [.int (1 : Int32), .int p4]) (w1 := (wv x I2 J2)) hC109 2 rfl ?_
          refine wj_lt (tgt := 45) rfl rfl (fun h => ?_) (fun h => ?_)
          · have k := k.1 h
            refine wp_seg (C := gC109) (pc1 := 46) (Lo1 := [some (.ref 0), some (.int p1), some (.int p2), some (.int p3), some (.int p4), none, none, none]) (st1' := [.int (-1 : Int32)]) (w1 := (wv x I2 J2)) hC109 1 rfl ?_
            exact we_i rfl rfl k
          · have k := k.2 h
            refine wp_seg (C := gC109) (pc1 := 42) (Lo1 := [some (.ref 0), some (.int p1), some (.int p2), some (.int p3), some (.int p4), none, none, none]) (st1' := [.int (2 : Int32), .int p4]) (w1 := (wv x I2 J2)) hC109 2 rfl ?_
            refine wj_le (tgt := 47) rfl rfl (fun h => ?_) (fun h => ?_)
            · have k := k.1 h
              refine wp_seg (C := gC109) (pc1 := 46) (Lo1 := [some (.ref 0), some (.int p1), some (.int p2), some (.int p3), some (.int p4), none, none, none]) (st1' := [.int (-1 : Int32)]) (w1 := (wv x I2 J2)) hC109 1 rfl ?_
              exact we_i rfl rfl k
            · have k := k.2 h
              refine wp_seg (C := gC109) (pc1 := 52) (Lo1 := [some (.ref 0), some (.int p1), some (.int p2), some (.int p3), some (.int p4), none, none, none]) (st1' := [.int p2, .ref 31]) (w1 := (wv x I2 J2)) hC109 3 rfl ?_
              refine cv_I (mj := 7) (a := 31) (as := [.int p2]) (r := []) rfl rfl rfl ⟨rfl, by decide, Nat.le_of_ble_eq_true rfl, Nat.le_of_ble_eq_true rfl⟩ rfl (wcI_mono k (fun r3 I3 J3 k => ?_))
              refine wp_seg (C := gC109) (pc1 := 60) (Lo1 := [some (.ref 0), some (.int p1), some (.int p2), some (.int p3), some (.int p4), some (.int r3), none, none]) (st1' := [.int (1 : Int32), .int p4]) (w1 := (wv x I3 J3)) hC109 3 rfl ?_
              refine wj_ne (tgt := 76) rfl rfl (fun h => ?_) (fun h => ?_)
              · have k := k.1 h
                refine wp_seg (C := gC109) (pc1 := 72) (Lo1 := [some (.ref 0), some (.int p1), some (.int p2), some (.int p3), some (.int p4), some (.int r3), none, none]) (st1' := [.int r3, .ref 32]) (w1 := (wv x I3 J3)) hC109 4 rfl ?_
                refine wa_l (n := 601) rfl rfl k.1 ?_
                have k := k.2
                refine wp_seg (C := gC109) (pc1 := 86) (Lo1 := [some (.ref 0), some (.int p1), some (.int p2), some (.int p3), some (.int p4), some (.int r3), none, none]) (st1' := [.long (J3 32 r3.toNatClampNeg)]) (w1 := (wv x I3 J3)) hC109 1 rfl ?_
                exact k
              · have k := k.2 h
                refine wp_seg (C := gC109) (pc1 := 85) (Lo1 := [some (.ref 0), some (.int p1), some (.int p2), some (.int p3), some (.int p4), some (.int r3), none, none]) (st1' := [.int r3, .ref 33]) (w1 := (wv x I3 J3)) hC109 4 rfl ?_
                refine wa_l (n := 601) rfl rfl k.1 ?_
                have k := k.2
                exact k
        · have k := k.2 h
          refine wp_seg (C := gC109) (pc1 := 46) (Lo1 := [some (.ref 0), some (.int p1), some (.int p2), some (.int p3), some (.int p4), none, none, none]) (st1' := [.int (-1 : Int32)]) (w1 := (wv x I2 J2)) hC109 1 rfl ?_
          exact we_i rfl rfl k
set_option maxRecDepth 20000 in
theorem v109_0_86 {S : Nat × (Nat → Int32)} {d : Nat} {x : mX} {I : rI0} {J : rJ0} {l1 : Int32} {l2 : Int32} {l3 : Int32} {l4 : Int32} {l5 : Int32} {s0 : Int64} {Q : Int32 → rI0 → rJ0 → Prop} (k : (¬ mOut ((l3 * (64 : Int32)) + l1) 384 ∧ (wcI S d 250 [.long (s0 &&& (J 11 (((l3 * (64 : Int32)) + l1).toNatClampNeg)))] x I J (fun r1 I1 J1 => Q r1 I1 J1)))) : wp S (d + 1) 109 86 [some (.ref 0), some (.int l1), some (.int l2), some (.int l3), some (.int l4), some (.int l5), none, none] [.long s0] (wv x I J) (rI x Q) := by
  refine wp_seg (C := gC109) (pc1 := 106) (Lo1 := [some (.ref 0), some (.int l1), some (.int l2), some (.int l3), some (.int l4), some (.int l5), some (.long s0), none]) (st1' := [.int ((l3 * (64 : Int32)) + l1), .ref 11, .long s0]) (w1 := (wv x I J)) hC109 11 rfl ?_
  refine wa_l (n := 384) rfl rfl k.1 ?_
  have k := k.2
  refine wp_seg (C := gC109) (pc1 := 108) (Lo1 := [some (.ref 0), some (.int l1), some (.int l2), some (.int l3), some (.int l4), some (.int l5), some (.long s0), none]) (st1' := [.long (s0 &&& (J 11 (((l3 * (64 : Int32)) + l1).toNatClampNeg)))]) (w1 := (wv x I J)) hC109 1 rfl ?_
  refine cs_I (mj := 250) (nn := 0) (as := [.long (s0 &&& (J 11 (((l3 * (64 : Int32)) + l1).toNatClampNeg)))]) (r := []) rfl rfl rfl ⟨rfl, by decide, Nat.le_of_ble_eq_true rfl, Nat.le_of_ble_eq_true rfl⟩ (by decide) (wcI_mono k (fun r1 I1 J1 k => ?_))
  exact we_i rfl rfl k
set_option maxRecDepth 20000 in
theorem v110_0_0 {S : Nat × (Nat → Int32)} {d : Nat} {x : mX} {I : rI0} {J : rJ0} {p1 : Int32} {p2 : Int32} {p3 : Int32} {Q : Int32 → rI0 → rJ0 → Prop} (k : (wcI S d 24 [.ref 4, .int p1] x I J (fun r1 I1 J1 => ((r1 = (0 : Int32) → Q (-1 : Int32) I1 J1) ∧ (¬ r1 = (0 : Int32) → (wcI S d 141 [.int p2] x I1 J1 (fun r2 I2 J2 => ((r2 = (0 : Int32) → Q (-1 : Int32) I2 J2) ∧ (¬ r2 = (0 : Int32) → ((p3 < (0 : Int32) → Q (-1 : Int32) I2 J2) ∧ (¬ p3 < (0 : Int32) → (((1 : Int32) < p3 → Q (-1 : Int32) I2 J2) ∧ (¬ (1 : Int32) < p3 → (wcI S d 7 [.ref 31, .int p2] x I2 J2 (fun r3 I3 J3 => ((p3 = (0 : Int32) → (¬ mOut r3 601 ∧ (wcI S d 142 [.long (J3 32 r3.toNatClampNeg), .int p1] x I3 J3 (fun r4 I4 J4 => (¬ mOut r3 601 ∧ (wcI S d 142 [.long (J4 33 r3.toNatClampNeg), .int p1] x I4 J4 (fun r5 I5 J5 => Q (r4 + r5) I5 J5))))))) ∧ (¬ p3 = (0 : Int32) → (¬ mOut r3 601 ∧ (wcI S d 142 [.long (J3 34 r3.toNatClampNeg), .int p1] x I3 J3 (fun r6 I6 J6 => (¬ mOut r3 601 ∧ (wcI S d 142 [.long (J6 35 r3.toNatClampNeg), .int p1] x I6 J6 (fun r7 I7 J7 => Q (r6 + ((2 : Int32) * r7)) I7 J7))))))))))))))))))))))) : wp S (d + 1) 110 0 [some (.ref 0), some (.int p1), some (.int p2), some (.int p3), none] [] (wv x I J) (rI x Q) := by
  refine wp_seg (C := gC110) (pc1 := 8) (Lo1 := [some (.ref 0), some (.int p1), some (.int p2), some (.int p3), none]) (st1' := [.int p1, .ref 4]) (w1 := (wv x I J)) hC110 4 rfl ?_
  refine cv_I (mj := 24) (a := 4) (as := [.int p1]) (r := []) rfl rfl rfl ⟨rfl, by decide, Nat.le_of_ble_eq_true rfl, Nat.le_of_ble_eq_true rfl⟩ rfl (wcI_mono k (fun r1 I1 J1 k => ?_))
  refine wi_eq (tgt := 30) rfl rfl (fun h => ?_) (fun h => ?_)
  · have k := k.1 h
    refine wp_seg (C := gC110) (pc1 := 31) (Lo1 := [some (.ref 0), some (.int p1), some (.int p2), some (.int p3), none]) (st1' := [.int (-1 : Int32)]) (w1 := (wv x I1 J1)) hC110 1 rfl ?_
    exact we_i rfl rfl k
  · have k := k.2 h
    refine wp_seg (C := gC110) (pc1 := 15) (Lo1 := [some (.ref 0), some (.int p1), some (.int p2), some (.int p3), none]) (st1' := [.int p2]) (w1 := (wv x I1 J1)) hC110 1 rfl ?_
    refine cs_I (mj := 141) (nn := 0) (as := [.int p2]) (r := []) rfl rfl rfl ⟨rfl, by decide, Nat.le_of_ble_eq_true rfl, Nat.le_of_ble_eq_true rfl⟩ (by decide) (wcI_mono k (fun r2 I2 J2 k => ?_))
    refine wi_eq (tgt := 30) rfl rfl (fun h => ?_) (fun h => ?_)
    · have k := k.1 h
      refine wp_seg (C := gC110) (pc1 := 31) (Lo1 := [some (.ref 0), some (.int p1), some (.int p2), some (.int p3), none]) (st1' := [.int (-1 : Int32)]) (w1 := (wv x I2 J2)) hC110 1 rfl ?_
      exact we_i rfl rfl k
    · have k := k.2 h
      refine wp_seg (C := gC110) (pc1 := 22) (Lo1 := [some (.ref 0), some (.int p1), some (.int p2), some (.int p3), none]) (st1' := [.int p3]) (w1 := (wv x I2 J2)) hC110 1 rfl ?_
      refine wi_lt (tgt := 30) rfl rfl (fun h => ?_) (fun h => ?_)
      · have k := k.1 h
        refine wp_seg (C := gC110) (pc1 := 31) (Lo1 := [some (.ref 0), some (.int p1), some (.int p2), some (.int p3), none]) (st1' := [.int (-1 : Int32)]) (w1 := (wv x I2 J2)) hC110 1 rfl ?_
        exact we_i rfl rfl k
      · have k := k.2 h
        refine wp_seg (C := gC110) (pc1 := 27) (Lo1 := [some (.ref 0), some (.int p1), some (.int p2), some (.int p3), none]) (st1' := [.int (1 : Int32), .int p3]) (w1 := (wv x I2 J2)) hC110 2 rfl ?_
        refine wj_le (tgt := 32) rfl rfl (fun h => ?_) (fun h => ?_)
        · have k := k.1 h
          refine wp_seg (C := gC110) (pc1 := 31) (Lo1 := [some (.ref 0), some (.int p1), some (.int p2), some (.int p3), none]) (st1' := [.int (-1 : Int32)]) (w1 := (wv x I2 J2)) hC110 1 rfl ?_
          exact we_i rfl rfl k
        · have k := k.2 h
          refine wp_seg (C := gC110) (pc1 := 37) (Lo1 := [some (.ref 0), some (.int p1), some (.int p2), some (.int p3), none]) (st1' := [.int p2, .ref 31]) (w1 := (wv x I2 J2)) hC110 3 rfl ?_
          refine cv_I (mj := 7) (a := 31) (as := [.int p2]) (r := []) rfl rfl rfl ⟨rfl, by decide, Nat.le_of_ble_eq_true rfl, Nat.le_of_ble_eq_true rfl⟩ rfl (wcI_mono k (fun r3 I3 J3 k => ?_))
          refine wp_seg (C := gC110) (pc1 := 43) (Lo1 := [some (.ref 0), some (.int p1), some (.int p2), some (.int p3), some (.int r3)]) (st1' := [.int p3]) (w1 := (wv x I3 J3)) hC110 2 rfl ?_
          refine wi_ne (tgt := 76) rfl rfl (fun h => ?_) (fun h => ?_)
          · have k := k.1 h
            refine wp_seg (C := gC110) (pc1 := 55) (Lo1 := [some (.ref 0), some (.int p1), some (.int p2), some (.int p3), some (.int r3)]) (st1' := [.int r3, .ref 32]) (w1 := (wv x I3 J3)) hC110 4 rfl ?_
            refine wa_l (n := 601) rfl rfl k.1 ?_
            have k := k.2
            refine wp_seg (C := gC110) (pc1 := 57) (Lo1 := [some (.ref 0), some (.int p1), some (.int p2), some (.int p3), some (.int r3)]) (st1' := [.int p1, .long (J3 32 r3.toNatClampNeg)]) (w1 := (wv x I3 J3)) hC110 1 rfl ?_
            refine cs_I (mj := 142) (nn := 0) (as := [.long (J3 32 r3.toNatClampNeg), .int p1]) (r := []) rfl rfl rfl ⟨rfl, by decide, Nat.le_of_ble_eq_true rfl, Nat.le_of_ble_eq_true rfl⟩ (by decide) (wcI_mono k (fun r4 I4 J4 k => ?_))
            refine wp_seg (C := gC110) (pc1 := 69) (Lo1 := [some (.ref 0), some (.int p1), some (.int p2), some (.int p3), some (.int r3)]) (st1' := [.int r3, .ref 33, .int r4]) (w1 := (wv x I4 J4)) hC110 4 rfl ?_
            refine wa_l (n := 601) rfl rfl k.1 ?_
            have k := k.2
            refine wp_seg (C := gC110) (pc1 := 71) (Lo1 := [some (.ref 0), some (.int p1), some (.int p2), some (.int p3), some (.int r3)]) (st1' := [.int p1, .long (J4 33 r3.toNatClampNeg), .int r4]) (w1 := (wv x I4 J4)) hC110 1 rfl ?_
            refine cs_I (mj := 142) (nn := 0) (as := [.long (J4 33 r3.toNatClampNeg), .int p1]) (r := [.int r4]) rfl rfl rfl ⟨rfl, by decide, Nat.le_of_ble_eq_true rfl, Nat.le_of_ble_eq_true rfl⟩ (by decide) (wcI_mono k (fun r5 I5 J5 k => ?_))
            refine wp_seg (C := gC110) (pc1 := 75) (Lo1 := [some (.ref 0), some (.int p1), some (.int p2), some (.int p3), some (.int r3)]) (st1' := [.int (r4 + r5)]) (w1 := (wv x I5 J5)) hC110 1 rfl ?_
            exact we_i rfl rfl k
          · have k := k.2 h
            refine wp_seg (C := gC110) (pc1 := 85) (Lo1 := [some (.ref 0), some (.int p1), some (.int p2), some (.int p3), some (.int r3)]) (st1' := [.int r3, .ref 34]) (w1 := (wv x I3 J3)) hC110 4 rfl ?_
            refine wa_l (n := 601) rfl rfl k.1 ?_
            have k := k.2
            refine wp_seg (C := gC110) (pc1 := 87) (Lo1 := [some (.ref 0), some (.int p1), some (.int p2), some (.int p3), some (.int r3)]) (st1' := [.int p1, .long (J3 34 r3.toNatClampNeg)]) (w1 := (wv x I3 J3)) hC110 1 rfl ?_
            refine cs_I (mj := 142) (nn := 0) (as := [.long (J3 34 r3.toNatClampNeg), .int p1]) (r := []) rfl rfl rfl ⟨rfl, by decide, Nat.le_of_ble_eq_true rfl, Nat.le_of_ble_eq_true rfl⟩ (by decide) (wcI_mono k (fun r6 I6 J6 k => ?_))
            refine wp_seg (C := gC110) (pc1 := 100) (Lo1 := [some (.ref 0), some (.int p1), some (.int p2), some (.int p3), some (.int r3)]) (st1' := [.int r3, .ref 35, .int (2 : Int32), .int r6]) (w1 := (wv x I6 J6)) hC110 5 rfl ?_
            refine wa_l (n := 601) rfl rfl k.1 ?_
            have k := k.2
            refine wp_seg (C := gC110) (pc1 := 102) (Lo1 := [some (.ref 0), some (.int p1), some (.int p2), some (.int p3), some (.int r3)]) (st1' := [.int p1, .long (J6 35 r3.toNatClampNeg), .int (2 : Int32), .int r6]) (w1 := (wv x I6 J6)) hC110 1 rfl ?_
            refine cs_I (mj := 142) (nn := 0) (as := [.long (J6 35 r3.toNatClampNeg), .int p1]) (r := [.int (2 : Int32), .int r6]) rfl rfl rfl ⟨rfl, by decide, Nat.le_of_ble_eq_true rfl, Nat.le_of_ble_eq_true rfl⟩ (by decide) (wcI_mono k (fun r7 I7 J7 k => ?_))
            refine wp_seg (C := gC110) (pc1 := 107) (Lo1 := [some (.ref 0), some (.int p1), some (.int p2), some (.int p3), some (.int r3)]) (st1' := [.int (r6 + ((2 : Int32) * r7))]) (w1 := (wv x I7 J7)) hC110 2 rfl ?_
            exact we_i rfl rfl k
set_option maxRecDepth 20000 in
theorem v111_0_0 {S : Nat × (Nat → Int32)} {d : Nat} {x : mX} {I : rI0} {J : rJ0} {p1 : Int32} {p2 : Int32} {Q : Int32 → rI0 → rJ0 → Prop} (k : (wcI S d 141 [.int p1] x I J (fun r1 I1 J1 => ((r1 = (0 : Int32) → Q (-1 : Int32) I1 J1) ∧ (¬ r1 = (0 : Int32) → ((p2 < (0 : Int32) → Q (-1 : Int32) I1 J1) ∧ (¬ p2 < (0 : Int32) → (((2 : Int32) < p2 → Q (-1 : Int32) I1 J1) ∧ (¬ (2 : Int32) < p2 → ((p2 = (0 : Int32) → (wcI S d 250 [.long (J1 4 5)] x I1 J1 (fun r2 I2 J2 => Q r2 I2 J2))) ∧ (¬ p2 = (0 : Int32) → (wcI S d 7 [.ref 31, .int p1] x I1 J1 (fun r3 I3 J3 => ((p2 = (1 : Int32) → (¬ mOut r3 601 ∧ (wcI S d 250 [.long (J3 32 r3.toNatClampNeg)] x I3 J3 (fun r4 I4 J4 => Q r4 I4 J4)))) ∧ (¬ p2 = (1 : Int32) → (¬ mOut r3 601 ∧ (wcI S d 250 [.long (J3 33 r3.toNatClampNeg)] x I3 J3 (fun r5 I5 J5 => Q r5 I5 J5)))))))))))))))))) : wp S (d + 1) 111 0 [some (.ref 0), some (.int p1), some (.int p2), none] [] (wv x I J) (rI x Q) := by
  refine wp_seg (C := gC111) (pc1 := 1) (Lo1 := [some (.ref 0), some (.int p1), some (.int p2), none]) (st1' := [.int p1]) (w1 := (wv x I J)) hC111 1 rfl ?_
  refine cs_I (mj := 141) (nn := 0) (as := [.int p1]) (r := []) rfl rfl rfl ⟨rfl, by decide, Nat.le_of_ble_eq_true rfl, Nat.le_of_ble_eq_true rfl⟩ (by decide) (wcI_mono k (fun r1 I1 J1 k => ?_))
  refine wi_eq (tgt := 16) rfl rfl (fun h => ?_) (fun h => ?_)
  · have k := k.1 h
    refine wp_seg (C := gC111) (pc1 := 17) (Lo1 := [some (.ref 0), some (.int p1), some (.int p2), none]) (st1' := [.int (-1 : Int32)]) (w1 := (wv x I1 J1)) hC111 1 rfl ?_
    exact we_i rfl rfl k
  · have k := k.2 h
    refine wp_seg (C := gC111) (pc1 := 8) (Lo1 := [some (.ref 0), some (.int p1), some (.int p2), none]) (st1' := [.int p2]) (w1 := (wv x I1 J1)) hC111 1 rfl ?_
    refine wi_lt (tgt := 16) rfl rfl (fun h => ?_) (fun h => ?_)
    · have k := k.1 h
      refine wp_seg (C := gC111) (pc1 := 17) (Lo1 := [some (.ref 0), some (.int p1), some (.int p2), none]) (st1' := [.int (-1 : Int32)]) (w1 := (wv x I1 J1)) hC111 1 rfl ?_
      exact we_i rfl rfl k
    · have k := k.2 h
      refine wp_seg (C := gC111) (pc1 := 13) (Lo1 := [some (.ref 0), some (.int p1), some (.int p2), none]) (st1' := [.int (2 : Int32), .int p2]) (w1 := (wv x I1 J1)) hC111 2 rfl ?_
      refine wj_le (tgt := 18) rfl rfl (fun h => ?_) (fun h => ?_)
      · have k := k.1 h
        refine wp_seg (C := gC111) (pc1 := 17) (Lo1 := [some (.ref 0), some (.int p1), some (.int p2), none]) (st1' := [.int (-1 : Int32)]) (w1 := (wv x I1 J1)) hC111 1 rfl ?_
        exact we_i rfl rfl k
      · have k := k.2 h
        refine wp_seg (C := gC111) (pc1 := 19) (Lo1 := [some (.ref 0), some (.int p1), some (.int p2), none]) (st1' := [.int p2]) (w1 := (wv x I1 J1)) hC111 1 rfl ?_
        refine wi_ne (tgt := 36) rfl rfl (fun h => ?_) (fun h => ?_)
        · have k := k.1 h
          refine wp_seg (C := gC111) (pc1 := 32) (Lo1 := [some (.ref 0), some (.int p1), some (.int p2), none]) (st1' := [.long (J1 4 5)]) (w1 := (wv x I1 J1)) hC111 4 rfl ?_
          refine cs_I (mj := 250) (nn := 0) (as := [.long (J1 4 5)]) (r := []) rfl rfl rfl ⟨rfl, by decide, Nat.le_of_ble_eq_true rfl, Nat.le_of_ble_eq_true rfl⟩ (by decide) (wcI_mono k (fun r2 I2 J2 k => ?_))
          exact we_i rfl rfl k
        · have k := k.2 h
          refine wp_seg (C := gC111) (pc1 := 41) (Lo1 := [some (.ref 0), some (.int p1), some (.int p2), none]) (st1' := [.int p1, .ref 31]) (w1 := (wv x I1 J1)) hC111 3 rfl ?_
          refine cv_I (mj := 7) (a := 31) (as := [.int p1]) (r := []) rfl rfl rfl ⟨rfl, by decide, Nat.le_of_ble_eq_true rfl, Nat.le_of_ble_eq_true rfl⟩ rfl (wcI_mono k (fun r3 I3 J3 k => ?_))
          refine wp_seg (C := gC111) (pc1 := 47) (Lo1 := [some (.ref 0), some (.int p1), some (.int p2), some (.int r3)]) (st1' := [.int (1 : Int32), .int p2]) (w1 := (wv x I3 J3)) hC111 3 rfl ?_
          refine wj_ne (tgt := 62) rfl rfl (fun h => ?_) (fun h => ?_)
          · have k := k.1 h
            refine wp_seg (C := gC111) (pc1 := 58) (Lo1 := [some (.ref 0), some (.int p1), some (.int p2), some (.int r3)]) (st1' := [.int r3, .ref 32]) (w1 := (wv x I3 J3)) hC111 4 rfl ?_
            refine wa_l (n := 601) rfl rfl k.1 ?_
            have k := k.2
            refine wp_seg (C := gC111) (pc1 := 71) (Lo1 := [some (.ref 0), some (.int p1), some (.int p2), some (.int r3)]) (st1' := [.long (J3 32 r3.toNatClampNeg)]) (w1 := (wv x I3 J3)) hC111 1 rfl ?_
            refine cs_I (mj := 250) (nn := 0) (as := [.long (J3 32 r3.toNatClampNeg)]) (r := []) rfl rfl rfl ⟨rfl, by decide, Nat.le_of_ble_eq_true rfl, Nat.le_of_ble_eq_true rfl⟩ (by decide) (wcI_mono k (fun r4 I4 J4 k => ?_))
            exact we_i rfl rfl k
          · have k := k.2 h
            refine wp_seg (C := gC111) (pc1 := 70) (Lo1 := [some (.ref 0), some (.int p1), some (.int p2), some (.int r3)]) (st1' := [.int r3, .ref 33]) (w1 := (wv x I3 J3)) hC111 4 rfl ?_
            refine wa_l (n := 601) rfl rfl k.1 ?_
            have k := k.2
            refine cs_I (mj := 250) (nn := 0) (as := [.long (J3 33 r3.toNatClampNeg)]) (r := []) rfl rfl rfl ⟨rfl, by decide, Nat.le_of_ble_eq_true rfl, Nat.le_of_ble_eq_true rfl⟩ (by decide) (wcI_mono k (fun r5 I5 J5 k => ?_))
            exact we_i rfl rfl k
set_option maxRecDepth 20000 in
theorem v112_0_0 {S : Nat × (Nat → Int32)} {d : Nat} {x : mX} {I : rI0} {J : rJ0} {p1 : Int32} {p2 : Int32} {p3 : Int32} {Q : Int32 → rI0 → rJ0 → Prop} (k : (wcI S d 24 [.ref 4, .int p1] x I J (fun r1 I1 J1 => ((r1 = (0 : Int32) → Q (-1 : Int32) I1 J1) ∧ (¬ r1 = (0 : Int32) → (wcI S d 141 [.int p2] x I1 J1 (fun r2 I2 J2 => ((r2 = (0 : Int32) → Q (-1 : Int32) I2 J2) ∧ (¬ r2 = (0 : Int32) → ((p3 < (0 : Int32) → Q (-1 : Int32) I2 J2) ∧ (¬ p3 < (0 : Int32) → (((1 : Int32) < p3 → Q (-1 : Int32) I2 J2) ∧ (¬ (1 : Int32) < p3 → (¬ mOut p1 64 ∧ (¬ mOut (((2 : Int32) * (I2 5 p1.toNatClampNeg)) + p3) 12 ∧ (((I2 9 ((((2 : Int32) * (I2 5 p1.toNatClampNeg)) + p3).toNatClampNeg)) = (-1 : Int32) → Q (-1 : Int32) I2 J2) ∧ (¬ (I2 9 ((((2 : Int32) * (I2 5 p1.toNatClampNeg)) + p3).toNatClampNeg)) = (-1 : Int32) → (wcI S d 7 [.ref 31, .int p2] x I2 J2 (fun r3 I3 J3 => (wcV S d 50 [.ref 41, .ref 31, .int r3] x I3 J3 (fun I4 J4 => (wcI S d 51 [.ref 41, .int (((2 : Int32) * (I2 5 p1.toNatClampNeg)) + p3), .int p1] x I4 J4 (fun r5 I5 J5 => ((r5 = (0 : Int32) → Q (0 : Int32) I5 J5) ∧ (¬ r5 = (0 : Int32) → Q (1 : Int32) I5 J5))))))))))))))))))))))))) : wp S (d + 1) 112 0 [some (.ref 0), some (.int p1), some (.int p2), some (.int p3), none] [] (wv x I J) (rI x Q) := by
  refine wp_seg (C := gC112) (pc1 := 8) (Lo1 := [some (.ref 0), some (.int p1), some (.int p2), some (.int p3), none]) (st1' := [.int p1, .ref 4]) (w1 := (wv x I J)) hC112 4 rfl ?_
  refine cv_I (mj := 24) (a := 4) (as := [.int p1]) (r := []) rfl rfl rfl ⟨rfl, by decide, Nat.le_of_ble_eq_true rfl, Nat.le_of_ble_eq_true rfl⟩ rfl (wcI_mono k (fun r1 I1 J1 k => ?_))
  refine wi_eq (tgt := 30) rfl rfl (fun h => ?_) (fun h => ?_)
  · have k := k.1 h
    refine wp_seg (C := gC112) (pc1 := 31) (Lo1 := [some (.ref 0), some (.int p1), some (.int p2), some (.int p3), none]) (st1' := [.int (-1 : Int32)]) (w1 := (wv x I1 J1)) hC112 1 rfl ?_
    exact we_i rfl rfl k
  · have k := k.2 h
    refine wp_seg (C := gC112) (pc1 := 15) (Lo1 := [some (.ref 0), some (.int p1), some (.int p2), some (.int p3), none]) (st1' := [.int p2]) (w1 := (wv x I1 J1)) hC112 1 rfl ?_
    refine cs_I (mj := 141) (nn := 0) (as := [.int p2]) (r := []) rfl rfl rfl ⟨rfl, by decide, Nat.le_of_ble_eq_true rfl, Nat.le_of_ble_eq_true rfl⟩ (by decide) (wcI_mono k (fun r2 I2 J2 k => ?_))
    refine wi_eq (tgt := 30) rfl rfl (fun h => ?_) (fun h => ?_)
    · have k := k.1 h
      refine wp_seg (C := gC112) (pc1 := 31) (Lo1 := [some (.ref 0), some (.int p1), some (.int p2), some (.int p3), none]) (st1' := [.int (-1 : Int32)]) (w1 := (wv x I2 J2)) hC112 1 rfl ?_
      exact we_i rfl rfl k
    · have k := k.2 h
      refine wp_seg (C := gC112) (pc1 := 22) (Lo1 := [some (.ref 0), some (.int p1), some (.int p2), some (.int p3), none]) (st1' := [.int p3]) (w1 := (wv x I2 J2)) hC112 1 rfl ?_
      refine wi_lt (tgt := 30) rfl rfl (fun h => ?_) (fun h => ?_)
      · have k := k.1 h
        refine wp_seg (C := gC112) (pc1 := 31) (Lo1 := [some (.ref 0), some (.int p1), some (.int p2), some (.int p3), none]) (st1' := [.int (-1 : Int32)]) (w1 := (wv x I2 J2)) hC112 1 rfl ?_
        exact we_i rfl rfl k
      · have k := k.2 h
        refine wp_seg (C := gC112) (pc1 := 27) (Lo1 := [some (.ref 0), some (.int p1), some (.int p2), some (.int p3), none]) (st1' := [.int (1 : Int32), .int p3]) (w1 := (wv x I2 J2)) hC112 2 rfl ?_
        refine wj_le (tgt := 32) rfl rfl (fun h => ?_) (fun h => ?_)
        · have k := k.1 h
          refine wp_seg (C := gC112) (pc1 := 31) (Lo1 := [some (.ref 0), some (.int p1), some (.int p2), some (.int p3), none]) (st1' := [.int (-1 : Int32)]) (w1 := (wv x I2 J2)) hC112 1 rfl ?_
          exact we_i rfl rfl k
        · have k := k.2 h
          refine wp_seg (C := gC112) (pc1 := 44) (Lo1 := [some (.ref 0), some (.int p1), some (.int p2), some (.int p3), none]) (st1' := [.int p1, .ref 5, .int (2 : Int32)]) (w1 := (wv x I2 J2)) hC112 6 rfl ?_
          refine wa_i (n := 64) rfl (by decide) rfl k.1 ?_
          have k := k.2
          refine wp_seg (C := gC112) (pc1 := 62) (Lo1 := [some (.ref 0), some (.int p1), some (.int p2), some (.int p3), some (.int (((2 : Int32) * (I2 5 p1.toNatClampNeg)) + p3))]) (st1' := [.int (((2 : Int32) * (I2 5 p1.toNatClampNeg)) + p3), .ref 9]) (w1 := (wv x I2 J2)) hC112 9 rfl ?_
          refine wa_i (n := 12) rfl (by decide) rfl k.1 ?_
          have k := k.2
          refine wp_seg (C := gC112) (pc1 := 64) (Lo1 := [some (.ref 0), some (.int p1), some (.int p2), some (.int p3), some (.int (((2 : Int32) * (I2 5 p1.toNatClampNeg)) + p3))]) (st1' := [.int (-1 : Int32), .int (I2 9 ((((2 : Int32) * (I2 5 p1.toNatClampNeg)) + p3).toNatClampNeg))]) (w1 := (wv x I2 J2)) hC112 1 rfl ?_
          refine wj_ne (tgt := 69) rfl rfl (fun h => ?_) (fun h => ?_)
          · have k := k.1 h
            refine wp_seg (C := gC112) (pc1 := 68) (Lo1 := [some (.ref 0), some (.int p1), some (.int p2), some (.int p3), some (.int (((2 : Int32) * (I2 5 p1.toNatClampNeg)) + p3))]) (st1' := [.int (-1 : Int32)]) (w1 := (wv x I2 J2)) hC112 1 rfl ?_
            exact we_i rfl rfl k
          · have k := k.2 h
            refine wp_seg (C := gC112) (pc1 := 85) (Lo1 := [some (.ref 0), some (.int p1), some (.int p2), some (.int p3), some (.int (((2 : Int32) * (I2 5 p1.toNatClampNeg)) + p3))]) (st1' := [.int p2, .ref 31, .ref 31, .ref 41]) (w1 := (wv x I2 J2)) hC112 8 rfl ?_
            refine cv_I (mj := 7) (a := 31) (as := [.int p2]) (r := [.ref 31, .ref 41]) rfl rfl rfl ⟨rfl, by decide, Nat.le_of_ble_eq_true rfl, Nat.le_of_ble_eq_true rfl⟩ rfl (wcI_mono k (fun r3 I3 J3 k => ?_))
            refine cv_V (mj := 50) (a := 41) (as := [.ref 31, .int r3]) (r := []) rfl rfl rfl ⟨rfl, by decide, Nat.le_of_ble_eq_true rfl, Nat.le_of_ble_eq_true rfl⟩ rfl (wcV_mono k (fun I4 J4 k => ?_))
            refine wp_seg (C := gC112) (pc1 := 101) (Lo1 := [some (.ref 0), some (.int p1), some (.int p2), some (.int p3), some (.int (((2 : Int32) * (I2 5 p1.toNatClampNeg)) + p3))]) (st1' := [.int p1, .int (((2 : Int32) * (I2 5 p1.toNatClampNeg)) + p3), .ref 41]) (w1 := (wv x I4 J4)) hC112 5 rfl ?_
            refine cv_I (mj := 51) (a := 41) (as := [.int (((2 : Int32) * (I2 5 p1.toNatClampNeg)) + p3), .int p1]) (r := []) rfl rfl rfl ⟨rfl, by decide, Nat.le_of_ble_eq_true rfl, Nat.le_of_ble_eq_true rfl⟩ rfl (wcI_mono k (fun r5 I5 J5 k => ?_))
            refine wi_eq (tgt := 111) rfl rfl (fun h => ?_) (fun h => ?_)
            · have k := k.1 h
              refine wp_seg (C := gC112) (pc1 := 112) (Lo1 := [some (.ref 0), some (.int p1), some (.int p2), some (.int p3), some (.int (((2 : Int32) * (I2 5 p1.toNatClampNeg)) + p3))]) (st1' := [.int (0 : Int32)]) (w1 := (wv x I5 J5)) hC112 1 rfl ?_
              exact we_i rfl rfl k
            · have k := k.2 h
              refine wp_seg (C := gC112) (pc1 := 112) (Lo1 := [some (.ref 0), some (.int p1), some (.int p2), some (.int p3), some (.int (((2 : Int32) * (I2 5 p1.toNatClampNeg)) + p3))]) (st1' := [.int (1 : Int32)]) (w1 := (wv x I5 J5)) hC112 2 rfl ?_
              exact we_i rfl rfl k
set_option maxRecDepth 20000 in
theorem v113_0_0 {S : Nat × (Nat → Int32)} {d : Nat} {x : mX} {I : rI0} {J : rJ0} {p1 : Int32} {Q : Int32 → rI0 → rJ0 → Prop} (k : (wcI S d 24 [.ref 4, .int p1] x I J (fun r1 I1 J1 => ((r1 = (0 : Int32) → Q (-1 : Int32) I1 J1) ∧ (¬ r1 = (0 : Int32) → wp S (d + 1) 113 18 [some (.ref 0), some (.int p1), some (.int (0 : Int32)), none] [] (wv x I1 J1) (rI x Q)))))) : wp S (d + 1) 113 0 [some (.ref 0), some (.int p1), none, none] [] (wv x I J) (rI x Q) := by
  refine wp_seg (C := gC113) (pc1 := 8) (Lo1 := [some (.ref 0), some (.int p1), none, none]) (st1' := [.int p1, .ref 4]) (w1 := (wv x I J)) hC113 4 rfl ?_
  refine cv_I (mj := 24) (a := 4) (as := [.int p1]) (r := []) rfl rfl rfl ⟨rfl, by decide, Nat.le_of_ble_eq_true rfl, Nat.le_of_ble_eq_true rfl⟩ rfl (wcI_mono k (fun r1 I1 J1 k => ?_))
  refine wi_ne (tgt := 16) rfl rfl (fun h => ?_) (fun h => ?_)
  · have k := k.1 h
    refine wp_seg (C := gC113) (pc1 := 15) (Lo1 := [some (.ref 0), some (.int p1), none, none]) (st1' := [.int (-1 : Int32)]) (w1 := (wv x I1 J1)) hC113 1 rfl ?_
    exact we_i rfl rfl k
  · have k := k.2 h
    refine wp_seg (C := gC113) (pc1 := 18) (Lo1 := [some (.ref 0), some (.int p1), some (.int (0 : Int32)), none]) (st1' := []) (w1 := (wv x I1 J1)) hC113 2 rfl ?_
    exact k
set_option maxRecDepth 20000 in
theorem v113_0_18 {S : Nat × (Nat → Int32)} {d : Nat} {x : mX} {I : rI0} {J : rJ0} {l1 : Int32} {l2 : Int32} {Q : Int32 → rI0 → rJ0 → Prop} (k : (((600 : Int32) < l2 → Q (-1 : Int32) I J) ∧ (¬ (600 : Int32) < l2 → (wcI S d 7 [.ref 31, .int l2] x I J (fun r1 I1 J1 => ((r1 < l2 → Q (-1 : Int32) I1 J1) ∧ (¬ r1 < l2 → (¬ mOut r1 601 ∧ (wcI S d 142 [.long (J1 33 r1.toNatClampNeg), .int l1] x I1 J1 (fun r2 I2 J2 => ((r2 = (1 : Int32) → Q l2 I2 J2) ∧ (¬ r2 = (1 : Int32) → wp S (d + 1) 113 18 [some (.ref 0), some (.int l1), some (.int (l2 + (1 : Int32))), none] [] (wv x I2 J2) (rI x Q))))))))))))) : wp S (d + 1) 113 18 [some (.ref 0), some (.int l1), some (.int l2), none] [] (wv x I J) (rI x Q) := by
  refine wp_seg (C := gC113) (pc1 := 22) (Lo1 := [some (.ref 0), some (.int l1), some (.int l2), none]) (st1' := [.int (600 : Int32), .int l2]) (w1 := (wv x I J)) hC113 2 rfl ?_
  refine wj_gt (tgt := 66) rfl rfl (fun h => ?_) (fun h => ?_)
  · have k := k.1 h
    refine wp_seg (C := gC113) (pc1 := 67) (Lo1 := [some (.ref 0), some (.int l1), some (.int l2), none]) (st1' := [.int (-1 : Int32)]) (w1 := (wv x I J)) hC113 1 rfl ?_
    exact we_i rfl rfl k
  · have k := k.2 h
    refine wp_seg (C := gC113) (pc1 := 30) (Lo1 := [some (.ref 0), some (.int l1), some (.int l2), none]) (st1' := [.int l2, .ref 31]) (w1 := (wv x I J)) hC113 3 rfl ?_
    refine cv_I (mj := 7) (a := 31) (as := [.int l2]) (r := []) rfl rfl rfl ⟨rfl, by decide, Nat.le_of_ble_eq_true rfl, Nat.le_of_ble_eq_true rfl⟩ rfl (wcI_mono k (fun r1 I1 J1 k => ?_))
    refine wp_seg (C := gC113) (pc1 := 36) (Lo1 := [some (.ref 0), some (.int l1), some (.int l2), some (.int r1)]) (st1' := [.int l2, .int r1]) (w1 := (wv x I1 J1)) hC113 3 rfl ?_
    refine wj_ge (tgt := 41) rfl rfl (fun h => ?_) (fun h => ?_)
    · have k := k.1 h
      refine wp_seg (C := gC113) (pc1 := 40) (Lo1 := [some (.ref 0), some (.int l1), some (.int l2), some (.int r1)]) (st1' := [.int (-1 : Int32)]) (w1 := (wv x I1 J1)) hC113 1 rfl ?_
      exact we_i rfl rfl k
    · have k := k.2 h
      refine wp_seg (C := gC113) (pc1 := 49) (Lo1 := [some (.ref 0), some (.int l1), some (.int l2), some (.int r1)]) (st1' := [.int r1, .ref 33]) (w1 := (wv x I1 J1)) hC113 4 rfl ?_
      refine wa_l (n := 601) rfl rfl k.1 ?_
      have k := k.2
      refine wp_seg (C := gC113) (pc1 := 51) (Lo1 := [some (.ref 0), some (.int l1), some (.int l2), some (.int r1)]) (st1' := [.int l1, .long (J1 33 r1.toNatClampNeg)]) (w1 := (wv x I1 J1)) hC113 1 rfl ?_
      refine cs_I (mj := 142) (nn := 0) (as := [.long (J1 33 r1.toNatClampNeg), .int l1]) (r := []) rfl rfl rfl ⟨rfl, by decide, Nat.le_of_ble_eq_true rfl, Nat.le_of_ble_eq_true rfl⟩ (by decide) (wcI_mono k (fun r2 I2 J2 k => ?_))
      refine wp_seg (C := gC113) (pc1 := 55) (Lo1 := [some (.ref 0), some (.int l1), some (.int l2), some (.int r1)]) (st1' := [.int (1 : Int32), .int r2]) (w1 := (wv x I2 J2)) hC113 1 rfl ?_
      refine wj_ne (tgt := 60) rfl rfl (fun h => ?_) (fun h => ?_)
      · have k := k.1 h
        refine wp_seg (C := gC113) (pc1 := 59) (Lo1 := [some (.ref 0), some (.int l1), some (.int l2), some (.int r1)]) (st1' := [.int l2]) (w1 := (wv x I2 J2)) hC113 1 rfl ?_
        exact we_i rfl rfl k
      · have k := k.2 h
        refine wp_seg (C := gC113) (pc1 := 18) (Lo1 := [some (.ref 0), some (.int l1), some (.int (l2 + (1 : Int32))), some (.int r1)]) (st1' := []) (w1 := (wv x I2 J2)) hC113 2 rfl ?_
        exact wp_sub (Lo := [some (.ref 0), some (.int l1), some (.int (l2 + (1 : Int32))), none]) (And.intro rfl (And.intro rfl (And.intro rfl (trivial)))) k
set_option maxRecDepth 20000 in
theorem v114_0_0 {S : Nat × (Nat → Int32)} {d : Nat} {x : mX} {I : rI0} {J : rJ0} {p1 : Int32} {Q : Int32 → rI0 → rJ0 → Prop} (k : (wcI S d 141 [.int p1] x I J (fun r1 I1 J1 => ((r1 = (0 : Int32) → Q (-1 : Int32) I1 J1) ∧ (¬ r1 = (0 : Int32) → (wcV S d 52 [.ref 41, .long (0 : Int64), .long (J1 3 6)] x I1 J1 (fun I2 J2 => (wcV S d 53 [.ref 41, .int p1] x I2 J2 (fun I3 J3 => (wcI S d 7 [.ref 31, .int p1] x I3 J3 (fun r4 I4 J4 => (¬ mOut r4 601 ∧ (wcI S d 250 [.long ((J4 33 r4.toNatClampNeg) &&& (J4 41 9))] x I4 J4 (fun r5 I5 J5 => Q r5 I5 J5)))))))))))))) : wp S (d + 1) 114 0 [some (.ref 0), some (.int p1)] [] (wv x I J) (rI x Q) := by
  refine wp_seg (C := gC114) (pc1 := 1) (Lo1 := [some (.ref 0), some (.int p1)]) (st1' := [.int p1]) (w1 := (wv x I J)) hC114 1 rfl ?_
  refine cs_I (mj := 141) (nn := 0) (as := [.int p1]) (r := []) rfl rfl rfl ⟨rfl, by decide, Nat.le_of_ble_eq_true rfl, Nat.le_of_ble_eq_true rfl⟩ (by decide) (wcI_mono k (fun r1 I1 J1 k => ?_))
  refine wi_ne (tgt := 9) rfl rfl (fun h => ?_) (fun h => ?_)
  · have k := k.1 h
    refine wp_seg (C := gC114) (pc1 := 8) (Lo1 := [some (.ref 0), some (.int p1)]) (st1' := [.int (-1 : Int32)]) (w1 := (wv x I1 J1)) hC114 1 rfl ?_
    exact we_i rfl rfl k
  · have k := k.2 h
    refine wp_seg (C := gC114) (pc1 := 24) (Lo1 := [some (.ref 0), some (.int p1)]) (st1' := [.long (J1 3 6), .long (0 : Int64), .ref 41]) (w1 := (wv x I1 J1)) hC114 7 rfl ?_
    refine cv_V (mj := 52) (a := 41) (as := [.long (0 : Int64), .long (J1 3 6)]) (r := []) rfl rfl rfl ⟨rfl, by decide, Nat.le_of_ble_eq_true rfl, Nat.le_of_ble_eq_true rfl⟩ rfl (wcV_mono k (fun I2 J2 k => ?_))
    refine wp_seg (C := gC114) (pc1 := 35) (Lo1 := [some (.ref 0), some (.int p1)]) (st1' := [.int p1, .ref 41]) (w1 := (wv x I2 J2)) hC114 4 rfl ?_
    refine cv_V (mj := 53) (a := 41) (as := [.int p1]) (r := []) rfl rfl rfl ⟨rfl, by decide, Nat.le_of_ble_eq_true rfl, Nat.le_of_ble_eq_true rfl⟩ rfl (wcV_mono k (fun I3 J3 k => ?_))
    refine wp_seg (C := gC114) (pc1 := 50) (Lo1 := [some (.ref 0), some (.int p1)]) (st1' := [.int p1, .ref 31, .ref 33]) (w1 := (wv x I3 J3)) hC114 6 rfl ?_
    refine cv_I (mj := 7) (a := 31) (as := [.int p1]) (r := [.ref 33]) rfl rfl rfl ⟨rfl, by decide, Nat.le_of_ble_eq_true rfl, Nat.le_of_ble_eq_true rfl⟩ rfl (wcI_mono k (fun r4 I4 J4 k => ?_))
    refine wa_l (n := 601) rfl rfl k.1 ?_
    have k := k.2
    refine wp_seg (C := gC114) (pc1 := 65) (Lo1 := [some (.ref 0), some (.int p1)]) (st1' := [.long ((J4 33 r4.toNatClampNeg) &&& (J4 41 9))]) (w1 := (wv x I4 J4)) hC114 5 rfl ?_
    refine cs_I (mj := 250) (nn := 0) (as := [.long ((J4 33 r4.toNatClampNeg) &&& (J4 41 9))]) (r := []) rfl rfl rfl ⟨rfl, by decide, Nat.le_of_ble_eq_true rfl, Nat.le_of_ble_eq_true rfl⟩ (by decide) (wcI_mono k (fun r5 I5 J5 k => ?_))
    exact we_i rfl rfl k
set_option maxRecDepth 20000 in
theorem v115_0_0 {S : Nat × (Nat → Int32)} {d : Nat} {x : mX} {I : rI0} {J : rJ0} {Q : Int32 → rI0 → rJ0 → Prop} (k : wp S (d + 1) 115 2 [some (.ref 0), some (.int (0 : Int32)), none] [] (wv x I J) (rI x Q)) : wp S (d + 1) 115 0 [some (.ref 0), none, none] [] (wv x I J) (rI x Q) := by
  refine wp_seg (C := gC115) (pc1 := 2) (Lo1 := [some (.ref 0), some (.int (0 : Int32)), none]) (st1' := []) (w1 := (wv x I J)) hC115 2 rfl ?_
  exact k
set_option maxRecDepth 20000 in
theorem v115_0_2 {S : Nat × (Nat → Int32)} {d : Nat} {x : mX} {I : rI0} {J : rJ0} {l1 : Int32} {Q : Int32 → rI0 → rJ0 → Prop} (k : (((600 : Int32) < l1 → Q (-1 : Int32) I J) ∧ (¬ (600 : Int32) < l1 → (wcI S d 7 [.ref 31, .int l1] x I J (fun r1 I1 J1 => ((r1 < l1 → Q (-1 : Int32) I1 J1) ∧ (¬ r1 < l1 → (wcI S d 9 [.ref 31, .int r1] x I1 J1 (fun r2 I2 J2 => ((r2 = (0 : Int32) → wp S (d + 1) 115 2 [some (.ref 0), some (.int (l1 + (1 : Int32))), none] [] (wv x I2 J2) (rI x Q)) ∧ (¬ r2 = (0 : Int32) → Q l1 I2 J2))))))))))) : wp S (d + 1) 115 2 [some (.ref 0), some (.int l1), none] [] (wv x I J) (rI x Q) := by
  refine wp_seg (C := gC115) (pc1 := 6) (Lo1 := [some (.ref 0), some (.int l1), none]) (st1' := [.int (600 : Int32), .int l1]) (w1 := (wv x I J)) hC115 2 rfl ?_
  refine wj_gt (tgt := 44) rfl rfl (fun h => ?_) (fun h => ?_)
  · have k := k.1 h
    refine wp_seg (C := gC115) (pc1 := 45) (Lo1 := [some (.ref 0), some (.int l1), none]) (st1' := [.int (-1 : Int32)]) (w1 := (wv x I J)) hC115 1 rfl ?_
    exact we_i rfl rfl k
  · have k := k.2 h
    refine wp_seg (C := gC115) (pc1 := 14) (Lo1 := [some (.ref 0), some (.int l1), none]) (st1' := [.int l1, .ref 31]) (w1 := (wv x I J)) hC115 3 rfl ?_
    refine cv_I (mj := 7) (a := 31) (as := [.int l1]) (r := []) rfl rfl rfl ⟨rfl, by decide, Nat.le_of_ble_eq_true rfl, Nat.le_of_ble_eq_true rfl⟩ rfl (wcI_mono k (fun r1 I1 J1 k => ?_))
    refine wp_seg (C := gC115) (pc1 := 20) (Lo1 := [some (.ref 0), some (.int l1), some (.int r1)]) (st1' := [.int l1, .int r1]) (w1 := (wv x I1 J1)) hC115 3 rfl ?_
    refine wj_ge (tgt := 25) rfl rfl (fun h => ?_) (fun h => ?_)
    · have k := k.1 h
      refine wp_seg (C := gC115) (pc1 := 24) (Lo1 := [some (.ref 0), some (.int l1), some (.int r1)]) (st1' := [.int (-1 : Int32)]) (w1 := (wv x I1 J1)) hC115 1 rfl ?_
      exact we_i rfl rfl k
    · have k := k.2 h
      refine wp_seg (C := gC115) (pc1 := 30) (Lo1 := [some (.ref 0), some (.int l1), some (.int r1)]) (st1' := [.int r1, .ref 31]) (w1 := (wv x I1 J1)) hC115 3 rfl ?_
      refine cv_I (mj := 9) (a := 31) (as := [.int r1]) (r := []) rfl rfl rfl ⟨rfl, by decide, Nat.le_of_ble_eq_true rfl, Nat.le_of_ble_eq_true rfl⟩ rfl (wcI_mono k (fun r2 I2 J2 k => ?_))
      refine wi_eq (tgt := 38) rfl rfl (fun h => ?_) (fun h => ?_)
      · have k := k.1 h
        refine wp_seg (C := gC115) (pc1 := 2) (Lo1 := [some (.ref 0), some (.int (l1 + (1 : Int32))), some (.int r1)]) (st1' := []) (w1 := (wv x I2 J2)) hC115 2 rfl ?_
        exact wp_sub (Lo := [some (.ref 0), some (.int (l1 + (1 : Int32))), none]) (And.intro rfl (And.intro rfl (trivial))) k
      · have k := k.2 h
        refine wp_seg (C := gC115) (pc1 := 37) (Lo1 := [some (.ref 0), some (.int l1), some (.int r1)]) (st1' := [.int l1]) (w1 := (wv x I2 J2)) hC115 1 rfl ?_
        exact we_i rfl rfl k
set_option maxRecDepth 20000 in
theorem v116_0_0 {S : Nat × (Nat → Int32)} {d : Nat} {x : mX} {I : rI0} {J : rJ0} {p1 : Int32} {Q : Int32 → rI0 → rJ0 → Prop} (k : (wcI S d 141 [.int p1] x I J (fun r1 I1 J1 => ((r1 = (0 : Int32) → Q (-1 : Int32) I1 J1) ∧ (¬ r1 = (0 : Int32) → wp S (d + 1) 116 16 [some (.ref 0), some (.int p1), some (.int (0 : Int32)), some (.int (0 : Int32)), some (.int (0 : Int32)), none, none] [] (wv x I1 J1) (rI x Q)))))) : wp S (d + 1) 116 0 [some (.ref 0), some (.int p1), none, none, none, none, none] [] (wv x I J) (rI x Q) := by
  refine wp_seg (C := gC116) (pc1 := 1) (Lo1 := [some (.ref 0), some (.int p1), none, none, none, none, none]) (st1' := [.int p1]) (w1 := (wv x I J)) hC116 1 rfl ?_
  refine cs_I (mj := 141) (nn := 0) (as := [.int p1]) (r := []) rfl rfl rfl ⟨rfl, by decide, Nat.le_of_ble_eq_true rfl, Nat.le_of_ble_eq_true rfl⟩ (by decide) (wcI_mono k (fun r1 I1 J1 k => ?_))
  refine wi_ne (tgt := 9) rfl rfl (fun h => ?_) (fun h => ?_)
  · have k := k.1 h
    refine wp_seg (C := gC116) (pc1 := 8) (Lo1 := [some (.ref 0), some (.int p1), none, none, none, none, none]) (st1' := [.int (-1 : Int32)]) (w1 := (wv x I1 J1)) hC116 1 rfl ?_
    exact we_i rfl rfl k
  · have k := k.2 h
    refine wp_seg (C := gC116) (pc1 := 13) (Lo1 := [some (.ref 0), some (.int p1), some (.int (0 : Int32)), some (.int (0 : Int32)), none, none, none]) (st1' := []) (w1 := (wv x I1 J1)) hC116 4 rfl ?_
    refine wp_seg (C := gC116) (pc1 := 16) (Lo1 := [some (.ref 0), some (.int p1), some (.int (0 : Int32)), some (.int (0 : Int32)), some (.int (0 : Int32)), none, none]) (st1' := []) (w1 := (wv x I1 J1)) hC116 2 rfl ?_
    exact k
set_option maxRecDepth 20000 in
theorem v116_0_16 {S : Nat × (Nat → Int32)} {d : Nat} {x : mX} {I : rI0} {J : rJ0} {l1 : Int32} {l2 : Int32} {l3 : Int32} {l4 : Int32} {Q : Int32 → rI0 → rJ0 → Prop} (k : ((l1 < l4 → Q l2 I J) ∧ (¬ l1 < l4 → (wcI S d 7 [.ref 31, .int l4] x I J (fun r1 I1 J1 => ((r1 < l4 → Q l2 I1 J1) ∧ (¬ r1 < l4 → (wcI S d 9 [.ref 31, .int r1] x I1 J1 (fun r2 I2 J2 => ((r2 = (0 : Int32) → wp S (d + 1) 116 16 [some (.ref 0), some (.int l1), some (.int l2), some (.int r2), some (.int (l4 + (1 : Int32))), none, none] [] (wv x I2 J2) (rI x Q)) ∧ (¬ r2 = (0 : Int32) → ((l3 = (0 : Int32) → wp S (d + 1) 116 16 [some (.ref 0), some (.int l1), some (.int (l2 + (1 : Int32))), some (.int r2), some (.int (l4 + (1 : Int32))), none, none] [] (wv x I2 J2) (rI x Q)) ∧ (¬ l3 = (0 : Int32) → wp S (d + 1) 116 16 [some (.ref 0), some (.int l1), some (.int l2), some (.int r2), some (.int (l4 + (1 : Int32))), none, none] [] (wv x I2 J2) (rI x Q)))))))))))))) : wp S (d + 1) 116 16 [some (.ref 0), some (.int l1), some (.int l2), some (.int l3), some (.int l4), none, none] [] (wv x I J) (rI x Q) := by
  refine wp_seg (C := gC116) (pc1 := 19) (Lo1 := [some (.ref 0), some (.int l1), some (.int l2), some (.int l3), some (.int l4), none, none]) (st1' := [.int l1, .int l4]) (w1 := (wv x I J)) hC116 2 rfl ?_
  refine wj_gt (tgt := 74) rfl rfl (fun h => ?_) (fun h => ?_)
  · have k := k.1 h
    refine wp_seg (C := gC116) (pc1 := 75) (Lo1 := [some (.ref 0), some (.int l1), some (.int l2), some (.int l3), some (.int l4), none, none]) (st1' := [.int l2]) (w1 := (wv x I J)) hC116 1 rfl ?_
    exact we_i rfl rfl k
  · have k := k.2 h
    refine wp_seg (C := gC116) (pc1 := 28) (Lo1 := [some (.ref 0), some (.int l1), some (.int l2), some (.int l3), some (.int l4), none, none]) (st1' := [.int l4, .ref 31]) (w1 := (wv x I J)) hC116 3 rfl ?_
    refine cv_I (mj := 7) (a := 31) (as := [.int l4]) (r := []) rfl rfl rfl ⟨rfl, by decide, Nat.le_of_ble_eq_true rfl, Nat.le_of_ble_eq_true rfl⟩ rfl (wcI_mono k (fun r1 I1 J1 k => ?_))
    refine wp_seg (C := gC116) (pc1 := 37) (Lo1 := [some (.ref 0), some (.int l1), some (.int l2), some (.int l3), some (.int l4), some (.int r1), none]) (st1' := [.int l4, .int r1]) (w1 := (wv x I1 J1)) hC116 3 rfl ?_
    refine wj_ge (tgt := 42) rfl rfl (fun h => ?_) (fun h => ?_)
    · have k := k.1 h
      refine wp_seg (C := gC116) (pc1 := 41) (Lo1 := [some (.ref 0), some (.int l1), some (.int l2), some (.int l3), some (.int l4), some (.int r1), none]) (st1' := [.int l2]) (w1 := (wv x I1 J1)) hC116 1 rfl ?_
      exact we_i rfl rfl k
    · have k := k.2 h
      refine wp_seg (C := gC116) (pc1 := 48) (Lo1 := [some (.ref 0), some (.int l1), some (.int l2), some (.int l3), some (.int l4), some (.int r1), none]) (st1' := [.int r1, .ref 31]) (w1 := (wv x I1 J1)) hC116 3 rfl ?_
      refine cv_I (mj := 9) (a := 31) (as := [.int r1]) (r := []) rfl rfl rfl ⟨rfl, by decide, Nat.le_of_ble_eq_true rfl, Nat.le_of_ble_eq_true rfl⟩ rfl (wcI_mono k (fun r2 I2 J2 k => ?_))
      refine wp_seg (C := gC116) (pc1 := 55) (Lo1 := [some (.ref 0), some (.int l1), some (.int l2), some (.int l3), some (.int l4), some (.int r1), some (.int r2)]) (st1' := [.int r2]) (w1 := (wv x I2 J2)) hC116 2 rfl ?_
      refine wi_eq (tgt := 65) rfl rfl (fun h => ?_) (fun h => ?_)
      · have k := k.1 h
        refine wp_seg (C := gC116) (pc1 := 71) (Lo1 := [some (.ref 0), some (.int l1), some (.int l2), some (.int r2), some (.int (l4 + (1 : Int32))), some (.int r1), some (.int r2)]) (st1' := []) (w1 := (wv x I2 J2)) hC116 3 rfl ?_
        refine wp_seg (C := gC116) (pc1 := 16) (Lo1 := [some (.ref 0), some (.int l1), some (.int l2), some (.int r2), some (.int (l4 + (1 : Int32))), some (.int r1), some (.int r2)]) (st1' := []) (w1 := (wv x I2 J2)) hC116 1 rfl ?_
        exact wp_sub (Lo := [some (.ref 0), some (.int l1), some (.int l2), some (.int r2), some (.int (l4 + (1 : Int32))), none, none]) (And.intro rfl (And.intro rfl (And.intro rfl (And.intro rfl (And.intro rfl (trivial)))))) k
      · have k := k.2 h
        refine wp_seg (C := gC116) (pc1 := 59) (Lo1 := [some (.ref 0), some (.int l1), some (.int l2), some (.int l3), some (.int l4), some (.int r1), some (.int r2)]) (st1' := [.int l3]) (w1 := (wv x I2 J2)) hC116 1 rfl ?_
        refine wi_ne (tgt := 65) rfl rfl (fun h => ?_) (fun h => ?_)
        · have k := k.1 h
          refine wp_seg (C := gC116) (pc1 := 68) (Lo1 := [some (.ref 0), some (.int l1), some (.int (l2 + (1 : Int32))), some (.int r2), some (.int l4), some (.int r1), some (.int r2)]) (st1' := []) (w1 := (wv x I2 J2)) hC116 3 rfl ?_
          refine wp_seg (C := gC116) (pc1 := 16) (Lo1 := [some (.ref 0), some (.int l1), some (.int (l2 + (1 : Int32))), some (.int r2), some (.int (l4 + (1 : Int32))), some (.int r1), some (.int r2)]) (st1' := []) (w1 := (wv x I2 J2)) hC116 2 rfl ?_
          exact wp_sub (Lo := [some (.ref 0), some (.int l1), some (.int (l2 + (1 : Int32))), some (.int r2), some (.int (l4 + (1 : Int32))), none, none]) (And.intro rfl (And.intro rfl (And.intro rfl (And.intro rfl (And.intro rfl (trivial)))))) k
        · have k := k.2 h
          refine wp_seg (C := gC116) (pc1 := 71) (Lo1 := [some (.ref 0), some (.int l1), some (.int l2), some (.int r2), some (.int (l4 + (1 : Int32))), some (.int r1), some (.int r2)]) (st1' := []) (w1 := (wv x I2 J2)) hC116 3 rfl ?_
          refine wp_seg (C := gC116) (pc1 := 16) (Lo1 := [some (.ref 0), some (.int l1), some (.int l2), some (.int r2), some (.int (l4 + (1 : Int32))), some (.int r1), some (.int r2)]) (st1' := []) (w1 := (wv x I2 J2)) hC116 1 rfl ?_
          exact wp_sub (Lo := [some (.ref 0), some (.int l1), some (.int l2), some (.int r2), some (.int (l4 + (1 : Int32))), none, none]) (And.intro rfl (And.intro rfl (And.intro rfl (And.intro rfl (And.intro rfl (trivial)))))) k
set_option maxRecDepth 20000 in
theorem v117_0_0 {S : Nat × (Nat → Int32)} {d : Nat} {x : mX} {I : rI0} {J : rJ0} {p1 : Int32} {Q : Int32 → rI0 → rJ0 → Prop} (k : ((p1 < (0 : Int32) → Q (-1 : Int32) I J) ∧ (¬ p1 < (0 : Int32) → (((1 : Int32) < p1 → Q (-1 : Int32) I J) ∧ (¬ (1 : Int32) < p1 → (wcI S d 18 [.ref 3] x I J (fun r1 I1 J1 => wp S (d + 1) 117 19 [some (.ref 0), some (.int p1), some (.int r1), none] [] (wv x I1 J1) (rI x Q)))))))) : wp S (d + 1) 117 0 [some (.ref 0), some (.int p1), none, none] [] (wv x I J) (rI x Q) := by
  refine wp_seg (C := gC117) (pc1 := 1) (Lo1 := [some (.ref 0), some (.int p1), none, none]) (st1' := [.int p1]) (w1 := (wv x I J)) hC117 1 rfl ?_
  refine wi_lt (tgt := 9) rfl rfl (fun h => ?_) (fun h => ?_)
  · have k := k.1 h
    refine wp_seg (C := gC117) (pc1 := 10) (Lo1 := [some (.ref 0), some (.int p1), none, none]) (st1' := [.int (-1 : Int32)]) (w1 := (wv x I J)) hC117 1 rfl ?_
    exact we_i rfl rfl k
  · have k := k.2 h
    refine wp_seg (C := gC117) (pc1 := 6) (Lo1 := [some (.ref 0), some (.int p1), none, none]) (st1' := [.int (1 : Int32), .int p1]) (w1 := (wv x I J)) hC117 2 rfl ?_
    refine wj_le (tgt := 11) rfl rfl (fun h => ?_) (fun h => ?_)
    · have k := k.1 h
      refine wp_seg (C := gC117) (pc1 := 10) (Lo1 := [some (.ref 0), some (.int p1), none, none]) (st1' := [.int (-1 : Int32)]) (w1 := (wv x I J)) hC117 1 rfl ?_
      exact we_i rfl rfl k
    · have k := k.2 h
      refine wp_seg (C := gC117) (pc1 := 15) (Lo1 := [some (.ref 0), some (.int p1), none, none]) (st1' := [.ref 3]) (w1 := (wv x I J)) hC117 2 rfl ?_
      refine cv_I (mj := 18) (a := 3) (as := []) (r := []) rfl rfl rfl ⟨rfl, by decide, Nat.le_of_ble_eq_true rfl, Nat.le_of_ble_eq_true rfl⟩ rfl (wcI_mono k (fun r1 I1 J1 k => ?_))
      refine wp_seg (C := gC117) (pc1 := 19) (Lo1 := [some (.ref 0), some (.int p1), some (.int r1), none]) (st1' := []) (w1 := (wv x I1 J1)) hC117 1 rfl ?_
      exact k
set_option maxRecDepth 20000 in
theorem v117_0_19 {S : Nat × (Nat → Int32)} {d : Nat} {x : mX} {I : rI0} {J : rJ0} {l1 : Int32} {l2 : Int32} {Q : Int32 → rI0 → rJ0 → Prop} (k : ((l2 < (600 : Int32) → (wcI S d 11 [.ref 31, .int l2] x I J (fun r1 I1 J1 => ((r1 = (-1 : Int32) → wp S (d + 1) 117 19 [some (.ref 0), some (.int l1), some (.int (l2 + (1 : Int32))), none] [] (wv x I1 J1) (rI x Q)) ∧ (¬ r1 = (-1 : Int32) → ((l1 = (0 : Int32) → Q l2 I1 J1) ∧ (¬ l1 = (0 : Int32) → Q (r1 - l2) I1 J1))))))) ∧ (¬ l2 < (600 : Int32) → Q (-1 : Int32) I J))) : wp S (d + 1) 117 19 [some (.ref 0), some (.int l1), some (.int l2), none] [] (wv x I J) (rI x Q) := by
  refine wp_seg (C := gC117) (pc1 := 23) (Lo1 := [some (.ref 0), some (.int l1), some (.int l2), none]) (st1' := [.int (600 : Int32), .int l2]) (w1 := (wv x I J)) hC117 2 rfl ?_
  refine wj_ge (tgt := 58) rfl rfl (fun h => ?_) (fun h => ?_)
  · have k := k.1 h
    refine wp_seg (C := gC117) (pc1 := 31) (Lo1 := [some (.ref 0), some (.int l1), some (.int l2), none]) (st1' := [.int l2, .ref 31]) (w1 := (wv x I J)) hC117 3 rfl ?_
    refine cv_I (mj := 11) (a := 31) (as := [.int l2]) (r := []) rfl rfl rfl ⟨rfl, by decide, Nat.le_of_ble_eq_true rfl, Nat.le_of_ble_eq_true rfl⟩ rfl (wcI_mono k (fun r1 I1 J1 k => ?_))
    refine wp_seg (C := gC117) (pc1 := 37) (Lo1 := [some (.ref 0), some (.int l1), some (.int l2), some (.int r1)]) (st1' := [.int (-1 : Int32), .int r1]) (w1 := (wv x I1 J1)) hC117 3 rfl ?_
    refine wj_eq (tgt := 52) rfl rfl (fun h => ?_) (fun h => ?_)
    · have k := k.1 h
      refine wp_seg (C := gC117) (pc1 := 19) (Lo1 := [some (.ref 0), some (.int l1), some (.int (l2 + (1 : Int32))), some (.int r1)]) (st1' := []) (w1 := (wv x I1 J1)) hC117 2 rfl ?_
      exact wp_sub (Lo := [some (.ref 0), some (.int l1), some (.int (l2 + (1 : Int32))), none]) (And.intro rfl (And.intro rfl (And.intro rfl (trivial)))) k
    · have k := k.2 h
      refine wp_seg (C := gC117) (pc1 := 41) (Lo1 := [some (.ref 0), some (.int l1), some (.int l2), some (.int r1)]) (st1' := [.int l1]) (w1 := (wv x I1 J1)) hC117 1 rfl ?_
      refine wi_ne (tgt := 48) rfl rfl (fun h => ?_) (fun h => ?_)
      · have k := k.1 h
        refine wp_seg (C := gC117) (pc1 := 51) (Lo1 := [some (.ref 0), some (.int l1), some (.int l2), some (.int r1)]) (st1' := [.int l2]) (w1 := (wv x I1 J1)) hC117 2 rfl ?_
        exact we_i rfl rfl k
      · have k := k.2 h
        refine wp_seg (C := gC117) (pc1 := 51) (Lo1 := [some (.ref 0), some (.int l1), some (.int l2), some (.int r1)]) (st1' := [.int (r1 - l2)]) (w1 := (wv x I1 J1)) hC117 3 rfl ?_
        exact we_i rfl rfl k
  · have k := k.2 h
    refine wp_seg (C := gC117) (pc1 := 59) (Lo1 := [some (.ref 0), some (.int l1), some (.int l2), none]) (st1' := [.int (-1 : Int32)]) (w1 := (wv x I J)) hC117 1 rfl ?_
    exact we_i rfl rfl k
set_option maxRecDepth 20000 in
theorem v118_0_0 {S : Nat × (Nat → Int32)} {d : Nat} {x : mX} {I : rI0} {J : rJ0} {p1 : Int32} {Q : Int32 → rI0 → rJ0 → Prop} (k : ((p1 < (0 : Int32) → Q (-1 : Int32) I J) ∧ (¬ p1 < (0 : Int32) → (((1 : Int32) < p1 → Q (-1 : Int32) I J) ∧ (¬ (1 : Int32) < p1 → (wcI S d 10 [.ref 31] x I J (fun r1 I1 J1 => ((p1 = (1 : Int32) → Q r1 I1 J1) ∧ (¬ p1 = (1 : Int32) → ((r1 < (I1 4 2) → Q (0 : Int32) I1 J1) ∧ (¬ r1 < (I1 4 2) → Q (1 : Int32) I1 J1))))))))))) : wp S (d + 1) 118 0 [some (.ref 0), some (.int p1), none] [] (wv x I J) (rI x Q) := by
  refine wp_seg (C := gC118) (pc1 := 1) (Lo1 := [some (.ref 0), some (.int p1), none]) (st1' := [.int p1]) (w1 := (wv x I J)) hC118 1 rfl ?_
  refine wi_lt (tgt := 9) rfl rfl (fun h => ?_) (fun h => ?_)
  · have k := k.1 h
    refine wp_seg (C := gC118) (pc1 := 10) (Lo1 := [some (.ref 0), some (.int p1), none]) (st1' := [.int (-1 : Int32)]) (w1 := (wv x I J)) hC118 1 rfl ?_
    exact we_i rfl rfl k
  · have k := k.2 h
    refine wp_seg (C := gC118) (pc1 := 6) (Lo1 := [some (.ref 0), some (.int p1), none]) (st1' := [.int (1 : Int32), .int p1]) (w1 := (wv x I J)) hC118 2 rfl ?_
    refine wj_le (tgt := 11) rfl rfl (fun h => ?_) (fun h => ?_)
    · have k := k.1 h
      refine wp_seg (C := gC118) (pc1 := 10) (Lo1 := [some (.ref 0), some (.int p1), none]) (st1' := [.int (-1 : Int32)]) (w1 := (wv x I J)) hC118 1 rfl ?_
      exact we_i rfl rfl k
    · have k := k.2 h
      refine wp_seg (C := gC118) (pc1 := 15) (Lo1 := [some (.ref 0), some (.int p1), none]) (st1' := [.ref 31]) (w1 := (wv x I J)) hC118 2 rfl ?_
      refine cv_I (mj := 10) (a := 31) (as := []) (r := []) rfl rfl rfl ⟨rfl, by decide, Nat.le_of_ble_eq_true rfl, Nat.le_of_ble_eq_true rfl⟩ rfl (wcI_mono k (fun r1 I1 J1 k => ?_))
      refine wp_seg (C := gC118) (pc1 := 21) (Lo1 := [some (.ref 0), some (.int p1), some (.int r1)]) (st1' := [.int (1 : Int32), .int p1]) (w1 := (wv x I1 J1)) hC118 3 rfl ?_
      refine wj_ne (tgt := 26) rfl rfl (fun h => ?_) (fun h => ?_)
      · have k := k.1 h
        refine wp_seg (C := gC118) (pc1 := 25) (Lo1 := [some (.ref 0), some (.int p1), some (.int r1)]) (st1' := [.int r1]) (w1 := (wv x I1 J1)) hC118 1 rfl ?_
        exact we_i rfl rfl k
      · have k := k.2 h
        refine wp_seg (C := gC118) (pc1 := 37) (Lo1 := [some (.ref 0), some (.int p1), some (.int r1)]) (st1' := [.int (I1 4 2), .int r1]) (w1 := (wv x I1 J1)) hC118 5 rfl ?_
        refine wj_lt (tgt := 44) rfl rfl (fun h => ?_) (fun h => ?_)
        · have k := k.1 h
          refine wp_seg (C := gC118) (pc1 := 45) (Lo1 := [some (.ref 0), some (.int p1), some (.int r1)]) (st1' := [.int (0 : Int32)]) (w1 := (wv x I1 J1)) hC118 1 rfl ?_
          exact we_i rfl rfl k
        · have k := k.2 h
          refine wp_seg (C := gC118) (pc1 := 45) (Lo1 := [some (.ref 0), some (.int p1), some (.int r1)]) (st1' := [.int (1 : Int32)]) (w1 := (wv x I1 J1)) hC118 2 rfl ?_
          exact we_i rfl rfl k
set_option maxRecDepth 20000 in
theorem v119_0_0 {S : Nat × (Nat → Int32)} {d : Nat} {x : mX} {I : rI0} {J : rJ0} {Q : Int32 → rI0 → rJ0 → Prop} (k : (wcI S d 67 [.ref 1] x I J (fun r1 I1 J1 => (wcI S d 80 [.ref 37, .int r1] x I1 J1 (fun r2 I2 J2 => ((r2 = (0 : Int32) → Q (-2 : Int32) I2 J2) ∧ (¬ r2 = (0 : Int32) → (wcI S d 84 [.ref 37, .int r1] x I2 J2 (fun r3 I3 J3 => Q r3 I3 J3))))))))) : wp S (d + 1) 119 0 [some (.ref 0), none] [] (wv x I J) (rI x Q) := by
  refine wp_seg (C := gC119) (pc1 := 4) (Lo1 := [some (.ref 0), none]) (st1' := [.ref 1]) (w1 := (wv x I J)) hC119 2 rfl ?_
  refine cv_I (mj := 67) (a := 1) (as := []) (r := []) rfl rfl rfl ⟨rfl, by decide, Nat.le_of_ble_eq_true rfl, Nat.le_of_ble_eq_true rfl⟩ rfl (wcI_mono k (fun r1 I1 J1 k => ?_))
  refine wp_seg (C := gC119) (pc1 := 13) (Lo1 := [some (.ref 0), some (.int r1)]) (st1' := [.int r1, .ref 37]) (w1 := (wv x I1 J1)) hC119 4 rfl ?_
  refine cv_I (mj := 80) (a := 37) (as := [.int r1]) (r := []) rfl rfl rfl ⟨rfl, by decide, Nat.le_of_ble_eq_true rfl, Nat.le_of_ble_eq_true rfl⟩ rfl (wcI_mono k (fun r2 I2 J2 k => ?_))
  refine wi_eq (tgt := 30) rfl rfl (fun h => ?_) (fun h => ?_)
  · have k := k.1 h
    refine wp_seg (C := gC119) (pc1 := 32) (Lo1 := [some (.ref 0), some (.int r1)]) (st1' := [.int (-2 : Int32)]) (w1 := (wv x I2 J2)) hC119 1 rfl ?_
    exact we_i rfl rfl k
  · have k := k.2 h
    refine wp_seg (C := gC119) (pc1 := 24) (Lo1 := [some (.ref 0), some (.int r1)]) (st1' := [.int r1, .ref 37]) (w1 := (wv x I2 J2)) hC119 3 rfl ?_
    refine cv_I (mj := 84) (a := 37) (as := [.int r1]) (r := []) rfl rfl rfl ⟨rfl, by decide, Nat.le_of_ble_eq_true rfl, Nat.le_of_ble_eq_true rfl⟩ rfl (wcI_mono k (fun r3 I3 J3 k => ?_))
    refine wp_seg (C := gC119) (pc1 := 32) (Lo1 := [some (.ref 0), some (.int r1)]) (st1' := [.int r3]) (w1 := (wv x I3 J3)) hC119 1 rfl ?_
    exact we_i rfl rfl k
set_option maxRecDepth 20000 in
theorem v120_0_0 {S : Nat × (Nat → Int32)} {d : Nat} {x : mX} {I : rI0} {J : rJ0} {Q : Int32 → rI0 → rJ0 → Prop} (k : Q (I 37 8) I J) : wp S d 120 0 [some (.ref 0)] [] (wv x I J) (rI x Q) := by
  refine wp_seg (C := gC120) (pc1 := 7) (Lo1 := [some (.ref 0)]) (st1' := [.int (I 37 8)]) (w1 := (wv x I J)) hC120 3 rfl ?_
  exact we_i rfl rfl k
set_option maxRecDepth 20000 in
theorem v121_0_0 {S : Nat × (Nat → Int32)} {d : Nat} {x : mX} {I : rI0} {J : rJ0} {Q : Int32 → rI0 → rJ0 → Prop} (k : (wcI S d 67 [.ref 1] x I J (fun r1 I1 J1 => (wcI S d 80 [.ref 37, .int r1] x I1 J1 (fun r2 I2 J2 => ((r2 = (0 : Int32) → Q (-2 : Int32) I2 J2) ∧ (¬ r2 = (0 : Int32) → (wcI S d 85 [.ref 37, .int r1] x I2 J2 (fun r3 I3 J3 => Q r3 I3 J3))))))))) : wp S (d + 1) 121 0 [some (.ref 0), none] [] (wv x I J) (rI x Q) := by
  refine wp_seg (C := gC121) (pc1 := 4) (Lo1 := [some (.ref 0), none]) (st1' := [.ref 1]) (w1 := (wv x I J)) hC121 2 rfl ?_
  refine cv_I (mj := 67) (a := 1) (as := []) (r := []) rfl rfl rfl ⟨rfl, by decide, Nat.le_of_ble_eq_true rfl, Nat.le_of_ble_eq_true rfl⟩ rfl (wcI_mono k (fun r1 I1 J1 k => ?_))
  refine wp_seg (C := gC121) (pc1 := 13) (Lo1 := [some (.ref 0), some (.int r1)]) (st1' := [.int r1, .ref 37]) (w1 := (wv x I1 J1)) hC121 4 rfl ?_
  refine cv_I (mj := 80) (a := 37) (as := [.int r1]) (r := []) rfl rfl rfl ⟨rfl, by decide, Nat.le_of_ble_eq_true rfl, Nat.le_of_ble_eq_true rfl⟩ rfl (wcI_mono k (fun r2 I2 J2 k => ?_))
  refine wi_eq (tgt := 30) rfl rfl (fun h => ?_) (fun h => ?_)
  · have k := k.1 h
    refine wp_seg (C := gC121) (pc1 := 32) (Lo1 := [some (.ref 0), some (.int r1)]) (st1' := [.int (-2 : Int32)]) (w1 := (wv x I2 J2)) hC121 1 rfl ?_
    exact we_i rfl rfl k
  · have k := k.2 h
    refine wp_seg (C := gC121) (pc1 := 24) (Lo1 := [some (.ref 0), some (.int r1)]) (st1' := [.int r1, .ref 37]) (w1 := (wv x I2 J2)) hC121 3 rfl ?_
    refine cv_I (mj := 85) (a := 37) (as := [.int r1]) (r := []) rfl rfl rfl ⟨rfl, by decide, Nat.le_of_ble_eq_true rfl, Nat.le_of_ble_eq_true rfl⟩ rfl (wcI_mono k (fun r3 I3 J3 k => ?_))
    refine wp_seg (C := gC121) (pc1 := 32) (Lo1 := [some (.ref 0), some (.int r1)]) (st1' := [.int r3]) (w1 := (wv x I3 J3)) hC121 1 rfl ?_
    exact we_i rfl rfl k
set_option maxRecDepth 20000 in
theorem v122_0_0 {S : Nat × (Nat → Int32)} {d : Nat} {x : mX} {I : rI0} {J : rJ0} {p1 : Int32} {Q : Int32 → rI0 → rJ0 → Prop} (k : (wcI S d 67 [.ref 1] x I J (fun r1 I1 J1 => (wcI S d 80 [.ref 37, .int r1] x I1 J1 (fun r2 I2 J2 => ((r2 = (0 : Int32) → Q (-2 : Int32) I2 J2) ∧ (¬ r2 = (0 : Int32) → (wcI S d 86 [.ref 37, .int r1] x I2 J2 (fun r3 I3 J3 => ((p1 = (-1 : Int32) → Q r3 I3 J3) ∧ (¬ p1 = (-1 : Int32) → ((p1 < (0 : Int32) → Q (-1 : Int32) I3 J3) ∧ (¬ p1 < (0 : Int32) → ((p1 < r3 → (¬ mOut p1 256 ∧ Q (I3 39 p1.toNatClampNeg) I3 J3)) ∧ (¬ p1 < r3 → Q (-1 : Int32) I3 J3))))))))))))))) : wp S (d + 1) 122 0 [some (.ref 0), some (.int p1), none, none] [] (wv x I J) (rI x Q) := by
  refine wp_seg (C := gC122) (pc1 := 4) (Lo1 := [some (.ref 0), some (.int p1), none, none]) (st1' := [.ref 1]) (w1 := (wv x I J)) hC122 2 rfl ?_
  refine cv_I (mj := 67) (a := 1) (as := []) (r := []) rfl rfl rfl ⟨rfl, by decide, Nat.le_of_ble_eq_true rfl, Nat.le_of_ble_eq_true rfl⟩ rfl (wcI_mono k (fun r1 I1 J1 k => ?_))
  refine wp_seg (C := gC122) (pc1 := 13) (Lo1 := [some (.ref 0), some (.int p1), some (.int r1), none]) (st1' := [.int r1, .ref 37]) (w1 := (wv x I1 J1)) hC122 4 rfl ?_
  refine cv_I (mj := 80) (a := 37) (as := [.int r1]) (r := []) rfl rfl rfl ⟨rfl, by decide, Nat.le_of_ble_eq_true rfl, Nat.le_of_ble_eq_true rfl⟩ rfl (wcI_mono k (fun r2 I2 J2 k => ?_))
  refine wi_ne (tgt := 22) rfl rfl (fun h => ?_) (fun h => ?_)
  · have k := k.1 h
    refine wp_seg (C := gC122) (pc1 := 21) (Lo1 := [some (.ref 0), some (.int p1), some (.int r1), none]) (st1' := [.int (-2 : Int32)]) (w1 := (wv x I2 J2)) hC122 1 rfl ?_
    exact we_i rfl rfl k
  · have k := k.2 h
    refine wp_seg (C := gC122) (pc1 := 27) (Lo1 := [some (.ref 0), some (.int p1), some (.int r1), none]) (st1' := [.int r1, .ref 37]) (w1 := (wv x I2 J2)) hC122 3 rfl ?_
    refine cv_I (mj := 86) (a := 37) (as := [.int r1]) (r := []) rfl rfl rfl ⟨rfl, by decide, Nat.le_of_ble_eq_true rfl, Nat.le_of_ble_eq_true rfl⟩ rfl (wcI_mono k (fun r3 I3 J3 k => ?_))
    refine wp_seg (C := gC122) (pc1 := 33) (Lo1 := [some (.ref 0), some (.int p1), some (.int r1), some (.int r3)]) (st1' := [.int (-1 : Int32), .int p1]) (w1 := (wv x I3 J3)) hC122 3 rfl ?_
    refine wj_ne (tgt := 38) rfl rfl (fun h => ?_) (fun h => ?_)
    · have k := k.1 h
      refine wp_seg (C := gC122) (pc1 := 37) (Lo1 := [some (.ref 0), some (.int p1), some (.int r1), some (.int r3)]) (st1' := [.int r3]) (w1 := (wv x I3 J3)) hC122 1 rfl ?_
      exact we_i rfl rfl k
    · have k := k.2 h
      refine wp_seg (C := gC122) (pc1 := 39) (Lo1 := [some (.ref 0), some (.int p1), some (.int r1), some (.int r3)]) (st1' := [.int p1]) (w1 := (wv x I3 J3)) hC122 1 rfl ?_
      refine wi_lt (tgt := 59) rfl rfl (fun h => ?_) (fun h => ?_)
      · have k := k.1 h
        refine wp_seg (C := gC122) (pc1 := 60) (Lo1 := [some (.ref 0), some (.int p1), some (.int r1), some (.int r3)]) (st1' := [.int (-1 : Int32)]) (w1 := (wv x I3 J3)) hC122 1 rfl ?_
        exact we_i rfl rfl k
      · have k := k.2 h
        refine wp_seg (C := gC122) (pc1 := 44) (Lo1 := [some (.ref 0), some (.int p1), some (.int r1), some (.int r3)]) (st1' := [.int r3, .int p1]) (w1 := (wv x I3 J3)) hC122 2 rfl ?_
        refine wj_ge (tgt := 59) rfl rfl (fun h => ?_) (fun h => ?_)
        · have k := k.1 h
          refine wp_seg (C := gC122) (pc1 := 55) (Lo1 := [some (.ref 0), some (.int p1), some (.int r1), some (.int r3)]) (st1' := [.int p1, .ref 39]) (w1 := (wv x I3 J3)) hC122 4 rfl ?_
          refine wa_i (n := 256) rfl (by decide) rfl k.1 ?_
          have k := k.2
          refine wp_seg (C := gC122) (pc1 := 60) (Lo1 := [some (.ref 0), some (.int p1), some (.int r1), some (.int r3)]) (st1' := [.int (I3 39 p1.toNatClampNeg)]) (w1 := (wv x I3 J3)) hC122 1 rfl ?_
          exact we_i rfl rfl k
        · have k := k.2 h
          refine wp_seg (C := gC122) (pc1 := 60) (Lo1 := [some (.ref 0), some (.int p1), some (.int r1), some (.int r3)]) (st1' := [.int (-1 : Int32)]) (w1 := (wv x I3 J3)) hC122 1 rfl ?_
          exact we_i rfl rfl k
set_option maxRecDepth 20000 in
theorem v123_0_0 {S : Nat × (Nat → Int32)} {d : Nat} {x : mX} {I : rI0} {J : rJ0} {Q : Int32 → rI0 → rJ0 → Prop} (k : (wcI S d 67 [.ref 1] x I J (fun r1 I1 J1 => (wcI S d 80 [.ref 37, .int r1] x I1 J1 (fun r2 I2 J2 => ((r2 = (0 : Int32) → Q (-1 : Int32) I2 J2) ∧ (¬ r2 = (0 : Int32) → (wcI S d 88 [.ref 37, .int r1] x I2 J2 (fun r3 I3 J3 => Q r3 I3 J3))))))))) : wp S (d + 1) 123 0 [some (.ref 0), none] [] (wv x I J) (rI x Q) := by
  refine wp_seg (C := gC123) (pc1 := 4) (Lo1 := [some (.ref 0), none]) (st1' := [.ref 1]) (w1 := (wv x I J)) hC123 2 rfl ?_
  refine cv_I (mj := 67) (a := 1) (as := []) (r := []) rfl rfl rfl ⟨rfl, by decide, Nat.le_of_ble_eq_true rfl, Nat.le_of_ble_eq_true rfl⟩ rfl (wcI_mono k (fun r1 I1 J1 k => ?_))
  refine wp_seg (C := gC123) (pc1 := 13) (Lo1 := [some (.ref 0), some (.int r1)]) (st1' := [.int r1, .ref 37]) (w1 := (wv x I1 J1)) hC123 4 rfl ?_
  refine cv_I (mj := 80) (a := 37) (as := [.int r1]) (r := []) rfl rfl rfl ⟨rfl, by decide, Nat.le_of_ble_eq_true rfl, Nat.le_of_ble_eq_true rfl⟩ rfl (wcI_mono k (fun r2 I2 J2 k => ?_))
  refine wi_eq (tgt := 30) rfl rfl (fun h => ?_) (fun h => ?_)
  · have k := k.1 h
    refine wp_seg (C := gC123) (pc1 := 31) (Lo1 := [some (.ref 0), some (.int r1)]) (st1' := [.int (-1 : Int32)]) (w1 := (wv x I2 J2)) hC123 1 rfl ?_
    exact we_i rfl rfl k
  · have k := k.2 h
    refine wp_seg (C := gC123) (pc1 := 24) (Lo1 := [some (.ref 0), some (.int r1)]) (st1' := [.int r1, .ref 37]) (w1 := (wv x I2 J2)) hC123 3 rfl ?_
    refine cv_I (mj := 88) (a := 37) (as := [.int r1]) (r := []) rfl rfl rfl ⟨rfl, by decide, Nat.le_of_ble_eq_true rfl, Nat.le_of_ble_eq_true rfl⟩ rfl (wcI_mono k (fun r3 I3 J3 k => ?_))
    refine wp_seg (C := gC123) (pc1 := 31) (Lo1 := [some (.ref 0), some (.int r1)]) (st1' := [.int r3]) (w1 := (wv x I3 J3)) hC123 1 rfl ?_
    exact we_i rfl rfl k
set_option maxRecDepth 20000 in
theorem v125_0_0 {S : Nat × (Nat → Int32)} {d : Nat} {x : mX} {I : rI0} {J : rJ0} {Q : Int32 → rI0 → rJ0 → Prop} (k : (wcI S d 67 [.ref 1] x I J (fun r1 I1 J1 => (((0 : Int32) < r1 → (¬ mOut (0 : Int32) 940 ∧ wp S (d + 1) 125 25 [some (.ref 0), some (.int r1), none, none] [.int (I1 2 ((0 : Int32).toNatClampNeg))] (wv x I1 J1) (rI x Q))) ∧ (¬ (0 : Int32) < r1 → wp S (d + 1) 125 25 [some (.ref 0), some (.int r1), none, none] [.int (0 : Int32)] (wv x I1 J1) (rI x Q)))))) : wp S (d + 1) 125 0 [some (.ref 0), none, none, none] [] (wv x I J) (rI x Q) := by
  refine wp_seg (C := gC125) (pc1 := 4) (Lo1 := [some (.ref 0), none, none, none]) (st1' := [.ref 1]) (w1 := (wv x I J)) hC125 2 rfl ?_
  refine cv_I (mj := 67) (a := 1) (as := []) (r := []) rfl rfl rfl ⟨rfl, by decide, Nat.le_of_ble_eq_true rfl, Nat.le_of_ble_eq_true rfl⟩ rfl (wcI_mono k (fun r1 I1 J1 k => ?_))
  refine wp_seg (C := gC125) (pc1 := 9) (Lo1 := [some (.ref 0), some (.int r1), none, none]) (st1' := [.int r1]) (w1 := (wv x I1 J1)) hC125 2 rfl ?_
  refine wi_le (tgt := 24) rfl rfl (fun h => ?_) (fun h => ?_)
  · have k := k.1 h
    refine wp_seg (C := gC125) (pc1 := 20) (Lo1 := [some (.ref 0), some (.int r1), none, none]) (st1' := [.int (0 : Int32), .ref 2]) (w1 := (wv x I1 J1)) hC125 4 rfl ?_
    refine wa_i (n := 940) rfl (by decide) rfl k.1 ?_
    have k := k.2
    refine wp_seg (C := gC125) (pc1 := 25) (Lo1 := [some (.ref 0), some (.int r1), none, none]) (st1' := [.int (I1 2 ((0 : Int32).toNatClampNeg))]) (w1 := (wv x I1 J1)) hC125 1 rfl ?_
    exact k
  · have k := k.2 h
    refine wp_seg (C := gC125) (pc1 := 25) (Lo1 := [some (.ref 0), some (.int r1), none, none]) (st1' := [.int (0 : Int32)]) (w1 := (wv x I1 J1)) hC125 1 rfl ?_
    exact k
set_option maxRecDepth 20000 in
theorem v125_0_25 {S : Nat × (Nat → Int32)} {d : Nat} {x : mX} {I : rI0} {J : rJ0} {l1 : Int32} {s0 : Int32} {Q : Int32 → rI0 → rJ0 → Prop} (k : ((s0 < (1 : Int32) → Q (-1 : Int32) I J) ∧ (¬ s0 < (1 : Int32) → (((6 : Int32) < s0 → Q (-1 : Int32) I J) ∧ (¬ (6 : Int32) < s0 → ((((l1 - (1 : Int32)) - s0) < (1 : Int32) → Q (-1 : Int32) I J) ∧ (¬ ((l1 - (1 : Int32)) - s0) < (1 : Int32) → (((6 : Int32) < ((l1 - (1 : Int32)) - s0) → Q (-1 : Int32) I J) ∧ (¬ (6 : Int32) < ((l1 - (1 : Int32)) - s0) → (wcI S d 81 [.ref 37, .int (1 : Int32), .int l1] x I J (fun r1 I1 J1 => ((r1 = (0 : Int32) → Q (-1 : Int32) I1 J1) ∧ (¬ r1 = (0 : Int32) → (wcI S d 92 [.ref 37, .int s0, .int l1] x I1 J1 (fun r2 I2 J2 => Q r2 I2 J2))))))))))))))) : wp S (d + 1) 125 25 [some (.ref 0), some (.int l1), none, none] [.int s0] (wv x I J) (rI x Q) := by
  refine wp_seg (C := gC125) (pc1 := 32) (Lo1 := [some (.ref 0), some (.int l1), some (.int s0), some (.int ((l1 - (1 : Int32)) - s0))]) (st1' := []) (w1 := (wv x I J)) hC125 7 rfl ?_
  refine wp_seg (C := gC125) (pc1 := 34) (Lo1 := [some (.ref 0), some (.int l1), some (.int s0), some (.int ((l1 - (1 : Int32)) - s0))]) (st1' := [.int (1 : Int32), .int s0]) (w1 := (wv x I J)) hC125 2 rfl ?_
  refine wj_lt (tgt := 54) rfl rfl (fun h => ?_) (fun h => ?_)
  · have k := k.1 h
    refine wp_seg (C := gC125) (pc1 := 55) (Lo1 := [some (.ref 0), some (.int l1), some (.int s0), some (.int ((l1 - (1 : Int32)) - s0))]) (st1' := [.int (-1 : Int32)]) (w1 := (wv x I J)) hC125 1 rfl ?_
    exact we_i rfl rfl k
  · have k := k.2 h
    refine wp_seg (C := gC125) (pc1 := 40) (Lo1 := [some (.ref 0), some (.int l1), some (.int s0), some (.int ((l1 - (1 : Int32)) - s0))]) (st1' := [.int (6 : Int32), .int s0]) (w1 := (wv x I J)) hC125 2 rfl ?_
    refine wj_gt (tgt := 54) rfl rfl (fun h => ?_) (fun h => ?_)
    · have k := k.1 h
      refine wp_seg (C := gC125) (pc1 := 55) (Lo1 := [some (.ref 0), some (.int l1), some (.int s0), some (.int ((l1 - (1 : Int32)) - s0))]) (st1' := [.int (-1 : Int32)]) (w1 := (wv x I J)) hC125 1 rfl ?_
      exact we_i rfl rfl k
    · have k := k.2 h
      refine wp_seg (C := gC125) (pc1 := 45) (Lo1 := [some (.ref 0), some (.int l1), some (.int s0), some (.int ((l1 - (1 : Int32)) - s0))]) (st1' := [.int (1 : Int32), .int ((l1 - (1 : Int32)) - s0)]) (w1 := (wv x I J)) hC125 2 rfl ?_
      refine wj_lt (tgt := 54) rfl rfl (fun h => ?_) (fun h => ?_)
      · have k := k.1 h
        refine wp_seg (C := gC125) (pc1 := 55) (Lo1 := [some (.ref 0), some (.int l1), some (.int s0), some (.int ((l1 - (1 : Int32)) - s0))]) (st1' := [.int (-1 : Int32)]) (w1 := (wv x I J)) hC125 1 rfl ?_
        exact we_i rfl rfl k
      · have k := k.2 h
        refine wp_seg (C := gC125) (pc1 := 51) (Lo1 := [some (.ref 0), some (.int l1), some (.int s0), some (.int ((l1 - (1 : Int32)) - s0))]) (st1' := [.int (6 : Int32), .int ((l1 - (1 : Int32)) - s0)]) (w1 := (wv x I J)) hC125 2 rfl ?_
        refine wj_le (tgt := 56) rfl rfl (fun h => ?_) (fun h => ?_)
        · have k := k.1 h
          refine wp_seg (C := gC125) (pc1 := 55) (Lo1 := [some (.ref 0), some (.int l1), some (.int s0), some (.int ((l1 - (1 : Int32)) - s0))]) (st1' := [.int (-1 : Int32)]) (w1 := (wv x I J)) hC125 1 rfl ?_
          exact we_i rfl rfl k
        · have k := k.2 h
          refine wp_seg (C := gC125) (pc1 := 62) (Lo1 := [some (.ref 0), some (.int l1), some (.int s0), some (.int ((l1 - (1 : Int32)) - s0))]) (st1' := [.int l1, .int (1 : Int32), .ref 37]) (w1 := (wv x I J)) hC125 4 rfl ?_
          refine cv_I (mj := 81) (a := 37) (as := [.int (1 : Int32), .int l1]) (r := []) rfl rfl rfl ⟨rfl, by decide, Nat.le_of_ble_eq_true rfl, Nat.le_of_ble_eq_true rfl⟩ rfl (wcI_mono k (fun r1 I1 J1 k => ?_))
          refine wi_eq (tgt := 80) rfl rfl (fun h => ?_) (fun h => ?_)
          · have k := k.1 h
            refine wp_seg (C := gC125) (pc1 := 81) (Lo1 := [some (.ref 0), some (.int l1), some (.int s0), some (.int ((l1 - (1 : Int32)) - s0))]) (st1' := [.int (-1 : Int32)]) (w1 := (wv x I1 J1)) hC125 1 rfl ?_
            exact we_i rfl rfl k
          · have k := k.2 h
            refine wp_seg (C := gC125) (pc1 := 74) (Lo1 := [some (.ref 0), some (.int l1), some (.int s0), some (.int ((l1 - (1 : Int32)) - s0))]) (st1' := [.int l1, .int s0, .ref 37]) (w1 := (wv x I1 J1)) hC125 4 rfl ?_
            refine cv_I (mj := 92) (a := 37) (as := [.int s0, .int l1]) (r := []) rfl rfl rfl ⟨rfl, by decide, Nat.le_of_ble_eq_true rfl, Nat.le_of_ble_eq_true rfl⟩ rfl (wcI_mono k (fun r2 I2 J2 k => ?_))
            refine wp_seg (C := gC125) (pc1 := 81) (Lo1 := [some (.ref 0), some (.int l1), some (.int s0), some (.int ((l1 - (1 : Int32)) - s0))]) (st1' := [.int r2]) (w1 := (wv x I2 J2)) hC125 1 rfl ?_
            exact we_i rfl rfl k
set_option maxRecDepth 20000 in
theorem v126_0_0 {S : Nat × (Nat → Int32)} {d : Nat} {x : mX} {I : rI0} {J : rJ0} {p1 : Int32} {Q : Int32 → rI0 → rJ0 → Prop} (k : ((p1.toInt < 0 ∨ 2 < p1.toInt → Q (-1 : Int32) I J) ∧ (p1.toInt = 0 → Q (I 37 9) I J) ∧ (p1.toInt = 1 → Q (I 37 10) I J) ∧ (p1.toInt = 2 → Q (I 37 11) I J) ∧ True)) : wp S d 126 0 [some (.ref 0), some (.int p1)] [] (wv x I J) (rI x Q) := by
  refine wp_seg (C := gC126) (pc1 := 1) (Lo1 := [some (.ref 0), some (.int p1)]) (st1' := [.int p1]) (w1 := (wv x I J)) hC126 1 rfl ?_
  refine wt_tab (nn := 3) rfl ⟨rfl, rfl⟩ (fun h => ?_) (fun i hi hx => ?_)
  · have k := k.1 h
    show wp S d 126 52 [some (.ref 0), some (.int p1)] [] (wv x I J) (rI x Q)
    refine wp_seg (C := gC126) (pc1 := 53) (Lo1 := [some (.ref 0), some (.int p1)]) (st1' := [.int (-1 : Int32)]) (w1 := (wv x I J)) hC126 1 rfl ?_
    exact we_i rfl rfl k
  · have k := k.2
    rcases (by omega : i = 0 ∨ i = 1 ∨ i = 2) with rfl | rfl | rfl
    · have k := k.1 (by omega)
      show wp S d 126 28 [some (.ref 0), some (.int p1)] [] (wv x I J) (rI x Q)
      refine wp_seg (C := gC126) (pc1 := 35) (Lo1 := [some (.ref 0), some (.int p1)]) (st1' := [.int (I 37 9)]) (w1 := (wv x I J)) hC126 3 rfl ?_
      exact we_i rfl rfl k
    · have k := k.2.1 (by omega)
      show wp S d 126 36 [some (.ref 0), some (.int p1)] [] (wv x I J) (rI x Q)
      refine wp_seg (C := gC126) (pc1 := 43) (Lo1 := [some (.ref 0), some (.int p1)]) (st1' := [.int (I 37 10)]) (w1 := (wv x I J)) hC126 3 rfl ?_
      exact we_i rfl rfl k
    · have k := k.2.2.1 (by omega)
      show wp S d 126 44 [some (.ref 0), some (.int p1)] [] (wv x I J) (rI x Q)
      refine wp_seg (C := gC126) (pc1 := 51) (Lo1 := [some (.ref 0), some (.int p1)]) (st1' := [.int (I 37 11)]) (w1 := (wv x I J)) hC126 3 rfl ?_
      exact we_i rfl rfl k
set_option maxRecDepth 20000 in
theorem v127_0_0 {S : Nat × (Nat → Int32)} {d : Nat} {x : mX} {I : rI0} {J : rJ0} {p1 : Int32} {Q : Int32 → rI0 → rJ0 → Prop} (k : (wcI S d 67 [.ref 1] x I J (fun r1 I1 J1 => ((p1 < (0 : Int32) → Q (-1 : Int32) I1 J1) ∧ (¬ p1 < (0 : Int32) → (((60 : Int32) < p1 → Q (-1 : Int32) I1 J1) ∧ (¬ (60 : Int32) < p1 → (wcI S d 140 [.ref 0] x I1 J1 (fun r2 I2 J2 => ((r2 = (0 : Int32) → (wcI S d 23 [.ref 4] x I2 J2 (fun r3 I3 J3 => ((r1 = r3 → (wcI S d 93 [.ref 37, .int r1] x I3 J3 (fun r4 I4 J4 => ((r4 = (0 : Int32) → Q (-1 : Int32) I4 J4) ∧ (¬ r4 = (0 : Int32) → (wcI S d 94 [.ref 37, .int p1] x I4 J4 (fun r5 I5 J5 => Q r5 I5 J5))))))) ∧ (¬ r1 = r3 → Q (-1 : Int32) I3 J3))))) ∧ (¬ r2 = (0 : Int32) → Q (-1 : Int32) I2 J2))))))))))) : wp S (d + 1) 127 0 [some (.ref 0), some (.int p1), none] [] (wv x I J) (rI x Q) := by
  refine wp_seg (C := gC127) (pc1 := 4) (Lo1 := [some (.ref 0), some (.int p1), none]) (st1' := [.ref 1]) (w1 := (wv x I J)) hC127 2 rfl ?_
  refine cv_I (mj := 67) (a := 1) (as := []) (r := []) rfl rfl rfl ⟨rfl, by decide, Nat.le_of_ble_eq_true rfl, Nat.le_of_ble_eq_true rfl⟩ rfl (wcI_mono k (fun r1 I1 J1 k => ?_))
  refine wp_seg (C := gC127) (pc1 := 9) (Lo1 := [some (.ref 0), some (.int p1), some (.int r1)]) (st1' := [.int p1]) (w1 := (wv x I1 J1)) hC127 2 rfl ?_
  refine wi_lt (tgt := 39) rfl rfl (fun h => ?_) (fun h => ?_)
  · have k := k.1 h
    refine wp_seg (C := gC127) (pc1 := 40) (Lo1 := [some (.ref 0), some (.int p1), some (.int r1)]) (st1' := [.int (-1 : Int32)]) (w1 := (wv x I1 J1)) hC127 1 rfl ?_
    exact we_i rfl rfl k
  · have k := k.2 h
    refine wp_seg (C := gC127) (pc1 := 15) (Lo1 := [some (.ref 0), some (.int p1), some (.int r1)]) (st1' := [.int (60 : Int32), .int p1]) (w1 := (wv x I1 J1)) hC127 2 rfl ?_
    refine wj_gt (tgt := 39) rfl rfl (fun h => ?_) (fun h => ?_)
    · have k := k.1 h
      refine wp_seg (C := gC127) (pc1 := 40) (Lo1 := [some (.ref 0), some (.int p1), some (.int r1)]) (st1' := [.int (-1 : Int32)]) (w1 := (wv x I1 J1)) hC127 1 rfl ?_
      exact we_i rfl rfl k
    · have k := k.2 h
      refine wp_seg (C := gC127) (pc1 := 19) (Lo1 := [some (.ref 0), some (.int p1), some (.int r1)]) (st1' := [.ref 0]) (w1 := (wv x I1 J1)) hC127 1 rfl ?_
      refine cv_I (mj := 140) (a := 0) (as := []) (r := []) rfl rfl rfl ⟨rfl, by decide, Nat.le_of_ble_eq_true rfl, Nat.le_of_ble_eq_true rfl⟩ rfl (wcI_mono k (fun r2 I2 J2 k => ?_))
      refine wi_ne (tgt := 39) rfl rfl (fun h => ?_) (fun h => ?_)
      · have k := k.1 h
        refine wp_seg (C := gC127) (pc1 := 33) (Lo1 := [some (.ref 0), some (.int p1), some (.int r1)]) (st1' := [.ref 4, .int r1]) (w1 := (wv x I2 J2)) hC127 4 rfl ?_
        refine cv_I (mj := 23) (a := 4) (as := []) (r := [.int r1]) rfl rfl rfl ⟨rfl, by decide, Nat.le_of_ble_eq_true rfl, Nat.le_of_ble_eq_true rfl⟩ rfl (wcI_mono k (fun r3 I3 J3 k => ?_))
        refine wj_eq (tgt := 41) rfl rfl (fun h => ?_) (fun h => ?_)
        · have k := k.1 h
          refine wp_seg (C := gC127) (pc1 := 46) (Lo1 := [some (.ref 0), some (.int p1), some (.int r1)]) (st1' := [.int r1, .ref 37]) (w1 := (wv x I3 J3)) hC127 3 rfl ?_
          refine cv_I (mj := 93) (a := 37) (as := [.int r1]) (r := []) rfl rfl rfl ⟨rfl, by decide, Nat.le_of_ble_eq_true rfl, Nat.le_of_ble_eq_true rfl⟩ rfl (wcI_mono k (fun r4 I4 J4 k => ?_))
          refine wi_eq (tgt := 63) rfl rfl (fun h => ?_) (fun h => ?_)
          · have k := k.1 h
            refine wp_seg (C := gC127) (pc1 := 64) (Lo1 := [some (.ref 0), some (.int p1), some (.int r1)]) (st1' := [.int (-1 : Int32)]) (w1 := (wv x I4 J4)) hC127 1 rfl ?_
            exact we_i rfl rfl k
          · have k := k.2 h
            refine wp_seg (C := gC127) (pc1 := 57) (Lo1 := [some (.ref 0), some (.int p1), some (.int r1)]) (st1' := [.int p1, .ref 37]) (w1 := (wv x I4 J4)) hC127 3 rfl ?_
            refine cv_I (mj := 94) (a := 37) (as := [.int p1]) (r := []) rfl rfl rfl ⟨rfl, by decide, Nat.le_of_ble_eq_true rfl, Nat.le_of_ble_eq_true rfl⟩ rfl (wcI_mono k (fun r5 I5 J5 k => ?_))
            refine wp_seg (C := gC127) (pc1 := 64) (Lo1 := [some (.ref 0), some (.int p1), some (.int r1)]) (st1' := [.int r5]) (w1 := (wv x I5 J5)) hC127 1 rfl ?_
            exact we_i rfl rfl k
        · have k := k.2 h
          refine wp_seg (C := gC127) (pc1 := 40) (Lo1 := [some (.ref 0), some (.int p1), some (.int r1)]) (st1' := [.int (-1 : Int32)]) (w1 := (wv x I3 J3)) hC127 1 rfl ?_
          exact we_i rfl rfl k
      · have k := k.2 h
        refine wp_seg (C := gC127) (pc1 := 40) (Lo1 := [some (.ref 0), some (.int p1), some (.int r1)]) (st1' := [.int (-1 : Int32)]) (w1 := (wv x I2 J2)) hC127 1 rfl ?_
        exact we_i rfl rfl k
set_option maxRecDepth 20000 in
theorem v128_0_0 {S : Nat × (Nat → Int32)} {d : Nat} {x : mX} {I : rI0} {J : rJ0} {p1 : Int32} {Q : Int32 → rI0 → rJ0 → Prop} (k : ((p1 = (0 : Int32) → Q (I 37 12) I J) ∧ (¬ p1 = (0 : Int32) → ((p1 = (1 : Int32) → Q (I 37 13) I J) ∧ (¬ p1 = (1 : Int32) → Q (-1 : Int32) I J))))) : wp S d 128 0 [some (.ref 0), some (.int p1)] [] (wv x I J) (rI x Q) := by
  refine wp_seg (C := gC128) (pc1 := 1) (Lo1 := [some (.ref 0), some (.int p1)]) (st1' := [.int p1]) (w1 := (wv x I J)) hC128 1 rfl ?_
  refine wi_ne (tgt := 12) rfl rfl (fun h => ?_) (fun h => ?_)
  · have k := k.1 h
    refine wp_seg (C := gC128) (pc1 := 11) (Lo1 := [some (.ref 0), some (.int p1)]) (st1' := [.int (I 37 12)]) (w1 := (wv x I J)) hC128 3 rfl ?_
    exact we_i rfl rfl k
  · have k := k.2 h
    refine wp_seg (C := gC128) (pc1 := 14) (Lo1 := [some (.ref 0), some (.int p1)]) (st1' := [.int (1 : Int32), .int p1]) (w1 := (wv x I J)) hC128 2 rfl ?_
    refine wj_ne (tgt := 27) rfl rfl (fun h => ?_) (fun h => ?_)
    · have k := k.1 h
      refine wp_seg (C := gC128) (pc1 := 28) (Lo1 := [some (.ref 0), some (.int p1)]) (st1' := [.int (I 37 13)]) (w1 := (wv x I J)) hC128 4 rfl ?_
      exact we_i rfl rfl k
    · have k := k.2 h
      refine wp_seg (C := gC128) (pc1 := 28) (Lo1 := [some (.ref 0), some (.int p1)]) (st1' := [.int (-1 : Int32)]) (w1 := (wv x I J)) hC128 1 rfl ?_
      exact we_i rfl rfl k
set_option maxRecDepth 20000 in
theorem v129_0_0 {S : Nat × (Nat → Int32)} {d : Nat} {x : mX} {I : rI0} {J : rJ0} {p1 : Int32} {p2 : Int32} {Q : Int32 → rI0 → rJ0 → Prop} (k : (wcI S d 24 [.ref 4, .int p1] x I J (fun r1 I1 J1 => ((r1 = (0 : Int32) → Q (-1 : Int32) I1 J1) ∧ (¬ r1 = (0 : Int32) → (wcI S d 24 [.ref 4, .int p2] x I1 J1 (fun r2 I2 J2 => ((r2 = (0 : Int32) → Q (-1 : Int32) I2 J2) ∧ (¬ r2 = (0 : Int32) → (wcI S d 96 [.ref 37, .long ((1 : Int64) <<< (p1.toInt64 &&& 63)), .long ((1 : Int64) <<< (p2.toInt64 &&& 63))] x I2 J2 (fun r3 I3 J3 => Q r3 I3 J3))))))))))) : wp S (d + 1) 129 0 [some (.ref 0), some (.int p1), some (.int p2)] [] (wv x I J) (rI x Q) := by
  refine wp_seg (C := gC129) (pc1 := 8) (Lo1 := [some (.ref 0), some (.int p1), some (.int p2)]) (st1' := [.int p1, .ref 4]) (w1 := (wv x I J)) hC129 4 rfl ?_
  refine cv_I (mj := 24) (a := 4) (as := [.int p1]) (r := []) rfl rfl rfl ⟨rfl, by decide, Nat.le_of_ble_eq_true rfl, Nat.le_of_ble_eq_true rfl⟩ rfl (wcI_mono k (fun r1 I1 J1 k => ?_))
  refine wi_eq (tgt := 28) rfl rfl (fun h => ?_) (fun h => ?_)
  · have k := k.1 h
    refine wp_seg (C := gC129) (pc1 := 29) (Lo1 := [some (.ref 0), some (.int p1), some (.int p2)]) (st1' := [.int (-1 : Int32)]) (w1 := (wv x I1 J1)) hC129 1 rfl ?_
    exact we_i rfl rfl k
  · have k := k.2 h
    refine wp_seg (C := gC129) (pc1 := 22) (Lo1 := [some (.ref 0), some (.int p1), some (.int p2)]) (st1' := [.int p2, .ref 4]) (w1 := (wv x I1 J1)) hC129 4 rfl ?_
    refine cv_I (mj := 24) (a := 4) (as := [.int p2]) (r := []) rfl rfl rfl ⟨rfl, by decide, Nat.le_of_ble_eq_true rfl, Nat.le_of_ble_eq_true rfl⟩ rfl (wcI_mono k (fun r2 I2 J2 k => ?_))
    refine wi_ne (tgt := 30) rfl rfl (fun h => ?_) (fun h => ?_)
    · have k := k.1 h
      refine wp_seg (C := gC129) (pc1 := 29) (Lo1 := [some (.ref 0), some (.int p1), some (.int p2)]) (st1' := [.int (-1 : Int32)]) (w1 := (wv x I2 J2)) hC129 1 rfl ?_
      exact we_i rfl rfl k
    · have k := k.2 h
      refine wp_seg (C := gC129) (pc1 := 40) (Lo1 := [some (.ref 0), some (.int p1), some (.int p2)]) (st1' := [.long ((1 : Int64) <<< (p2.toInt64 &&& 63)), .long ((1 : Int64) <<< (p1.toInt64 &&& 63)), .ref 37]) (w1 := (wv x I2 J2)) hC129 8 rfl ?_
      refine cv_I (mj := 96) (a := 37) (as := [.long ((1 : Int64) <<< (p1.toInt64 &&& 63)), .long ((1 : Int64) <<< (p2.toInt64 &&& 63))]) (r := []) rfl rfl rfl ⟨rfl, by decide, Nat.le_of_ble_eq_true rfl, Nat.le_of_ble_eq_true rfl⟩ rfl (wcI_mono k (fun r3 I3 J3 k => ?_))
      exact we_i rfl rfl k
set_option maxRecDepth 20000 in
theorem v130_0_0 {S : Nat × (Nat → Int32)} {d : Nat} {x : mX} {I : rI0} {J : rJ0} {Q : Int32 → rI0 → rJ0 → Prop} (k : (wcI S d 140 [.ref 0] x I J (fun r1 I1 J1 => ((r1 = (0 : Int32) → (wcI S d 10 [.ref 31] x I1 J1 (fun r2 I2 J2 => ((r2 < (I2 4 2) → (wcI S d 97 [.ref 37, .int ((I2 4 2) - (1 : Int32))] x I2 J2 (fun r3 I3 J3 => ((r3 = (-1 : Int32) → Q (-1 : Int32) I3 J3) ∧ (¬ r3 = (-1 : Int32) → (¬ (64 : Int32) = 0 ∧ (¬ (64 : Int32) = 0 ∧ Q (((r3 / (64 : Int32)) * (100 : Int32)) + (r3 - r3 / (64 : Int32) * (64 : Int32))) I3 J3))))))) ∧ (¬ r2 < (I2 4 2) → Q (-1 : Int32) I2 J2))))) ∧ (¬ r1 = (0 : Int32) → Q (-1 : Int32) I1 J1))))) : wp S (d + 1) 130 0 [some (.ref 0), none] [] (wv x I J) (rI x Q) := by
  refine wp_seg (C := gC130) (pc1 := 1) (Lo1 := [some (.ref 0), none]) (st1' := [.ref 0]) (w1 := (wv x I J)) hC130 1 rfl ?_
  refine cv_I (mj := 140) (a := 0) (as := []) (r := []) rfl rfl rfl ⟨rfl, by decide, Nat.le_of_ble_eq_true rfl, Nat.le_of_ble_eq_true rfl⟩ rfl (wcI_mono k (fun r1 I1 J1 k => ?_))
  refine wi_ne (tgt := 27) rfl rfl (fun h => ?_) (fun h => ?_)
  · have k := k.1 h
    refine wp_seg (C := gC130) (pc1 := 11) (Lo1 := [some (.ref 0), none]) (st1' := [.ref 31]) (w1 := (wv x I1 J1)) hC130 2 rfl ?_
    refine cv_I (mj := 10) (a := 31) (as := []) (r := []) rfl rfl rfl ⟨rfl, by decide, Nat.le_of_ble_eq_true rfl, Nat.le_of_ble_eq_true rfl⟩ rfl (wcI_mono k (fun r2 I2 J2 k => ?_))
    refine wp_seg (C := gC130) (pc1 := 24) (Lo1 := [some (.ref 0), none]) (st1' := [.int (I2 4 2), .int r2]) (w1 := (wv x I2 J2)) hC130 4 rfl ?_
    refine wj_lt (tgt := 29) rfl rfl (fun h => ?_) (fun h => ?_)
    · have k := k.1 h
      refine wp_seg (C := gC130) (pc1 := 45) (Lo1 := [some (.ref 0), none]) (st1' := [.int ((I2 4 2) - (1 : Int32)), .ref 37]) (w1 := (wv x I2 J2)) hC130 8 rfl ?_
      refine cv_I (mj := 97) (a := 37) (as := [.int ((I2 4 2) - (1 : Int32))]) (r := []) rfl rfl rfl ⟨rfl, by decide, Nat.le_of_ble_eq_true rfl, Nat.le_of_ble_eq_true rfl⟩ rfl (wcI_mono k (fun r3 I3 J3 k => ?_))
      refine wp_seg (C := gC130) (pc1 := 51) (Lo1 := [some (.ref 0), some (.int r3)]) (st1' := [.int (-1 : Int32), .int r3]) (w1 := (wv x I3 J3)) hC130 3 rfl ?_
      refine wj_ne (tgt := 58) rfl rfl (fun h => ?_) (fun h => ?_)
      · have k := k.1 h
        refine wp_seg (C := gC130) (pc1 := 70) (Lo1 := [some (.ref 0), some (.int r3)]) (st1' := [.int (-1 : Int32)]) (w1 := (wv x I3 J3)) hC130 2 rfl ?_
        exact we_i rfl rfl k
      · have k := k.2 h
        refine wp_seg (C := gC130) (pc1 := 61) (Lo1 := [some (.ref 0), some (.int r3)]) (st1' := [.int (64 : Int32), .int r3]) (w1 := (wv x I3 J3)) hC130 2 rfl ?_
        refine wd_i rfl k.1 ?_
        have k := k.2
        refine wp_seg (C := gC130) (pc1 := 68) (Lo1 := [some (.ref 0), some (.int r3)]) (st1' := [.int (64 : Int32), .int r3, .int ((r3 / (64 : Int32)) * (100 : Int32))]) (w1 := (wv x I3 J3)) hC130 4 rfl ?_
        refine wd_r rfl k.1 ?_
        have k := k.2
        refine wp_seg (C := gC130) (pc1 := 70) (Lo1 := [some (.ref 0), some (.int r3)]) (st1' := [.int (((r3 / (64 : Int32)) * (100 : Int32)) + (r3 - r3 / (64 : Int32) * (64 : Int32)))]) (w1 := (wv x I3 J3)) hC130 1 rfl ?_
        exact we_i rfl rfl k
    · have k := k.2 h
      refine wp_seg (C := gC130) (pc1 := 28) (Lo1 := [some (.ref 0), none]) (st1' := [.int (-1 : Int32)]) (w1 := (wv x I2 J2)) hC130 1 rfl ?_
      exact we_i rfl rfl k
  · have k := k.2 h
    refine wp_seg (C := gC130) (pc1 := 28) (Lo1 := [some (.ref 0), none]) (st1' := [.int (-1 : Int32)]) (w1 := (wv x I1 J1)) hC130 1 rfl ?_
    exact we_i rfl rfl k
set_option maxRecDepth 20000 in
theorem v131_0_0 {S : Nat × (Nat → Int32)} {d : Nat} {x : mX} {I : rI0} {J : rJ0} {p1 : Int32} {p2 : Int32} {Q : Int32 → rI0 → rJ0 → Prop} (k : (wcI S d 24 [.ref 4, .int p1] x I J (fun r1 I1 J1 => ((r1 = (0 : Int32) → Q (0 : Int32) I1 J1) ∧ (¬ r1 = (0 : Int32) → (wcI S d 24 [.ref 4, .int p2] x I1 J1 (fun r2 I2 J2 => ((r2 = (0 : Int32) → Q (0 : Int32) I2 J2) ∧ (¬ r2 = (0 : Int32) → ((p1 = p2 → Q (0 : Int32) I2 J2) ∧ (¬ p1 = p2 → (wcV S d 30 [.ref 4, .int p1, .int p2] x I2 J2 (fun I3 J3 => (wcV S d 6 [.ref 31] x I3 J3 (fun I4 J4 => Q (1 : Int32) I4 J4))))))))))))))) : wp S (d + 1) 131 0 [some (.ref 0), some (.int p1), some (.int p2)] [] (wv x I J) (rI x Q) := by
  refine wp_seg (C := gC131) (pc1 := 8) (Lo1 := [some (.ref 0), some (.int p1), some (.int p2)]) (st1' := [.int p1, .ref 4]) (w1 := (wv x I J)) hC131 4 rfl ?_
  refine cv_I (mj := 24) (a := 4) (as := [.int p1]) (r := []) rfl rfl rfl ⟨rfl, by decide, Nat.le_of_ble_eq_true rfl, Nat.le_of_ble_eq_true rfl⟩ rfl (wcI_mono k (fun r1 I1 J1 k => ?_))
  refine wi_eq (tgt := 33) rfl rfl (fun h => ?_) (fun h => ?_)
  · have k := k.1 h
    refine wp_seg (C := gC131) (pc1 := 34) (Lo1 := [some (.ref 0), some (.int p1), some (.int p2)]) (st1' := [.int (0 : Int32)]) (w1 := (wv x I1 J1)) hC131 1 rfl ?_
    exact we_z rfl rfl (Or.inl rfl) k
  · have k := k.2 h
    refine wp_seg (C := gC131) (pc1 := 22) (Lo1 := [some (.ref 0), some (.int p1), some (.int p2)]) (st1' := [.int p2, .ref 4]) (w1 := (wv x I1 J1)) hC131 4 rfl ?_
    refine cv_I (mj := 24) (a := 4) (as := [.int p2]) (r := []) rfl rfl rfl ⟨rfl, by decide, Nat.le_of_ble_eq_true rfl, Nat.le_of_ble_eq_true rfl⟩ rfl (wcI_mono k (fun r2 I2 J2 k => ?_))
    refine wi_eq (tgt := 33) rfl rfl (fun h => ?_) (fun h => ?_)
    · have k := k.1 h
      refine wp_seg (C := gC131) (pc1 := 34) (Lo1 := [some (.ref 0), some (.int p1), some (.int p2)]) (st1' := [.int (0 : Int32)]) (w1 := (wv x I2 J2)) hC131 1 rfl ?_
      exact we_z rfl rfl (Or.inl rfl) k
    · have k := k.2 h
      refine wp_seg (C := gC131) (pc1 := 30) (Lo1 := [some (.ref 0), some (.int p1), some (.int p2)]) (st1' := [.int p2, .int p1]) (w1 := (wv x I2 J2)) hC131 2 rfl ?_
      refine wj_ne (tgt := 35) rfl rfl (fun h => ?_) (fun h => ?_)
      · have k := k.1 h
        refine wp_seg (C := gC131) (pc1 := 34) (Lo1 := [some (.ref 0), some (.int p1), some (.int p2)]) (st1' := [.int (0 : Int32)]) (w1 := (wv x I2 J2)) hC131 1 rfl ?_
        exact we_z rfl rfl (Or.inl rfl) k
      · have k := k.2 h
        refine wp_seg (C := gC131) (pc1 := 44) (Lo1 := [some (.ref 0), some (.int p1), some (.int p2)]) (st1' := [.int p2, .int p1, .ref 4]) (w1 := (wv x I2 J2)) hC131 5 rfl ?_
        refine cv_V (mj := 30) (a := 4) (as := [.int p1, .int p2]) (r := []) rfl rfl rfl ⟨rfl, by decide, Nat.le_of_ble_eq_true rfl, Nat.le_of_ble_eq_true rfl⟩ rfl (wcV_mono k (fun I3 J3 k => ?_))
        refine wp_seg (C := gC131) (pc1 := 51) (Lo1 := [some (.ref 0), some (.int p1), some (.int p2)]) (st1' := [.ref 31]) (w1 := (wv x I3 J3)) hC131 2 rfl ?_
        refine cv_V (mj := 6) (a := 31) (as := []) (r := []) rfl rfl rfl ⟨rfl, by decide, Nat.le_of_ble_eq_true rfl, Nat.le_of_ble_eq_true rfl⟩ rfl (wcV_mono k (fun I4 J4 k => ?_))
        refine wp_seg (C := gC131) (pc1 := 55) (Lo1 := [some (.ref 0), some (.int p1), some (.int p2)]) (st1' := [.int (1 : Int32)]) (w1 := (wv x I4 J4)) hC131 1 rfl ?_
        exact we_z rfl rfl (Or.inr rfl) k
