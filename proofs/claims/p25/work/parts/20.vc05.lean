set_option maxRecDepth 20000 in
theorem v206_43_0 {S : Nat × (Nat → Int32)} {d : Nat} {x : mX} {I : rI0} {J : rJ0} {p1 : Int32} {p2 : Int32} {Q : Int32 → rI0 → rJ0 → Prop} (k : (wcI S d 203 [.int p1] x (mSet I 43 0 (0 : Int32)) J (fun r1 I1 J1 => ((r1 = (0 : Int32) → Q (-1 : Int32) I1 J1) ∧ (¬ r1 = (0 : Int32) → (wcI S d 151 [.int p2, .int (0 : Int32), .int (2 : Int32)] x I1 J1 (fun r2 I2 J2 => ((r2 = (0 : Int32) → Q (-1 : Int32) I2 J2) ∧ (¬ r2 = (0 : Int32) → (wcV S d 201 [.ref 43, .int p1] x I2 J2 (fun I3 J3 => ((p2 = (0 : Int32) → (¬ mOut (2 : Int32) 681 ∧ Q (I3 45 ((2 : Int32).toNatClampNeg)) I3 J3)) ∧ (¬ p2 = (0 : Int32) → ((p2 = (1 : Int32) → (wcI S d 154 [.long (J3 43 38)] x I3 J3 (fun r4 I4 J4 => Q r4 I4 J4))) ∧ (¬ p2 = (1 : Int32) → (wcI S d 154 [.long (J3 43 39)] x I3 J3 (fun r5 I5 J5 => Q r5 I5 J5))))))))))))))))) : wp S (d + 1) 206 0 [some (.ref 43), some (.int p1), some (.int p2)] [] (wv x I J) (rI x Q) := by
  refine wp_seg (C := gC206) (pc1 := 6) (Lo1 := [some (.ref 43), some (.int p1), some (.int p2)]) (st1' := [.int p1]) (w1 := (wv x (mSet I 43 0 (0 : Int32)) J)) hC206 4 rfl ?_
  refine cs_I (mj := 203) (nn := 0) (as := [.int p1]) (r := []) rfl rfl rfl ⟨rfl, by decide, Nat.le_of_ble_eq_true rfl, Nat.le_of_ble_eq_true rfl⟩ (by decide) (wcI_mono k (fun r1 I1 J1 k => ?_))
  refine wi_eq (tgt := 21) rfl rfl (fun h => ?_) (fun h => ?_)
  · have k := k.1 h
    refine wp_seg (C := gC206) (pc1 := 22) (Lo1 := [some (.ref 43), some (.int p1), some (.int p2)]) (st1' := [.int (-1 : Int32)]) (w1 := (wv x I1 J1)) hC206 1 rfl ?_
    exact we_i rfl rfl k
  · have k := k.2 h
    refine wp_seg (C := gC206) (pc1 := 15) (Lo1 := [some (.ref 43), some (.int p1), some (.int p2)]) (st1' := [.int (2 : Int32), .int (0 : Int32), .int p2]) (w1 := (wv x I1 J1)) hC206 3 rfl ?_
    refine cs_I (mj := 151) (nn := 0) (as := [.int p2, .int (0 : Int32), .int (2 : Int32)]) (r := []) rfl rfl rfl ⟨rfl, by decide, Nat.le_of_ble_eq_true rfl, Nat.le_of_ble_eq_true rfl⟩ (by decide) (wcI_mono k (fun r2 I2 J2 k => ?_))
    refine wi_ne (tgt := 23) rfl rfl (fun h => ?_) (fun h => ?_)
    · have k := k.1 h
      refine wp_seg (C := gC206) (pc1 := 22) (Lo1 := [some (.ref 43), some (.int p1), some (.int p2)]) (st1' := [.int (-1 : Int32)]) (w1 := (wv x I2 J2)) hC206 1 rfl ?_
      exact we_i rfl rfl k
    · have k := k.2 h
      refine wp_seg (C := gC206) (pc1 := 25) (Lo1 := [some (.ref 43), some (.int p1), some (.int p2)]) (st1' := [.int p1, .ref 43]) (w1 := (wv x I2 J2)) hC206 2 rfl ?_
      refine cv_V (mj := 201) (a := 43) (as := [.int p1]) (r := []) rfl rfl rfl ⟨rfl, by decide, Nat.le_of_ble_eq_true rfl, Nat.le_of_ble_eq_true rfl⟩ rfl (wcV_mono k (fun I3 J3 k => ?_))
      refine wp_seg (C := gC206) (pc1 := 29) (Lo1 := [some (.ref 43), some (.int p1), some (.int p2)]) (st1' := [.int p2]) (w1 := (wv x I3 J3)) hC206 1 rfl ?_
      refine wi_ne (tgt := 41) rfl rfl (fun h => ?_) (fun h => ?_)
      · have k := k.1 h
        refine wp_seg (C := gC206) (pc1 := 37) (Lo1 := [some (.ref 43), some (.int p1), some (.int p2)]) (st1' := [.int (2 : Int32), .ref 45]) (w1 := (wv x I3 J3)) hC206 3 rfl ?_
        refine wa_i (n := 681) rfl (by decide) rfl k.1 ?_
        have k := k.2
        refine wp_seg (C := gC206) (pc1 := 60) (Lo1 := [some (.ref 43), some (.int p1), some (.int p2)]) (st1' := [.int (I3 45 ((2 : Int32).toNatClampNeg))]) (w1 := (wv x I3 J3)) hC206 1 rfl ?_
        exact we_i rfl rfl k
      · have k := k.2 h
        refine wp_seg (C := gC206) (pc1 := 43) (Lo1 := [some (.ref 43), some (.int p1), some (.int p2)]) (st1' := [.int (1 : Int32), .int p2]) (w1 := (wv x I3 J3)) hC206 2 rfl ?_
        refine wj_ne (tgt := 53) rfl rfl (fun h => ?_) (fun h => ?_)
        · have k := k.1 h
          refine wp_seg (C := gC206) (pc1 := 57) (Lo1 := [some (.ref 43), some (.int p1), some (.int p2)]) (st1' := [.long (J3 43 38)]) (w1 := (wv x I3 J3)) hC206 3 rfl ?_
          refine cs_I (mj := 154) (nn := 0) (as := [.long (J3 43 38)]) (r := []) rfl rfl rfl ⟨rfl, by decide, Nat.le_of_ble_eq_true rfl, Nat.le_of_ble_eq_true rfl⟩ (by decide) (wcI_mono k (fun r4 I4 J4 k => ?_))
          exact we_i rfl rfl k
        · have k := k.2 h
          refine wp_seg (C := gC206) (pc1 := 57) (Lo1 := [some (.ref 43), some (.int p1), some (.int p2)]) (st1' := [.long (J3 43 39)]) (w1 := (wv x I3 J3)) hC206 2 rfl ?_
          refine cs_I (mj := 154) (nn := 0) (as := [.long (J3 43 39)]) (r := []) rfl rfl rfl ⟨rfl, by decide, Nat.le_of_ble_eq_true rfl, Nat.le_of_ble_eq_true rfl⟩ (by decide) (wcI_mono k (fun r5 I5 J5 k => ?_))
          exact we_i rfl rfl k
set_option maxRecDepth 20000 in
theorem v207_43_0 {S : Nat × (Nat → Int32)} {d : Nat} {x : mX} {I : rI0} {J : rJ0} {p1 : Int32} {p2 : Int32} {p3 : Int32} {Q : Int32 → rI0 → rJ0 → Prop} (k : (wcI S d 183 [.ref 43, .int p1] x (mSet I 43 0 (0 : Int32)) J (fun r1 I1 J1 => ((r1 = (0 : Int32) → Q (-1 : Int32) I1 J1) ∧ (¬ r1 = (0 : Int32) → (wcI S d 203 [.int p2] x I1 J1 (fun r2 I2 J2 => ((r2 = (0 : Int32) → Q (-1 : Int32) I2 J2) ∧ (¬ r2 = (0 : Int32) → (wcI S d 151 [.int p3, .int (0 : Int32), .int (1 : Int32)] x I2 J2 (fun r3 I3 J3 => ((r3 = (0 : Int32) → Q (-1 : Int32) I3 J3) ∧ (¬ r3 = (0 : Int32) → (¬ mOut ((6 : Int32) + p1) 681 ∧ (¬ mOut ((86 : Int32) + ((42 : Int32) * (((2 : Int32) * ((I3 45 (((6 : Int32) + p1).toNatClampNeg)) - (1 : Int32))) + p3))) 681 ∧ (((I3 45 (((86 : Int32) + ((42 : Int32) * (((2 : Int32) * ((I3 45 (((6 : Int32) + p1).toNatClampNeg)) - (1 : Int32))) + p3))).toNatClampNeg)) = (0 : Int32) → Q (-1 : Int32) I3 J3) ∧ (¬ (I3 45 (((86 : Int32) + ((42 : Int32) * (((2 : Int32) * ((I3 45 (((6 : Int32) + p1).toNatClampNeg)) - (1 : Int32))) + p3))).toNatClampNeg)) = (0 : Int32) → (wcV S d 201 [.ref 43, .int p2] x I3 J3 (fun I4 J4 => (wcI S d 196 [.ref 43, .int p1] x I4 J4 (fun r5 I5 J5 => (wcI S d 197 [.ref 43, .int p1] x I5 J5 (fun r6 I6 J6 => (wcI S d 195 [.ref 43, .int ((86 : Int32) + ((42 : Int32) * (((2 : Int32) * ((I3 45 (((6 : Int32) + p1).toNatClampNeg)) - (1 : Int32))) + p3))), .int p1, .long (J4 43 38), .long (J4 43 39), .int r5, .int r6] x I6 J6 (fun r7 I7 J7 => ((r7 = (0 : Int32) → Q (0 : Int32) I7 J7) ∧ (¬ r7 = (0 : Int32) → Q (1 : Int32) I7 J7))))))))))))))))))))))))))) : wp S (d + 1) 207 0 [some (.ref 43), some (.int p1), some (.int p2), some (.int p3), none] [] (wv x I J) (rI x Q) := by
  refine wp_seg (C := gC207) (pc1 := 7) (Lo1 := [some (.ref 43), some (.int p1), some (.int p2), some (.int p3), none]) (st1' := [.int p1, .ref 43]) (w1 := (wv x (mSet I 43 0 (0 : Int32)) J)) hC207 5 rfl ?_
  refine cv_I (mj := 183) (a := 43) (as := [.int p1]) (r := []) rfl rfl rfl ⟨rfl, by decide, Nat.le_of_ble_eq_true rfl, Nat.le_of_ble_eq_true rfl⟩ rfl (wcI_mono k (fun r1 I1 J1 k => ?_))
  refine wi_eq (tgt := 29) rfl rfl (fun h => ?_) (fun h => ?_)
  · have k := k.1 h
    refine wp_seg (C := gC207) (pc1 := 30) (Lo1 := [some (.ref 43), some (.int p1), some (.int p2), some (.int p3), none]) (st1' := [.int (-1 : Int32)]) (w1 := (wv x I1 J1)) hC207 1 rfl ?_
    exact we_i rfl rfl k
  · have k := k.2 h
    refine wp_seg (C := gC207) (pc1 := 14) (Lo1 := [some (.ref 43), some (.int p1), some (.int p2), some (.int p3), none]) (st1' := [.int p2]) (w1 := (wv x I1 J1)) hC207 1 rfl ?_
    refine cs_I (mj := 203) (nn := 0) (as := [.int p2]) (r := []) rfl rfl rfl ⟨rfl, by decide, Nat.le_of_ble_eq_true rfl, Nat.le_of_ble_eq_true rfl⟩ (by decide) (wcI_mono k (fun r2 I2 J2 k => ?_))
    refine wi_eq (tgt := 29) rfl rfl (fun h => ?_) (fun h => ?_)
    · have k := k.1 h
      refine wp_seg (C := gC207) (pc1 := 30) (Lo1 := [some (.ref 43), some (.int p1), some (.int p2), some (.int p3), none]) (st1' := [.int (-1 : Int32)]) (w1 := (wv x I2 J2)) hC207 1 rfl ?_
      exact we_i rfl rfl k
    · have k := k.2 h
      refine wp_seg (C := gC207) (pc1 := 23) (Lo1 := [some (.ref 43), some (.int p1), some (.int p2), some (.int p3), none]) (st1' := [.int (1 : Int32), .int (0 : Int32), .int p3]) (w1 := (wv x I2 J2)) hC207 3 rfl ?_
      refine cs_I (mj := 151) (nn := 0) (as := [.int p3, .int (0 : Int32), .int (1 : Int32)]) (r := []) rfl rfl rfl ⟨rfl, by decide, Nat.le_of_ble_eq_true rfl, Nat.le_of_ble_eq_true rfl⟩ (by decide) (wcI_mono k (fun r3 I3 J3 k => ?_))
      refine wi_ne (tgt := 31) rfl rfl (fun h => ?_) (fun h => ?_)
      · have k := k.1 h
        refine wp_seg (C := gC207) (pc1 := 30) (Lo1 := [some (.ref 43), some (.int p1), some (.int p2), some (.int p3), none]) (st1' := [.int (-1 : Int32)]) (w1 := (wv x I3 J3)) hC207 1 rfl ?_
        exact we_i rfl rfl k
      · have k := k.2 h
        refine wp_seg (C := gC207) (pc1 := 44) (Lo1 := [some (.ref 43), some (.int p1), some (.int p2), some (.int p3), none]) (st1' := [.int ((6 : Int32) + p1), .ref 45, .int (2 : Int32), .int (42 : Int32), .int (86 : Int32)]) (w1 := (wv x I3 J3)) hC207 8 rfl ?_
        refine wa_i (n := 681) rfl (by decide) rfl k.1 ?_
        have k := k.2
        refine wp_seg (C := gC207) (pc1 := 60) (Lo1 := [some (.ref 43), some (.int p1), some (.int p2), some (.int p3), some (.int ((86 : Int32) + ((42 : Int32) * (((2 : Int32) * ((I3 45 (((6 : Int32) + p1).toNatClampNeg)) - (1 : Int32))) + p3))))]) (st1' := [.int ((86 : Int32) + ((42 : Int32) * (((2 : Int32) * ((I3 45 (((6 : Int32) + p1).toNatClampNeg)) - (1 : Int32))) + p3))), .ref 45]) (w1 := (wv x I3 J3)) hC207 11 rfl ?_
        refine wa_i (n := 681) rfl (by decide) rfl k.1 ?_
        have k := k.2
        refine wi_ne (tgt := 66) rfl rfl (fun h => ?_) (fun h => ?_)
        · have k := k.1 h
          refine wp_seg (C := gC207) (pc1 := 65) (Lo1 := [some (.ref 43), some (.int p1), some (.int p2), some (.int p3), some (.int ((86 : Int32) + ((42 : Int32) * (((2 : Int32) * ((I3 45 (((6 : Int32) + p1).toNatClampNeg)) - (1 : Int32))) + p3))))]) (st1' := [.int (-1 : Int32)]) (w1 := (wv x I3 J3)) hC207 1 rfl ?_
          exact we_i rfl rfl k
        · have k := k.2 h
          refine wp_seg (C := gC207) (pc1 := 68) (Lo1 := [some (.ref 43), some (.int p1), some (.int p2), some (.int p3), some (.int ((86 : Int32) + ((42 : Int32) * (((2 : Int32) * ((I3 45 (((6 : Int32) + p1).toNatClampNeg)) - (1 : Int32))) + p3))))]) (st1' := [.int p2, .ref 43]) (w1 := (wv x I3 J3)) hC207 2 rfl ?_
          refine cv_V (mj := 201) (a := 43) (as := [.int p2]) (r := []) rfl rfl rfl ⟨rfl, by decide, Nat.le_of_ble_eq_true rfl, Nat.le_of_ble_eq_true rfl⟩ rfl (wcV_mono k (fun I4 J4 k => ?_))
          refine wp_seg (C := gC207) (pc1 := 85) (Lo1 := [some (.ref 43), some (.int p1), some (.int p2), some (.int p3), some (.int ((86 : Int32) + ((42 : Int32) * (((2 : Int32) * ((I3 45 (((6 : Int32) + p1).toNatClampNeg)) - (1 : Int32))) + p3))))]) (st1' := [.int p1, .ref 43, .long (J4 43 39), .long (J4 43 38), .int p1, .int ((86 : Int32) + ((42 : Int32) * (((2 : Int32) * ((I3 45 (((6 : Int32) + p1).toNatClampNeg)) - (1 : Int32))) + p3))), .ref 43]) (w1 := (wv x I4 J4)) hC207 9 rfl ?_
          refine cv_I (mj := 196) (a := 43) (as := [.int p1]) (r := [.long (J4 43 39), .long (J4 43 38), .int p1, .int ((86 : Int32) + ((42 : Int32) * (((2 : Int32) * ((I3 45 (((6 : Int32) + p1).toNatClampNeg)) - (1 : Int32))) + p3))), .ref 43]) rfl rfl rfl ⟨rfl, by decide, Nat.le_of_ble_eq_true rfl, Nat.le_of_ble_eq_true rfl⟩ rfl (wcI_mono k (fun r5 I5 J5 k => ?_))
          refine wp_seg (C := gC207) (pc1 := 90) (Lo1 := [some (.ref 43), some (.int p1), some (.int p2), some (.int p3), some (.int ((86 : Int32) + ((42 : Int32) * (((2 : Int32) * ((I3 45 (((6 : Int32) + p1).toNatClampNeg)) - (1 : Int32))) + p3))))]) (st1' := [.int p1, .ref 43, .int r5, .long (J4 43 39), .long (J4 43 38), .int p1, .int ((86 : Int32) + ((42 : Int32) * (((2 : Int32) * ((I3 45 (((6 : Int32) + p1).toNatClampNeg)) - (1 : Int32))) + p3))), .ref 43]) (w1 := (wv x I5 J5)) hC207 2 rfl ?_
          refine cv_I (mj := 197) (a := 43) (as := [.int p1]) (r := [.int r5, .long (J4 43 39), .long (J4 43 38), .int p1, .int ((86 : Int32) + ((42 : Int32) * (((2 : Int32) * ((I3 45 (((6 : Int32) + p1).toNatClampNeg)) - (1 : Int32))) + p3))), .ref 43]) rfl rfl rfl ⟨rfl, by decide, Nat.le_of_ble_eq_true rfl, Nat.le_of_ble_eq_true rfl⟩ rfl (wcI_mono k (fun r6 I6 J6 k => ?_))
          refine cv_I (mj := 195) (a := 43) (as := [.int ((86 : Int32) + ((42 : Int32) * (((2 : Int32) * ((I3 45 (((6 : Int32) + p1).toNatClampNeg)) - (1 : Int32))) + p3))), .int p1, .long (J4 43 38), .long (J4 43 39), .int r5, .int r6]) (r := []) rfl rfl rfl ⟨rfl, by decide, Nat.le_of_ble_eq_true rfl, Nat.le_of_ble_eq_true rfl⟩ rfl (wcI_mono k (fun r7 I7 J7 k => ?_))
          refine wi_eq (tgt := 103) rfl rfl (fun h => ?_) (fun h => ?_)
          · have k := k.1 h
            refine wp_seg (C := gC207) (pc1 := 104) (Lo1 := [some (.ref 43), some (.int p1), some (.int p2), some (.int p3), some (.int ((86 : Int32) + ((42 : Int32) * (((2 : Int32) * ((I3 45 (((6 : Int32) + p1).toNatClampNeg)) - (1 : Int32))) + p3))))]) (st1' := [.int (0 : Int32)]) (w1 := (wv x I7 J7)) hC207 1 rfl ?_
            exact we_i rfl rfl k
          · have k := k.2 h
            refine wp_seg (C := gC207) (pc1 := 104) (Lo1 := [some (.ref 43), some (.int p1), some (.int p2), some (.int p3), some (.int ((86 : Int32) + ((42 : Int32) * (((2 : Int32) * ((I3 45 (((6 : Int32) + p1).toNatClampNeg)) - (1 : Int32))) + p3))))]) (st1' := [.int (1 : Int32)]) (w1 := (wv x I7 J7)) hC207 2 rfl ?_
            exact we_i rfl rfl k
set_option maxRecDepth 20000 in
theorem v208_43_0 {S : Nat × (Nat → Int32)} {d : Nat} {x : mX} {I : rI0} {J : rJ0} {p1 : Int32} {Q : Int32 → rI0 → rJ0 → Prop} (k : (wcI S d 183 [.ref 43, .int p1] x (mSet I 43 0 (0 : Int32)) J (fun r1 I1 J1 => ((r1 = (0 : Int32) → Q (-1 : Int32) I1 J1) ∧ (¬ r1 = (0 : Int32) → (wcV S d 201 [.ref 43, .int (600 : Int32)] x I1 J1 (fun I2 J2 => wp S (d + 1) 208 24 [some (.ref 43), some (.int p1), some (.int (0 : Int32))] [] (wv x I2 J2) (rI x Q)))))))) : wp S (d + 1) 208 0 [some (.ref 43), some (.int p1), none] [] (wv x I J) (rI x Q) := by
  refine wp_seg (C := gC208) (pc1 := 7) (Lo1 := [some (.ref 43), some (.int p1), none]) (st1' := [.int p1, .ref 43]) (w1 := (wv x (mSet I 43 0 (0 : Int32)) J)) hC208 5 rfl ?_
  refine cv_I (mj := 183) (a := 43) (as := [.int p1]) (r := []) rfl rfl rfl ⟨rfl, by decide, Nat.le_of_ble_eq_true rfl, Nat.le_of_ble_eq_true rfl⟩ rfl (wcI_mono k (fun r1 I1 J1 k => ?_))
  refine wi_ne (tgt := 15) rfl rfl (fun h => ?_) (fun h => ?_)
  · have k := k.1 h
    refine wp_seg (C := gC208) (pc1 := 14) (Lo1 := [some (.ref 43), some (.int p1), none]) (st1' := [.int (-1 : Int32)]) (w1 := (wv x I1 J1)) hC208 1 rfl ?_
    exact we_i rfl rfl k
  · have k := k.2 h
    refine wp_seg (C := gC208) (pc1 := 19) (Lo1 := [some (.ref 43), some (.int p1), none]) (st1' := [.int (600 : Int32), .ref 43]) (w1 := (wv x I1 J1)) hC208 2 rfl ?_
    refine cv_V (mj := 201) (a := 43) (as := [.int (600 : Int32)]) (r := []) rfl rfl rfl ⟨rfl, by decide, Nat.le_of_ble_eq_true rfl, Nat.le_of_ble_eq_true rfl⟩ rfl (wcV_mono k (fun I2 J2 k => ?_))
    refine wp_seg (C := gC208) (pc1 := 24) (Lo1 := [some (.ref 43), some (.int p1), some (.int (0 : Int32))]) (st1' := []) (w1 := (wv x I2 J2)) hC208 2 rfl ?_
    exact k
set_option maxRecDepth 20000 in
theorem v208_43_24 {S : Nat × (Nat → Int32)} {d : Nat} {x : mX} {I : rI0} {J : rJ0} {l1 : Int32} {l2 : Int32} {Q : Int32 → rI0 → rJ0 → Prop} (k : (((600 : Int32) < l2 → Q (-1 : Int32) I J) ∧ (¬ (600 : Int32) < l2 → (¬ mOut l2 601 ∧ (wcI S d 153 [.long (J 53 l2.toNatClampNeg), .int l1] x I J (fun r1 I1 J1 => ((r1 = (0 : Int32) → wp S (d + 1) 208 24 [some (.ref 43), some (.int l1), some (.int (l2 + (1 : Int32)))] [] (wv x I1 J1) (rI x Q)) ∧ (¬ r1 = (0 : Int32) → Q l2 I1 J1)))))))) : wp S (d + 1) 208 24 [some (.ref 43), some (.int l1), some (.int l2)] [] (wv x I J) (rI x Q) := by
  refine wp_seg (C := gC208) (pc1 := 28) (Lo1 := [some (.ref 43), some (.int l1), some (.int l2)]) (st1' := [.int (600 : Int32), .int l2]) (w1 := (wv x I J)) hC208 2 rfl ?_
  refine wj_gt (tgt := 52) rfl rfl (fun h => ?_) (fun h => ?_)
  · have k := k.1 h
    refine wp_seg (C := gC208) (pc1 := 53) (Lo1 := [some (.ref 43), some (.int l1), some (.int l2)]) (st1' := [.int (-1 : Int32)]) (w1 := (wv x I J)) hC208 1 rfl ?_
    exact we_i rfl rfl k
  · have k := k.2 h
    refine wp_seg (C := gC208) (pc1 := 36) (Lo1 := [some (.ref 43), some (.int l1), some (.int l2)]) (st1' := [.int l2, .ref 53]) (w1 := (wv x I J)) hC208 3 rfl ?_
    refine wa_l (n := 601) rfl rfl k.1 ?_
    have k := k.2
    refine wp_seg (C := gC208) (pc1 := 38) (Lo1 := [some (.ref 43), some (.int l1), some (.int l2)]) (st1' := [.int l1, .long (J 53 l2.toNatClampNeg)]) (w1 := (wv x I J)) hC208 1 rfl ?_
    refine cs_I (mj := 153) (nn := 0) (as := [.long (J 53 l2.toNatClampNeg), .int l1]) (r := []) rfl rfl rfl ⟨rfl, by decide, Nat.le_of_ble_eq_true rfl, Nat.le_of_ble_eq_true rfl⟩ (by decide) (wcI_mono k (fun r1 I1 J1 k => ?_))
    refine wi_eq (tgt := 46) rfl rfl (fun h => ?_) (fun h => ?_)
    · have k := k.1 h
      refine wp_seg (C := gC208) (pc1 := 24) (Lo1 := [some (.ref 43), some (.int l1), some (.int (l2 + (1 : Int32)))]) (st1' := []) (w1 := (wv x I1 J1)) hC208 2 rfl ?_
      exact k
    · have k := k.2 h
      refine wp_seg (C := gC208) (pc1 := 45) (Lo1 := [some (.ref 43), some (.int l1), some (.int l2)]) (st1' := [.int l2]) (w1 := (wv x I1 J1)) hC208 1 rfl ?_
      exact we_i rfl rfl k
set_option maxRecDepth 20000 in
theorem v209_43_0 {S : Nat × (Nat → Int32)} {d : Nat} {x : mX} {I : rI0} {J : rJ0} {p1 : Int32} {Q : Int32 → rI0 → rJ0 → Prop} (k : (wcI S d 203 [.int p1] x (mSet I 43 0 (0 : Int32)) J (fun r1 I1 J1 => ((r1 = (0 : Int32) → Q (-1 : Int32) I1 J1) ∧ (¬ r1 = (0 : Int32) → (wcV S d 201 [.ref 43, .int p1] x I1 J1 (fun I2 J2 => (wcV S d 199 [.ref 43, .long (0 : Int64), .long (J2 43 17)] x I2 J2 (fun I3 J3 => wp S (d + 1) 209 33 [some (.ref 43), some (.int p1), some (.long (J2 43 39)), none] [] (wv x I3 J3) (rI x Q)))))))))) : wp S (d + 1) 209 0 [some (.ref 43), some (.int p1), none, none] [] (wv x I J) (rI x Q) := by
  refine wp_seg (C := gC209) (pc1 := 6) (Lo1 := [some (.ref 43), some (.int p1), none, none]) (st1' := [.int p1]) (w1 := (wv x (mSet I 43 0 (0 : Int32)) J)) hC209 4 rfl ?_
  refine cs_I (mj := 203) (nn := 0) (as := [.int p1]) (r := []) rfl rfl rfl ⟨rfl, by decide, Nat.le_of_ble_eq_true rfl, Nat.le_of_ble_eq_true rfl⟩ (by decide) (wcI_mono k (fun r1 I1 J1 k => ?_))
  refine wi_ne (tgt := 14) rfl rfl (fun h => ?_) (fun h => ?_)
  · have k := k.1 h
    refine wp_seg (C := gC209) (pc1 := 13) (Lo1 := [some (.ref 43), some (.int p1), none, none]) (st1' := [.int (-1 : Int32)]) (w1 := (wv x I1 J1)) hC209 1 rfl ?_
    exact we_i rfl rfl k
  · have k := k.2 h
    refine wp_seg (C := gC209) (pc1 := 16) (Lo1 := [some (.ref 43), some (.int p1), none, none]) (st1' := [.int p1, .ref 43]) (w1 := (wv x I1 J1)) hC209 2 rfl ?_
    refine cv_V (mj := 201) (a := 43) (as := [.int p1]) (r := []) rfl rfl rfl ⟨rfl, by decide, Nat.le_of_ble_eq_true rfl, Nat.le_of_ble_eq_true rfl⟩ rfl (wcV_mono k (fun I2 J2 k => ?_))
    refine wp_seg (C := gC209) (pc1 := 30) (Lo1 := [some (.ref 43), some (.int p1), some (.long (J2 43 39)), none]) (st1' := [.long (J2 43 17), .long (0 : Int64), .ref 43]) (w1 := (wv x I2 J2)) hC209 7 rfl ?_
    refine cv_V (mj := 199) (a := 43) (as := [.long (0 : Int64), .long (J2 43 17)]) (r := []) rfl rfl rfl ⟨rfl, by decide, Nat.le_of_ble_eq_true rfl, Nat.le_of_ble_eq_true rfl⟩ rfl (wcV_mono k (fun I3 J3 k => ?_))
    exact k
set_option maxRecDepth 20000 in
theorem v209_43_33 {S : Nat × (Nat → Int32)} {d : Nat} {x : mX} {I : rI0} {J : rJ0} {l1 : Int32} {l2 : Int64} {Q : Int32 → rI0 → rJ0 → Prop} (k : ((l1 < (I 43 42) → (wcI S d 154 [.long (l2 &&& (J 43 39))] x I J (fun r1 I1 J1 => Q r1 I1 J1))) ∧ (¬ l1 < (I 43 42) → (wcV S d 200 [.ref 43] x I J (fun I2 J2 => wp S (d + 1) 209 33 [some (.ref 43), some (.int l1), some (.long l2), none] [] (wv x I2 J2) (rI x Q)))))) : wp S (d + 1) 209 33 [some (.ref 43), some (.int l1), some (.long l2), none] [] (wv x I J) (rI x Q) := by
  refine wp_seg (C := gC209) (pc1 := 38) (Lo1 := [some (.ref 43), some (.int l1), some (.long l2), none]) (st1' := [.int l1, .int (I 43 42)]) (w1 := (wv x I J)) hC209 3 rfl ?_
  refine wj_gt (tgt := 48) rfl rfl (fun h => ?_) (fun h => ?_)
  · have k := k.1 h
    refine wp_seg (C := gC209) (pc1 := 54) (Lo1 := [some (.ref 43), some (.int l1), some (.long l2), none]) (st1' := [.long (l2 &&& (J 43 39))]) (w1 := (wv x I J)) hC209 4 rfl ?_
    refine cs_I (mj := 154) (nn := 0) (as := [.long (l2 &&& (J 43 39))]) (r := []) rfl rfl rfl ⟨rfl, by decide, Nat.le_of_ble_eq_true rfl, Nat.le_of_ble_eq_true rfl⟩ (by decide) (wcI_mono k (fun r1 I1 J1 k => ?_))
    exact we_i rfl rfl k
  · have k := k.2 h
    refine wp_seg (C := gC209) (pc1 := 42) (Lo1 := [some (.ref 43), some (.int l1), some (.long l2), none]) (st1' := [.ref 43]) (w1 := (wv x I J)) hC209 1 rfl ?_
    refine cv_V (mj := 200) (a := 43) (as := []) (r := []) rfl rfl rfl ⟨rfl, by decide, Nat.le_of_ble_eq_true rfl, Nat.le_of_ble_eq_true rfl⟩ rfl (wcV_mono k (fun I2 J2 k => ?_))
    refine wp_seg (C := gC209) (pc1 := 33) (Lo1 := [some (.ref 43), some (.int l1), some (.long l2), none]) (st1' := []) (w1 := (wv x I2 J2)) hC209 1 rfl ?_
    exact k
set_option maxRecDepth 20000 in
theorem v210_43_0 {S : Nat × (Nat → Int32)} {d : Nat} {x : mX} {I : rI0} {J : rJ0} {p1 : Int32} {Q : Int32 → rI0 → rJ0 → Prop} (k : (¬ mOut p1 601 ∧ (wcI S d 154 [.long (J 53 p1.toNatClampNeg)] x I J (fun r1 I1 J1 => (¬ mOut (3 : Int32) 681 ∧ ((r1 < (I1 45 ((3 : Int32).toNatClampNeg)) → Q (0 : Int32) I1 J1) ∧ (¬ r1 < (I1 45 ((3 : Int32).toNatClampNeg)) → Q (1 : Int32) I1 J1))))))) : wp S (d + 1) 210 0 [some (.ref 43), some (.int p1)] [] (wv x I J) (rI x Q) := by
  refine wp_seg (C := gC210) (pc1 := 5) (Lo1 := [some (.ref 43), some (.int p1)]) (st1' := [.int p1, .ref 53]) (w1 := (wv x I J)) hC210 3 rfl ?_
  refine wa_l (n := 601) rfl rfl k.1 ?_
  have k := k.2
  refine cs_I (mj := 154) (nn := 0) (as := [.long (J 53 p1.toNatClampNeg)]) (r := []) rfl rfl rfl ⟨rfl, by decide, Nat.le_of_ble_eq_true rfl, Nat.le_of_ble_eq_true rfl⟩ (by decide) (wcI_mono k (fun r1 I1 J1 k => ?_))
  refine wp_seg (C := gC210) (pc1 := 14) (Lo1 := [some (.ref 43), some (.int p1)]) (st1' := [.int (3 : Int32), .ref 45, .int r1]) (w1 := (wv x I1 J1)) hC210 3 rfl ?_
  refine wa_i (n := 681) rfl (by decide) rfl k.1 ?_
  have k := k.2
  refine wj_lt (tgt := 22) rfl rfl (fun h => ?_) (fun h => ?_)
  · have k := k.1 h
    refine wp_seg (C := gC210) (pc1 := 23) (Lo1 := [some (.ref 43), some (.int p1)]) (st1' := [.int (0 : Int32)]) (w1 := (wv x I1 J1)) hC210 1 rfl ?_
    exact we_z rfl rfl (Or.inl rfl) k
  · have k := k.2 h
    refine wp_seg (C := gC210) (pc1 := 23) (Lo1 := [some (.ref 43), some (.int p1)]) (st1' := [.int (1 : Int32)]) (w1 := (wv x I1 J1)) hC210 2 rfl ?_
    exact we_z rfl rfl (Or.inr rfl) k
set_option maxRecDepth 20000 in
theorem v211_43_0 {S : Nat × (Nat → Int32)} {d : Nat} {x : mX} {I : rI0} {J : rJ0} {Q : Int32 → rI0 → rJ0 → Prop} (k : (wcV S d 201 [.ref 43, .int (600 : Int32)] x (mSet I 43 0 (0 : Int32)) J (fun I1 J1 => wp S (d + 1) 211 14 [some (.ref 43), some (.int (0 : Int32))] [] (wv x I1 J1) (rI x Q)))) : wp S (d + 1) 211 0 [some (.ref 43), none] [] (wv x I J) (rI x Q) := by
  refine wp_seg (C := gC211) (pc1 := 9) (Lo1 := [some (.ref 43), none]) (st1' := [.int (600 : Int32), .ref 43]) (w1 := (wv x (mSet I 43 0 (0 : Int32)) J)) hC211 5 rfl ?_
  refine cv_V (mj := 201) (a := 43) (as := [.int (600 : Int32)]) (r := []) rfl rfl rfl ⟨rfl, by decide, Nat.le_of_ble_eq_true rfl, Nat.le_of_ble_eq_true rfl⟩ rfl (wcV_mono k (fun I1 J1 k => ?_))
  refine wp_seg (C := gC211) (pc1 := 14) (Lo1 := [some (.ref 43), some (.int (0 : Int32))]) (st1' := []) (w1 := (wv x I1 J1)) hC211 2 rfl ?_
  exact k
set_option maxRecDepth 20000 in
theorem v211_43_14 {S : Nat × (Nat → Int32)} {d : Nat} {x : mX} {I : rI0} {J : rJ0} {l1 : Int32} {Q : Int32 → rI0 → rJ0 → Prop} (k : (((600 : Int32) < l1 → Q (-1 : Int32) I J) ∧ (¬ (600 : Int32) < l1 → (wcI S d 210 [.ref 43, .int l1] x I J (fun r1 I1 J1 => ((r1 = (0 : Int32) → wp S (d + 1) 211 14 [some (.ref 43), some (.int (l1 + (1 : Int32)))] [] (wv x I1 J1) (rI x Q)) ∧ (¬ r1 = (0 : Int32) → Q l1 I1 J1))))))) : wp S (d + 1) 211 14 [some (.ref 43), some (.int l1)] [] (wv x I J) (rI x Q) := by
  refine wp_seg (C := gC211) (pc1 := 18) (Lo1 := [some (.ref 43), some (.int l1)]) (st1' := [.int (600 : Int32), .int l1]) (w1 := (wv x I J)) hC211 2 rfl ?_
  refine wj_gt (tgt := 37) rfl rfl (fun h => ?_) (fun h => ?_)
  · have k := k.1 h
    refine wp_seg (C := gC211) (pc1 := 38) (Lo1 := [some (.ref 43), some (.int l1)]) (st1' := [.int (-1 : Int32)]) (w1 := (wv x I J)) hC211 1 rfl ?_
    exact we_i rfl rfl k
  · have k := k.2 h
    refine wp_seg (C := gC211) (pc1 := 23) (Lo1 := [some (.ref 43), some (.int l1)]) (st1' := [.int l1, .ref 43]) (w1 := (wv x I J)) hC211 2 rfl ?_
    refine cv_I (mj := 210) (a := 43) (as := [.int l1]) (r := []) rfl rfl rfl ⟨rfl, by decide, Nat.le_of_ble_eq_true rfl, Nat.le_of_ble_eq_true rfl⟩ rfl (wcI_mono k (fun r1 I1 J1 k => ?_))
    refine wi_eq (tgt := 31) rfl rfl (fun h => ?_) (fun h => ?_)
    · have k := k.1 h
      refine wp_seg (C := gC211) (pc1 := 14) (Lo1 := [some (.ref 43), some (.int (l1 + (1 : Int32)))]) (st1' := []) (w1 := (wv x I1 J1)) hC211 2 rfl ?_
      exact k
    · have k := k.2 h
      refine wp_seg (C := gC211) (pc1 := 30) (Lo1 := [some (.ref 43), some (.int l1)]) (st1' := [.int l1]) (w1 := (wv x I1 J1)) hC211 1 rfl ?_
      exact we_i rfl rfl k
set_option maxRecDepth 20000 in
theorem v212_43_0 {S : Nat × (Nat → Int32)} {d : Nat} {x : mX} {I : rI0} {J : rJ0} {p1 : Int32} {Q : Int32 → rI0 → rJ0 → Prop} (k : (wcI S d 203 [.int p1] x (mSet I 43 0 (0 : Int32)) J (fun r1 I1 J1 => ((r1 = (0 : Int32) → Q (-1 : Int32) I1 J1) ∧ (¬ r1 = (0 : Int32) → (wcV S d 201 [.ref 43, .int p1] x I1 J1 (fun I2 J2 => wp S (d + 1) 212 23 [some (.ref 43), some (.int p1), some (.int (0 : Int32)), some (.int (0 : Int32))] [] (wv x I2 J2) (rI x Q)))))))) : wp S (d + 1) 212 0 [some (.ref 43), some (.int p1), none, none] [] (wv x I J) (rI x Q) := by
  refine wp_seg (C := gC212) (pc1 := 6) (Lo1 := [some (.ref 43), some (.int p1), none, none]) (st1' := [.int p1]) (w1 := (wv x (mSet I 43 0 (0 : Int32)) J)) hC212 4 rfl ?_
  refine cs_I (mj := 203) (nn := 0) (as := [.int p1]) (r := []) rfl rfl rfl ⟨rfl, by decide, Nat.le_of_ble_eq_true rfl, Nat.le_of_ble_eq_true rfl⟩ (by decide) (wcI_mono k (fun r1 I1 J1 k => ?_))
  refine wi_ne (tgt := 14) rfl rfl (fun h => ?_) (fun h => ?_)
  · have k := k.1 h
    refine wp_seg (C := gC212) (pc1 := 13) (Lo1 := [some (.ref 43), some (.int p1), none, none]) (st1' := [.int (-1 : Int32)]) (w1 := (wv x I1 J1)) hC212 1 rfl ?_
    exact we_i rfl rfl k
  · have k := k.2 h
    refine wp_seg (C := gC212) (pc1 := 16) (Lo1 := [some (.ref 43), some (.int p1), none, none]) (st1' := [.int p1, .ref 43]) (w1 := (wv x I1 J1)) hC212 2 rfl ?_
    refine cv_V (mj := 201) (a := 43) (as := [.int p1]) (r := []) rfl rfl rfl ⟨rfl, by decide, Nat.le_of_ble_eq_true rfl, Nat.le_of_ble_eq_true rfl⟩ rfl (wcV_mono k (fun I2 J2 k => ?_))
    refine wp_seg (C := gC212) (pc1 := 23) (Lo1 := [some (.ref 43), some (.int p1), some (.int (0 : Int32)), some (.int (0 : Int32))]) (st1' := []) (w1 := (wv x I2 J2)) hC212 4 rfl ?_
    exact k
set_option maxRecDepth 20000 in
theorem v212_43_23 {S : Nat × (Nat → Int32)} {d : Nat} {x : mX} {I : rI0} {J : rJ0} {l1 : Int32} {l2 : Int32} {l3 : Int32} {Q : Int32 → rI0 → rJ0 → Prop} (k : ((l1 < l3 → Q l2 I J) ∧ (¬ l1 < l3 → (wcI S d 210 [.ref 43, .int l3] x I J (fun r1 I1 J1 => ((r1 = (0 : Int32) → wp S (d + 1) 212 23 [some (.ref 43), some (.int l1), some (.int (l2 + (0 : Int32))), some (.int (l3 + (1 : Int32)))] [] (wv x I1 J1) (rI x Q)) ∧ (¬ r1 = (0 : Int32) → ((l3 = (0 : Int32) → wp S (d + 1) 212 23 [some (.ref 43), some (.int l1), some (.int (l2 + (1 : Int32))), some (.int (l3 + (1 : Int32)))] [] (wv x I1 J1) (rI x Q)) ∧ (¬ l3 = (0 : Int32) → (wcI S d 210 [.ref 43, .int (l3 - (1 : Int32))] x I1 J1 (fun r2 I2 J2 => ((r2 = (0 : Int32) → wp S (d + 1) 212 23 [some (.ref 43), some (.int l1), some (.int (l2 + (1 : Int32))), some (.int (l3 + (1 : Int32)))] [] (wv x I2 J2) (rI x Q)) ∧ (¬ r2 = (0 : Int32) → wp S (d + 1) 212 23 [some (.ref 43), some (.int l1), some (.int (l2 + (0 : Int32))), some (.int (l3 + (1 : Int32)))] [] (wv x I2 J2) (rI x Q)))))))))))))) : wp S (d + 1) 212 23 [some (.ref 43), some (.int l1), some (.int l2), some (.int l3)] [] (wv x I J) (rI x Q) := by
  refine wp_seg (C := gC212) (pc1 := 25) (Lo1 := [some (.ref 43), some (.int l1), some (.int l2), some (.int l3)]) (st1' := [.int l1, .int l3]) (w1 := (wv x I J)) hC212 2 rfl ?_
  refine wj_gt (tgt := 64) rfl rfl (fun h => ?_) (fun h => ?_)
  · have k := k.1 h
    refine wp_seg (C := gC212) (pc1 := 65) (Lo1 := [some (.ref 43), some (.int l1), some (.int l2), some (.int l3)]) (st1' := [.int l2]) (w1 := (wv x I J)) hC212 1 rfl ?_
    exact we_i rfl rfl k
  · have k := k.2 h
    refine wp_seg (C := gC212) (pc1 := 31) (Lo1 := [some (.ref 43), some (.int l1), some (.int l2), some (.int l3)]) (st1' := [.int l3, .ref 43, .int l2]) (w1 := (wv x I J)) hC212 3 rfl ?_
    refine cv_I (mj := 210) (a := 43) (as := [.int l3]) (r := [.int l2]) rfl rfl rfl ⟨rfl, by decide, Nat.le_of_ble_eq_true rfl, Nat.le_of_ble_eq_true rfl⟩ rfl (wcI_mono k (fun r1 I1 J1 k => ?_))
    refine wi_eq (tgt := 55) rfl rfl (fun h => ?_) (fun h => ?_)
    · have k := k.1 h
      refine wp_seg (C := gC212) (pc1 := 61) (Lo1 := [some (.ref 43), some (.int l1), some (.int (l2 + (0 : Int32))), some (.int (l3 + (1 : Int32)))]) (st1' := []) (w1 := (wv x I1 J1)) hC212 4 rfl ?_
      refine wp_seg (C := gC212) (pc1 := 23) (Lo1 := [some (.ref 43), some (.int l1), some (.int (l2 + (0 : Int32))), some (.int (l3 + (1 : Int32)))]) (st1' := []) (w1 := (wv x I1 J1)) hC212 1 rfl ?_
      exact k
    · have k := k.2 h
      refine wp_seg (C := gC212) (pc1 := 38) (Lo1 := [some (.ref 43), some (.int l1), some (.int l2), some (.int l3)]) (st1' := [.int l3, .int l2]) (w1 := (wv x I1 J1)) hC212 1 rfl ?_
      refine wi_eq (tgt := 51) rfl rfl (fun h => ?_) (fun h => ?_)
      · have k := k.1 h
        refine wp_seg (C := gC212) (pc1 := 61) (Lo1 := [some (.ref 43), some (.int l1), some (.int (l2 + (1 : Int32))), some (.int (l3 + (1 : Int32)))]) (st1' := []) (w1 := (wv x I1 J1)) hC212 5 rfl ?_
        refine wp_seg (C := gC212) (pc1 := 23) (Lo1 := [some (.ref 43), some (.int l1), some (.int (l2 + (1 : Int32))), some (.int (l3 + (1 : Int32)))]) (st1' := []) (w1 := (wv x I1 J1)) hC212 1 rfl ?_
        exact k
      · have k := k.2 h
        refine wp_seg (C := gC212) (pc1 := 45) (Lo1 := [some (.ref 43), some (.int l1), some (.int l2), some (.int l3)]) (st1' := [.int (l3 - (1 : Int32)), .ref 43, .int l2]) (w1 := (wv x I1 J1)) hC212 4 rfl ?_
        refine cv_I (mj := 210) (a := 43) (as := [.int (l3 - (1 : Int32))]) (r := [.int l2]) rfl rfl rfl ⟨rfl, by decide, Nat.le_of_ble_eq_true rfl, Nat.le_of_ble_eq_true rfl⟩ rfl (wcI_mono k (fun r2 I2 J2 k => ?_))
        refine wi_ne (tgt := 55) rfl rfl (fun h => ?_) (fun h => ?_)
        · have k := k.1 h
          refine wp_seg (C := gC212) (pc1 := 61) (Lo1 := [some (.ref 43), some (.int l1), some (.int (l2 + (1 : Int32))), some (.int (l3 + (1 : Int32)))]) (st1' := []) (w1 := (wv x I2 J2)) hC212 5 rfl ?_
          refine wp_seg (C := gC212) (pc1 := 23) (Lo1 := [some (.ref 43), some (.int l1), some (.int (l2 + (1 : Int32))), some (.int (l3 + (1 : Int32)))]) (st1' := []) (w1 := (wv x I2 J2)) hC212 1 rfl ?_
          exact k
        · have k := k.2 h
          refine wp_seg (C := gC212) (pc1 := 61) (Lo1 := [some (.ref 43), some (.int l1), some (.int (l2 + (0 : Int32))), some (.int (l3 + (1 : Int32)))]) (st1' := []) (w1 := (wv x I2 J2)) hC212 4 rfl ?_
          refine wp_seg (C := gC212) (pc1 := 23) (Lo1 := [some (.ref 43), some (.int l1), some (.int (l2 + (0 : Int32))), some (.int (l3 + (1 : Int32)))]) (st1' := []) (w1 := (wv x I2 J2)) hC212 1 rfl ?_
          exact k
set_option maxRecDepth 20000 in
theorem v213_43_0 {S : Nat × (Nat → Int32)} {d : Nat} {x : mX} {I : rI0} {J : rJ0} {p1 : Int32} {p2 : Int32} {Q : Int32 → rI0 → rJ0 → Prop} (k : (¬ mOut p1 601 ∧ (¬ mOut p2 601 ∧ (((lg_cmp (J 52 p1.toNatClampNeg) (J 52 p2.toNatClampNeg)) = (0 : Int32) → (¬ mOut p1 601 ∧ (¬ mOut p2 601 ∧ (((lg_cmp (J 53 p1.toNatClampNeg) (J 53 p2.toNatClampNeg)) = (0 : Int32) → (¬ mOut p1 601 ∧ (¬ mOut p2 601 ∧ (((lg_cmp (J 54 p1.toNatClampNeg) (J 54 p2.toNatClampNeg)) = (0 : Int32) → (¬ mOut p1 601 ∧ (¬ mOut p2 601 ∧ (((lg_cmp (J 55 p1.toNatClampNeg) (J 55 p2.toNatClampNeg)) = (0 : Int32) → Q (1 : Int32) I J) ∧ (¬ (lg_cmp (J 55 p1.toNatClampNeg) (J 55 p2.toNatClampNeg)) = (0 : Int32) → Q (0 : Int32) I J))))) ∧ (¬ (lg_cmp (J 54 p1.toNatClampNeg) (J 54 p2.toNatClampNeg)) = (0 : Int32) → Q (0 : Int32) I J))))) ∧ (¬ (lg_cmp (J 53 p1.toNatClampNeg) (J 53 p2.toNatClampNeg)) = (0 : Int32) → Q (0 : Int32) I J))))) ∧ (¬ (lg_cmp (J 52 p1.toNatClampNeg) (J 52 p2.toNatClampNeg)) = (0 : Int32) → Q (0 : Int32) I J))))) : wp S d 213 0 [some (.ref 43), some (.int p1), some (.int p2)] [] (wv x I J) (rI x Q) := by
  refine wp_seg (C := gC213) (pc1 := 5) (Lo1 := [some (.ref 43), some (.int p1), some (.int p2)]) (st1' := [.int p1, .ref 52]) (w1 := (wv x I J)) hC213 3 rfl ?_
  refine wa_l (n := 601) rfl rfl k.1 ?_
  have k := k.2
  refine wp_seg (C := gC213) (pc1 := 11) (Lo1 := [some (.ref 43), some (.int p1), some (.int p2)]) (st1' := [.int p2, .ref 52, .long (J 52 p1.toNatClampNeg)]) (w1 := (wv x I J)) hC213 3 rfl ?_
  refine wa_l (n := 601) rfl rfl k.1 ?_
  have k := k.2
  refine wp_seg (C := gC213) (pc1 := 13) (Lo1 := [some (.ref 43), some (.int p1), some (.int p2)]) (st1' := [.int (lg_cmp (J 52 p1.toNatClampNeg) (J 52 p2.toNatClampNeg))]) (w1 := (wv x I J)) hC213 1 rfl ?_
  refine wi_ne (tgt := 68) rfl rfl (fun h => ?_) (fun h => ?_)
  · have k := k.1 h
    refine wp_seg (C := gC213) (pc1 := 21) (Lo1 := [some (.ref 43), some (.int p1), some (.int p2)]) (st1' := [.int p1, .ref 53]) (w1 := (wv x I J)) hC213 3 rfl ?_
    refine wa_l (n := 601) rfl rfl k.1 ?_
    have k := k.2
    refine wp_seg (C := gC213) (pc1 := 27) (Lo1 := [some (.ref 43), some (.int p1), some (.int p2)]) (st1' := [.int p2, .ref 53, .long (J 53 p1.toNatClampNeg)]) (w1 := (wv x I J)) hC213 3 rfl ?_
    refine wa_l (n := 601) rfl rfl k.1 ?_
    have k := k.2
    refine wp_seg (C := gC213) (pc1 := 29) (Lo1 := [some (.ref 43), some (.int p1), some (.int p2)]) (st1' := [.int (lg_cmp (J 53 p1.toNatClampNeg) (J 53 p2.toNatClampNeg))]) (w1 := (wv x I J)) hC213 1 rfl ?_
    refine wi_ne (tgt := 68) rfl rfl (fun h => ?_) (fun h => ?_)
    · have k := k.1 h
      refine wp_seg (C := gC213) (pc1 := 37) (Lo1 := [some (.ref 43), some (.int p1), some (.int p2)]) (st1' := [.int p1, .ref 54]) (w1 := (wv x I J)) hC213 3 rfl ?_
      refine wa_l (n := 601) rfl rfl k.1 ?_
      have k := k.2
      refine wp_seg (C := gC213) (pc1 := 43) (Lo1 := [some (.ref 43), some (.int p1), some (.int p2)]) (st1' := [.int p2, .ref 54, .long (J 54 p1.toNatClampNeg)]) (w1 := (wv x I J)) hC213 3 rfl ?_
      refine wa_l (n := 601) rfl rfl k.1 ?_
      have k := k.2
      refine wp_seg (C := gC213) (pc1 := 45) (Lo1 := [some (.ref 43), some (.int p1), some (.int p2)]) (st1' := [.int (lg_cmp (J 54 p1.toNatClampNeg) (J 54 p2.toNatClampNeg))]) (w1 := (wv x I J)) hC213 1 rfl ?_
      refine wi_ne (tgt := 68) rfl rfl (fun h => ?_) (fun h => ?_)
      · have k := k.1 h
        refine wp_seg (C := gC213) (pc1 := 53) (Lo1 := [some (.ref 43), some (.int p1), some (.int p2)]) (st1' := [.int p1, .ref 55]) (w1 := (wv x I J)) hC213 3 rfl ?_
        refine wa_l (n := 601) rfl rfl k.1 ?_
        have k := k.2
        refine wp_seg (C := gC213) (pc1 := 59) (Lo1 := [some (.ref 43), some (.int p1), some (.int p2)]) (st1' := [.int p2, .ref 55, .long (J 55 p1.toNatClampNeg)]) (w1 := (wv x I J)) hC213 3 rfl ?_
        refine wa_l (n := 601) rfl rfl k.1 ?_
        have k := k.2
        refine wp_seg (C := gC213) (pc1 := 61) (Lo1 := [some (.ref 43), some (.int p1), some (.int p2)]) (st1' := [.int (lg_cmp (J 55 p1.toNatClampNeg) (J 55 p2.toNatClampNeg))]) (w1 := (wv x I J)) hC213 1 rfl ?_
        refine wi_ne (tgt := 68) rfl rfl (fun h => ?_) (fun h => ?_)
        · have k := k.1 h
          refine wp_seg (C := gC213) (pc1 := 69) (Lo1 := [some (.ref 43), some (.int p1), some (.int p2)]) (st1' := [.int (1 : Int32)]) (w1 := (wv x I J)) hC213 2 rfl ?_
          exact we_z rfl rfl (Or.inr rfl) k
        · have k := k.2 h
          refine wp_seg (C := gC213) (pc1 := 69) (Lo1 := [some (.ref 43), some (.int p1), some (.int p2)]) (st1' := [.int (0 : Int32)]) (w1 := (wv x I J)) hC213 1 rfl ?_
          exact we_z rfl rfl (Or.inl rfl) k
      · have k := k.2 h
        refine wp_seg (C := gC213) (pc1 := 69) (Lo1 := [some (.ref 43), some (.int p1), some (.int p2)]) (st1' := [.int (0 : Int32)]) (w1 := (wv x I J)) hC213 1 rfl ?_
        exact we_z rfl rfl (Or.inl rfl) k
    · have k := k.2 h
      refine wp_seg (C := gC213) (pc1 := 69) (Lo1 := [some (.ref 43), some (.int p1), some (.int p2)]) (st1' := [.int (0 : Int32)]) (w1 := (wv x I J)) hC213 1 rfl ?_
      exact we_z rfl rfl (Or.inl rfl) k
  · have k := k.2 h
    refine wp_seg (C := gC213) (pc1 := 69) (Lo1 := [some (.ref 43), some (.int p1), some (.int p2)]) (st1' := [.int (0 : Int32)]) (w1 := (wv x I J)) hC213 1 rfl ?_
    exact we_z rfl rfl (Or.inl rfl) k
set_option maxRecDepth 20000 in
theorem v214_43_0 {S : Nat × (Nat → Int32)} {d : Nat} {x : mX} {I : rI0} {J : rJ0} {p1 : Int32} {Q : Int32 → rI0 → rJ0 → Prop} (k : (wcI S d 151 [.int p1, .int (0 : Int32), .int (1 : Int32)] x (mSet I 43 0 (0 : Int32)) J (fun r1 I1 J1 => ((r1 = (0 : Int32) → Q (-1 : Int32) I1 J1) ∧ (¬ r1 = (0 : Int32) → (wcV S d 201 [.ref 43, .int (600 : Int32)] x I1 J1 (fun I2 J2 => (((lg_cmp (J2 43 16) (0 : Int64)) = (0 : Int32) → wp S (d + 1) 214 43 [some (.ref 43), some (.int p1), some (.int (0 : Int32)), some (.int (0 : Int32)), some (.int (0 : Int32)), none] [] (wv x I2 J2) (rI x Q)) ∧ (¬ (lg_cmp (J2 43 16) (0 : Int64)) = (0 : Int32) → wp S (d + 1) 214 43 [some (.ref 43), some (.int p1), some (.int (0 : Int32)), some (.int (1 : Int32)), some (.int (0 : Int32)), none] [] (wv x I2 J2) (rI x Q)))))))))) : wp S (d + 1) 214 0 [some (.ref 43), some (.int p1), none, none, none, none] [] (wv x I J) (rI x Q) := by
  refine wp_seg (C := gC214) (pc1 := 8) (Lo1 := [some (.ref 43), some (.int p1), none, none, none, none]) (st1' := [.int (1 : Int32), .int (0 : Int32), .int p1]) (w1 := (wv x (mSet I 43 0 (0 : Int32)) J)) hC214 6 rfl ?_
  refine cs_I (mj := 151) (nn := 0) (as := [.int p1, .int (0 : Int32), .int (1 : Int32)]) (r := []) rfl rfl rfl ⟨rfl, by decide, Nat.le_of_ble_eq_true rfl, Nat.le_of_ble_eq_true rfl⟩ (by decide) (wcI_mono k (fun r1 I1 J1 k => ?_))
  refine wi_ne (tgt := 16) rfl rfl (fun h => ?_) (fun h => ?_)
  · have k := k.1 h
    refine wp_seg (C := gC214) (pc1 := 15) (Lo1 := [some (.ref 43), some (.int p1), none, none, none, none]) (st1' := [.int (-1 : Int32)]) (w1 := (wv x I1 J1)) hC214 1 rfl ?_
    exact we_i rfl rfl k
  · have k := k.2 h
    refine wp_seg (C := gC214) (pc1 := 20) (Lo1 := [some (.ref 43), some (.int p1), none, none, none, none]) (st1' := [.int (600 : Int32), .ref 43]) (w1 := (wv x I1 J1)) hC214 2 rfl ?_
    refine cv_V (mj := 201) (a := 43) (as := [.int (600 : Int32)]) (r := []) rfl rfl rfl ⟨rfl, by decide, Nat.le_of_ble_eq_true rfl, Nat.le_of_ble_eq_true rfl⟩ rfl (wcV_mono k (fun I2 J2 k => ?_))
    refine wp_seg (C := gC214) (pc1 := 31) (Lo1 := [some (.ref 43), some (.int p1), some (.int (0 : Int32)), none, none, none]) (st1' := [.int (lg_cmp (J2 43 16) (0 : Int64))]) (w1 := (wv x I2 J2)) hC214 6 rfl ?_
    refine wi_eq (tgt := 38) rfl rfl (fun h => ?_) (fun h => ?_)
    · have k := k.1 h
      refine wp_seg (C := gC214) (pc1 := 43) (Lo1 := [some (.ref 43), some (.int p1), some (.int (0 : Int32)), some (.int (0 : Int32)), some (.int (0 : Int32)), none]) (st1' := []) (w1 := (wv x I2 J2)) hC214 4 rfl ?_
      exact k
    · have k := k.2 h
      refine wp_seg (C := gC214) (pc1 := 43) (Lo1 := [some (.ref 43), some (.int p1), some (.int (0 : Int32)), some (.int (1 : Int32)), some (.int (0 : Int32)), none]) (st1' := []) (w1 := (wv x I2 J2)) hC214 5 rfl ?_
      exact k
set_option maxRecDepth 20000 in
theorem v214_43_43 {S : Nat × (Nat → Int32)} {d : Nat} {x : mX} {I : rI0} {J : rJ0} {l1 : Int32} {l2 : Int32} {l3 : Int32} {l4 : Int32} {Q : Int32 → rI0 → rJ0 → Prop} (k : (¬ mOut (0 : Int32) 681 ∧ ((l4 < (I 45 ((0 : Int32).toNatClampNeg)) → (¬ mOut ((78 : Int32) + l4) 681 ∧ ((l2 < ((I 45 (((78 : Int32) + l4).toNatClampNeg)) - (1 : Int32)) → (¬ mOut ((78 : Int32) + l4) 681 ∧ wp S (d + 1) 214 43 [some (.ref 43), some (.int l1), some (.int ((I 45 (((78 : Int32) + l4).toNatClampNeg)) - (1 : Int32))), some (.int l3), some (.int (l4 + (1 : Int32))), none] [] (wv x I J) (rI x Q))) ∧ (¬ l2 < ((I 45 (((78 : Int32) + l4).toNatClampNeg)) - (1 : Int32)) → wp S (d + 1) 214 43 [some (.ref 43), some (.int l1), some (.int l2), some (.int l3), some (.int (l4 + (1 : Int32))), none] [] (wv x I J) (rI x Q))))) ∧ (¬ l4 < (I 45 ((0 : Int32).toNatClampNeg)) → wp S (d + 1) 214 96 [some (.ref 43), some (.int l1), some (.int l2), some (.int l3), some (.int (0 : Int32)), none] [] (wv x I J) (rI x Q))))) : wp S (d + 1) 214 43 [some (.ref 43), some (.int l1), some (.int l2), some (.int l3), some (.int l4), none] [] (wv x I J) (rI x Q) := by
  refine wp_seg (C := gC214) (pc1 := 50) (Lo1 := [some (.ref 43), some (.int l1), some (.int l2), some (.int l3), some (.int l4), none]) (st1' := [.int (0 : Int32), .ref 45, .int l4]) (w1 := (wv x I J)) hC214 4 rfl ?_
  refine wa_i (n := 681) rfl (by decide) rfl k.1 ?_
  have k := k.2
  refine wj_ge (tgt := 93) rfl rfl (fun h => ?_) (fun h => ?_)
  · have k := k.1 h
    refine wp_seg (C := gC214) (pc1 := 63) (Lo1 := [some (.ref 43), some (.int l1), some (.int l2), some (.int l3), some (.int l4), none]) (st1' := [.int ((78 : Int32) + l4), .ref 45]) (w1 := (wv x I J)) hC214 5 rfl ?_
    refine wa_i (n := 681) rfl (by decide) rfl k.1 ?_
    have k := k.2
    refine wp_seg (C := gC214) (pc1 := 67) (Lo1 := [some (.ref 43), some (.int l1), some (.int l2), some (.int l3), some (.int l4), none]) (st1' := [.int l2, .int ((I 45 (((78 : Int32) + l4).toNatClampNeg)) - (1 : Int32))]) (w1 := (wv x I J)) hC214 3 rfl ?_
    refine wj_le (tgt := 85) rfl rfl (fun h => ?_) (fun h => ?_)
    · have k := k.1 h
      refine wp_seg (C := gC214) (pc1 := 79) (Lo1 := [some (.ref 43), some (.int l1), some (.int l2), some (.int l3), some (.int l4), none]) (st1' := [.int ((78 : Int32) + l4), .ref 45]) (w1 := (wv x I J)) hC214 5 rfl ?_
      refine wa_i (n := 681) rfl (by decide) rfl k.1 ?_
      have k := k.2
      refine wp_seg (C := gC214) (pc1 := 90) (Lo1 := [some (.ref 43), some (.int l1), some (.int ((I 45 (((78 : Int32) + l4).toNatClampNeg)) - (1 : Int32))), some (.int l3), some (.int (l4 + (1 : Int32))), none]) (st1' := []) (w1 := (wv x I J)) hC214 5 rfl ?_
      refine wp_seg (C := gC214) (pc1 := 43) (Lo1 := [some (.ref 43), some (.int l1), some (.int ((I 45 (((78 : Int32) + l4).toNatClampNeg)) - (1 : Int32))), some (.int l3), some (.int (l4 + (1 : Int32))), none]) (st1' := []) (w1 := (wv x I J)) hC214 1 rfl ?_
      exact k
    · have k := k.2 h
      refine wp_seg (C := gC214) (pc1 := 90) (Lo1 := [some (.ref 43), some (.int l1), some (.int l2), some (.int l3), some (.int (l4 + (1 : Int32))), none]) (st1' := []) (w1 := (wv x I J)) hC214 3 rfl ?_
      refine wp_seg (C := gC214) (pc1 := 43) (Lo1 := [some (.ref 43), some (.int l1), some (.int l2), some (.int l3), some (.int (l4 + (1 : Int32))), none]) (st1' := []) (w1 := (wv x I J)) hC214 1 rfl ?_
      exact k
  · have k := k.2 h
    refine wp_seg (C := gC214) (pc1 := 96) (Lo1 := [some (.ref 43), some (.int l1), some (.int l2), some (.int l3), some (.int (0 : Int32)), none]) (st1' := []) (w1 := (wv x I J)) hC214 2 rfl ?_
    exact k
set_option maxRecDepth 20000 in
theorem v214_43_96 {S : Nat × (Nat → Int32)} {d : Nat} {x : mX} {I : rI0} {J : rJ0} {l1 : Int32} {l2 : Int32} {l3 : Int32} {l4 : Int32} {Q : Int32 → rI0 → rJ0 → Prop} (k : (¬ mOut (590 : Int32) 681 ∧ ((l4 < (I 45 ((590 : Int32).toNatClampNeg)) → (¬ mOut ((591 : Int32) + ((3 : Int32) * l4)) 681 ∧ ((l2 < (I 45 (((591 : Int32) + ((3 : Int32) * l4)).toNatClampNeg)) → (¬ mOut ((591 : Int32) + ((3 : Int32) * l4)) 681 ∧ wp S (d + 1) 214 143 [some (.ref 43), some (.int l1), some (.int l2), some (.int l3), some (.int l4), none] [.int (I 45 (((591 : Int32) + ((3 : Int32) * l4)).toNatClampNeg))] (wv x I J) (rI x Q))) ∧ (¬ l2 < (I 45 (((591 : Int32) + ((3 : Int32) * l4)).toNatClampNeg)) → wp S (d + 1) 214 143 [some (.ref 43), some (.int l1), some (.int l2), some (.int l3), some (.int l4), none] [.int l2] (wv x I J) (rI x Q))))) ∧ (¬ l4 < (I 45 ((590 : Int32).toNatClampNeg)) → ((l3 = (0 : Int32) → wp S (d + 1) 214 218 [some (.ref 43), some (.int l1), some (.int l2), some (.int l3), some (.int l2), none] [] (wv x I J) (rI x Q)) ∧ (¬ l3 = (0 : Int32) → (¬ mOut (4 : Int32) 681 ∧ (((I 45 ((4 : Int32).toNatClampNeg)) < (600 : Int32) → (¬ mOut (4 : Int32) 681 ∧ ((l2 < ((I 45 ((4 : Int32).toNatClampNeg)) + (1 : Int32)) → (¬ mOut (4 : Int32) 681 ∧ wp S (d + 1) 214 218 [some (.ref 43), some (.int l1), some (.int ((I 45 ((4 : Int32).toNatClampNeg)) + (1 : Int32))), some (.int l3), some (.int ((I 45 ((4 : Int32).toNatClampNeg)) + (1 : Int32))), none] [] (wv x I J) (rI x Q))) ∧ (¬ l2 < ((I 45 ((4 : Int32).toNatClampNeg)) + (1 : Int32)) → wp S (d + 1) 214 218 [some (.ref 43), some (.int l1), some (.int l2), some (.int l3), some (.int l2), none] [] (wv x I J) (rI x Q))))) ∧ (¬ (I 45 ((4 : Int32).toNatClampNeg)) < (600 : Int32) → wp S (d + 1) 214 218 [some (.ref 43), some (.int l1), some (.int l2), some (.int l3), some (.int l2), none] [] (wv x I J) (rI x Q)))))))))) : wp S (d + 1) 214 96 [some (.ref 43), some (.int l1), some (.int l2), some (.int l3), some (.int l4), none] [] (wv x I J) (rI x Q) := by
  refine wp_seg (C := gC214) (pc1 := 105) (Lo1 := [some (.ref 43), some (.int l1), some (.int l2), some (.int l3), some (.int l4), none]) (st1' := [.int (590 : Int32), .ref 45, .int l4]) (w1 := (wv x I J)) hC214 4 rfl ?_
  refine wa_i (n := 681) rfl (by decide) rfl k.1 ?_
  have k := k.2
  refine wj_ge (tgt := 178) rfl rfl (fun h => ?_) (fun h => ?_)
  · have k := k.1 h
    refine wp_seg (C := gC214) (pc1 := 121) (Lo1 := [some (.ref 43), some (.int l1), some (.int l2), some (.int l3), some (.int l4), none]) (st1' := [.int ((591 : Int32) + ((3 : Int32) * l4)), .ref 45]) (w1 := (wv x I J)) hC214 7 rfl ?_
    refine wa_i (n := 681) rfl (by decide) rfl k.1 ?_
    have k := k.2
    refine wp_seg (C := gC214) (pc1 := 123) (Lo1 := [some (.ref 43), some (.int l1), some (.int l2), some (.int l3), some (.int l4), none]) (st1' := [.int l2, .int (I 45 (((591 : Int32) + ((3 : Int32) * l4)).toNatClampNeg))]) (w1 := (wv x I J)) hC214 1 rfl ?_
    refine wj_le (tgt := 142) rfl rfl (fun h => ?_) (fun h => ?_)
    · have k := k.1 h
      refine wp_seg (C := gC214) (pc1 := 138) (Lo1 := [some (.ref 43), some (.int l1), some (.int l2), some (.int l3), some (.int l4), none]) (st1' := [.int ((591 : Int32) + ((3 : Int32) * l4)), .ref 45]) (w1 := (wv x I J)) hC214 7 rfl ?_
      refine wa_i (n := 681) rfl (by decide) rfl k.1 ?_
      have k := k.2
      refine wp_seg (C := gC214) (pc1 := 143) (Lo1 := [some (.ref 43), some (.int l1), some (.int l2), some (.int l3), some (.int l4), none]) (st1' := [.int (I 45 (((591 : Int32) + ((3 : Int32) * l4)).toNatClampNeg))]) (w1 := (wv x I J)) hC214 1 rfl ?_
      exact k
    · have k := k.2 h
      refine wp_seg (C := gC214) (pc1 := 143) (Lo1 := [some (.ref 43), some (.int l1), some (.int l2), some (.int l3), some (.int l4), none]) (st1' := [.int l2]) (w1 := (wv x I J)) hC214 1 rfl ?_
      exact k
  · have k := k.2 h
    refine wp_seg (C := gC214) (pc1 := 179) (Lo1 := [some (.ref 43), some (.int l1), some (.int l2), some (.int l3), some (.int l4), none]) (st1' := [.int l3]) (w1 := (wv x I J)) hC214 1 rfl ?_
    refine wi_eq (tgt := 215) rfl rfl (fun h => ?_) (fun h => ?_)
    · have k := k.1 h
      refine wp_seg (C := gC214) (pc1 := 218) (Lo1 := [some (.ref 43), some (.int l1), some (.int l2), some (.int l3), some (.int l2), none]) (st1' := []) (w1 := (wv x I J)) hC214 2 rfl ?_
      exact k
    · have k := k.2 h
      refine wp_seg (C := gC214) (pc1 := 187) (Lo1 := [some (.ref 43), some (.int l1), some (.int l2), some (.int l3), some (.int l4), none]) (st1' := [.int (4 : Int32), .ref 45]) (w1 := (wv x I J)) hC214 3 rfl ?_
      refine wa_i (n := 681) rfl (by decide) rfl k.1 ?_
      have k := k.2
      refine wp_seg (C := gC214) (pc1 := 191) (Lo1 := [some (.ref 43), some (.int l1), some (.int l2), some (.int l3), some (.int l4), none]) (st1' := [.int (600 : Int32), .int (I 45 ((4 : Int32).toNatClampNeg))]) (w1 := (wv x I J)) hC214 1 rfl ?_
      refine wj_ge (tgt := 215) rfl rfl (fun h => ?_) (fun h => ?_)
      · have k := k.1 h
        refine wp_seg (C := gC214) (pc1 := 199) (Lo1 := [some (.ref 43), some (.int l1), some (.int l2), some (.int l3), some (.int l4), none]) (st1' := [.int (4 : Int32), .ref 45]) (w1 := (wv x I J)) hC214 3 rfl ?_
        refine wa_i (n := 681) rfl (by decide) rfl k.1 ?_
        have k := k.2
        refine wp_seg (C := gC214) (pc1 := 203) (Lo1 := [some (.ref 43), some (.int l1), some (.int l2), some (.int l3), some (.int l4), none]) (st1' := [.int l2, .int ((I 45 ((4 : Int32).toNatClampNeg)) + (1 : Int32))]) (w1 := (wv x I J)) hC214 3 rfl ?_
        refine wj_le (tgt := 215) rfl rfl (fun h => ?_) (fun h => ?_)
        · have k := k.1 h
          refine wp_seg (C := gC214) (pc1 := 211) (Lo1 := [some (.ref 43), some (.int l1), some (.int l2), some (.int l3), some (.int l4), none]) (st1' := [.int (4 : Int32), .ref 45]) (w1 := (wv x I J)) hC214 3 rfl ?_
          refine wa_i (n := 681) rfl (by decide) rfl k.1 ?_
          have k := k.2
          refine wp_seg (C := gC214) (pc1 := 218) (Lo1 := [some (.ref 43), some (.int l1), some (.int ((I 45 ((4 : Int32).toNatClampNeg)) + (1 : Int32))), some (.int l3), some (.int ((I 45 ((4 : Int32).toNatClampNeg)) + (1 : Int32))), none]) (st1' := []) (w1 := (wv x I J)) hC214 5 rfl ?_
          exact k
        · have k := k.2 h
          refine wp_seg (C := gC214) (pc1 := 218) (Lo1 := [some (.ref 43), some (.int l1), some (.int l2), some (.int l3), some (.int l2), none]) (st1' := []) (w1 := (wv x I J)) hC214 2 rfl ?_
          exact k
      · have k := k.2 h
        refine wp_seg (C := gC214) (pc1 := 218) (Lo1 := [some (.ref 43), some (.int l1), some (.int l2), some (.int l3), some (.int l2), none]) (st1' := []) (w1 := (wv x I J)) hC214 2 rfl ?_
        exact k
set_option maxRecDepth 20000 in
theorem v214_43_143 {S : Nat × (Nat → Int32)} {d : Nat} {x : mX} {I : rI0} {J : rJ0} {l1 : Int32} {l2 : Int32} {l3 : Int32} {l4 : Int32} {s0 : Int32} {Q : Int32 → rI0 → rJ0 → Prop} (k : ((l3 = (0 : Int32) → (¬ mOut (((591 : Int32) + ((3 : Int32) * l4)) + (1 : Int32)) 681 ∧ (((I 45 ((((591 : Int32) + ((3 : Int32) * l4)) + (1 : Int32)).toNatClampNeg)) = (0 : Int32) → wp S (d + 1) 214 96 [some (.ref 43), some (.int l1), some (.int s0), some (.int (1 : Int32)), some (.int (l4 + (1 : Int32))), none] [] (wv x I J) (rI x Q)) ∧ (¬ (I 45 ((((591 : Int32) + ((3 : Int32) * l4)) + (1 : Int32)).toNatClampNeg)) = (0 : Int32) → wp S (d + 1) 214 96 [some (.ref 43), some (.int l1), some (.int s0), some (.int (0 : Int32)), some (.int (l4 + (1 : Int32))), none] [] (wv x I J) (rI x Q))))) ∧ (¬ l3 = (0 : Int32) → wp S (d + 1) 214 96 [some (.ref 43), some (.int l1), some (.int s0), some (.int (1 : Int32)), some (.int (l4 + (1 : Int32))), none] [] (wv x I J) (rI x Q)))) : wp S (d + 1) 214 143 [some (.ref 43), some (.int l1), some (.int l2), some (.int l3), some (.int l4), none] [.int s0] (wv x I J) (rI x Q) := by
  refine wp_seg (C := gC214) (pc1 := 145) (Lo1 := [some (.ref 43), some (.int l1), some (.int s0), some (.int l3), some (.int l4), none]) (st1' := [.int l3]) (w1 := (wv x I J)) hC214 2 rfl ?_
  refine wi_ne (tgt := 166) rfl rfl (fun h => ?_) (fun h => ?_)
  · have k := k.1 h
    refine wp_seg (C := gC214) (pc1 := 162) (Lo1 := [some (.ref 43), some (.int l1), some (.int s0), some (.int l3), some (.int l4), none]) (st1' := [.int (((591 : Int32) + ((3 : Int32) * l4)) + (1 : Int32)), .ref 45]) (w1 := (wv x I J)) hC214 9 rfl ?_
    refine wa_i (n := 681) rfl (by decide) rfl k.1 ?_
    have k := k.2
    refine wi_ne (tgt := 170) rfl rfl (fun h => ?_) (fun h => ?_)
    · have k := k.1 h
      refine wp_seg (C := gC214) (pc1 := 175) (Lo1 := [some (.ref 43), some (.int l1), some (.int s0), some (.int (1 : Int32)), some (.int (l4 + (1 : Int32))), none]) (st1' := []) (w1 := (wv x I J)) hC214 4 rfl ?_
      refine wp_seg (C := gC214) (pc1 := 96) (Lo1 := [some (.ref 43), some (.int l1), some (.int s0), some (.int (1 : Int32)), some (.int (l4 + (1 : Int32))), none]) (st1' := []) (w1 := (wv x I J)) hC214 1 rfl ?_
      exact k
    · have k := k.2 h
      refine wp_seg (C := gC214) (pc1 := 175) (Lo1 := [some (.ref 43), some (.int l1), some (.int s0), some (.int (0 : Int32)), some (.int (l4 + (1 : Int32))), none]) (st1' := []) (w1 := (wv x I J)) hC214 3 rfl ?_
      refine wp_seg (C := gC214) (pc1 := 96) (Lo1 := [some (.ref 43), some (.int l1), some (.int s0), some (.int (0 : Int32)), some (.int (l4 + (1 : Int32))), none]) (st1' := []) (w1 := (wv x I J)) hC214 1 rfl ?_
      exact k
  · have k := k.2 h
    refine wp_seg (C := gC214) (pc1 := 175) (Lo1 := [some (.ref 43), some (.int l1), some (.int s0), some (.int (1 : Int32)), some (.int (l4 + (1 : Int32))), none]) (st1' := []) (w1 := (wv x I J)) hC214 4 rfl ?_
    refine wp_seg (C := gC214) (pc1 := 96) (Lo1 := [some (.ref 43), some (.int l1), some (.int s0), some (.int (1 : Int32)), some (.int (l4 + (1 : Int32))), none]) (st1' := []) (w1 := (wv x I J)) hC214 1 rfl ?_
    exact k
set_option maxRecDepth 20000 in
theorem v214_43_218 {S : Nat × (Nat → Int32)} {d : Nat} {x : mX} {I : rI0} {J : rJ0} {l1 : Int32} {l2 : Int32} {l3 : Int32} {l4 : Int32} {Q : Int32 → rI0 → rJ0 → Prop} (k : (((600 : Int32) < l4 → Q (-1 : Int32) I J) ∧ (¬ (600 : Int32) < l4 → wp S (d + 1) 214 232 [some (.ref 43), some (.int l1), some (.int l2), some (.int l3), some (.int l4), some (.int (l4 + (1 : Int32)))] [] (wv x I J) (rI x Q)))) : wp S (d + 1) 214 218 [some (.ref 43), some (.int l1), some (.int l2), some (.int l3), some (.int l4), none] [] (wv x I J) (rI x Q) := by
  refine wp_seg (C := gC214) (pc1 := 223) (Lo1 := [some (.ref 43), some (.int l1), some (.int l2), some (.int l3), some (.int l4), none]) (st1' := [.int (600 : Int32), .int l4]) (w1 := (wv x I J)) hC214 2 rfl ?_
  refine wj_gt (tgt := 278) rfl rfl (fun h => ?_) (fun h => ?_)
  · have k := k.1 h
    refine wp_seg (C := gC214) (pc1 := 279) (Lo1 := [some (.ref 43), some (.int l1), some (.int l2), some (.int l3), some (.int l4), none]) (st1' := [.int (-1 : Int32)]) (w1 := (wv x I J)) hC214 1 rfl ?_
    exact we_i rfl rfl k
  · have k := k.2 h
    refine wp_seg (C := gC214) (pc1 := 232) (Lo1 := [some (.ref 43), some (.int l1), some (.int l2), some (.int l3), some (.int l4), some (.int (l4 + (1 : Int32)))]) (st1' := []) (w1 := (wv x I J)) hC214 4 rfl ?_
    exact k
set_option maxRecDepth 20000 in
theorem v214_43_232 {S : Nat × (Nat → Int32)} {d : Nat} {x : mX} {I : rI0} {J : rJ0} {l1 : Int32} {l2 : Int32} {l3 : Int32} {l4 : Int32} {l5 : Int32} {Q : Int32 → rI0 → rJ0 → Prop} (k : (((600 : Int32) < l5 → wp S (d + 1) 214 218 [some (.ref 43), some (.int l1), some (.int l2), some (.int l3), some (.int (l4 + (1 : Int32))), none] [] (wv x I J) (rI x Q)) ∧ (¬ (600 : Int32) < l5 → (wcI S d 213 [.ref 43, .int l4, .int l5] x I J (fun r1 I1 J1 => ((r1 = (0 : Int32) → wp S (d + 1) 214 232 [some (.ref 43), some (.int l1), some (.int l2), some (.int l3), some (.int l4), some (.int (l5 + (1 : Int32)))] [] (wv x I1 J1) (rI x Q)) ∧ (¬ r1 = (0 : Int32) → ((l1 = (0 : Int32) → Q l4 I1 J1) ∧ (¬ l1 = (0 : Int32) → Q (l5 - l4) I1 J1))))))))) : wp S (d + 1) 214 232 [some (.ref 43), some (.int l1), some (.int l2), some (.int l3), some (.int l4), some (.int l5)] [] (wv x I J) (rI x Q) := by
  refine wp_seg (C := gC214) (pc1 := 237) (Lo1 := [some (.ref 43), some (.int l1), some (.int l2), some (.int l3), some (.int l4), some (.int l5)]) (st1' := [.int (600 : Int32), .int l5]) (w1 := (wv x I J)) hC214 2 rfl ?_
  refine wj_gt (tgt := 272) rfl rfl (fun h => ?_) (fun h => ?_)
  · have k := k.1 h
    refine wp_seg (C := gC214) (pc1 := 218) (Lo1 := [some (.ref 43), some (.int l1), some (.int l2), some (.int l3), some (.int (l4 + (1 : Int32))), some (.int l5)]) (st1' := []) (w1 := (wv x I J)) hC214 2 rfl ?_
    exact wp_sub (Lo := [some (.ref 43), some (.int l1), some (.int l2), some (.int l3), some (.int (l4 + (1 : Int32))), none]) (And.intro rfl (And.intro rfl (And.intro rfl (And.intro rfl (And.intro rfl (trivial)))))) k
  · have k := k.2 h
    refine wp_seg (C := gC214) (pc1 := 245) (Lo1 := [some (.ref 43), some (.int l1), some (.int l2), some (.int l3), some (.int l4), some (.int l5)]) (st1' := [.int l5, .int l4, .ref 43]) (w1 := (wv x I J)) hC214 3 rfl ?_
    refine cv_I (mj := 213) (a := 43) (as := [.int l4, .int l5]) (r := []) rfl rfl rfl ⟨rfl, by decide, Nat.le_of_ble_eq_true rfl, Nat.le_of_ble_eq_true rfl⟩ rfl (wcI_mono k (fun r1 I1 J1 k => ?_))
    refine wi_eq (tgt := 266) rfl rfl (fun h => ?_) (fun h => ?_)
    · have k := k.1 h
      refine wp_seg (C := gC214) (pc1 := 232) (Lo1 := [some (.ref 43), some (.int l1), some (.int l2), some (.int l3), some (.int l4), some (.int (l5 + (1 : Int32)))]) (st1' := []) (w1 := (wv x I1 J1)) hC214 2 rfl ?_
      exact k
    · have k := k.2 h
      refine wp_seg (C := gC214) (pc1 := 252) (Lo1 := [some (.ref 43), some (.int l1), some (.int l2), some (.int l3), some (.int l4), some (.int l5)]) (st1' := [.int l1]) (w1 := (wv x I1 J1)) hC214 1 rfl ?_
      refine wi_ne (tgt := 260) rfl rfl (fun h => ?_) (fun h => ?_)
      · have k := k.1 h
        refine wp_seg (C := gC214) (pc1 := 265) (Lo1 := [some (.ref 43), some (.int l1), some (.int l2), some (.int l3), some (.int l4), some (.int l5)]) (st1' := [.int l4]) (w1 := (wv x I1 J1)) hC214 2 rfl ?_
        exact we_i rfl rfl k
      · have k := k.2 h
        refine wp_seg (C := gC214) (pc1 := 265) (Lo1 := [some (.ref 43), some (.int l1), some (.int l2), some (.int l3), some (.int l4), some (.int l5)]) (st1' := [.int (l5 - l4)]) (w1 := (wv x I1 J1)) hC214 3 rfl ?_
        exact we_i rfl rfl k
set_option maxRecDepth 20000 in
theorem v215_43_0 {S : Nat × (Nat → Int32)} {d : Nat} {x : mX} {I : rI0} {J : rJ0} {p1 : Int32} {Q : Int32 → rI0 → rJ0 → Prop} (k : (wcI S d 151 [.int p1, .int (0 : Int32), .int (1 : Int32)] x (mSet I 43 0 (0 : Int32)) J (fun r1 I1 J1 => ((r1 = (0 : Int32) → Q (-1 : Int32) I1 J1) ∧ (¬ r1 = (0 : Int32) → (wcI S d 202 [.ref 43, .long (J1 43 16), .long (J1 43 17)] x I1 J1 (fun r2 I2 J2 => ((p1 = (1 : Int32) → Q (I2 43 44) I2 J2) ∧ (¬ p1 = (1 : Int32) → (((I2 43 45) = (0 : Int32) → Q (0 : Int32) I2 J2) ∧ (¬ (I2 43 45) = (0 : Int32) → Q (1 : Int32) I2 J2))))))))))) : wp S (d + 1) 215 0 [some (.ref 43), some (.int p1)] [] (wv x I J) (rI x Q) := by
  refine wp_seg (C := gC215) (pc1 := 8) (Lo1 := [some (.ref 43), some (.int p1)]) (st1' := [.int (1 : Int32), .int (0 : Int32), .int p1]) (w1 := (wv x (mSet I 43 0 (0 : Int32)) J)) hC215 6 rfl ?_
  refine cs_I (mj := 151) (nn := 0) (as := [.int p1, .int (0 : Int32), .int (1 : Int32)]) (r := []) rfl rfl rfl ⟨rfl, by decide, Nat.le_of_ble_eq_true rfl, Nat.le_of_ble_eq_true rfl⟩ (by decide) (wcI_mono k (fun r1 I1 J1 k => ?_))
  refine wi_ne (tgt := 16) rfl rfl (fun h => ?_) (fun h => ?_)
  · have k := k.1 h
    refine wp_seg (C := gC215) (pc1 := 15) (Lo1 := [some (.ref 43), some (.int p1)]) (st1' := [.int (-1 : Int32)]) (w1 := (wv x I1 J1)) hC215 1 rfl ?_
    exact we_i rfl rfl k
  · have k := k.2 h
    refine wp_seg (C := gC215) (pc1 := 25) (Lo1 := [some (.ref 43), some (.int p1)]) (st1' := [.long (J1 43 17), .long (J1 43 16), .ref 43]) (w1 := (wv x I1 J1)) hC215 5 rfl ?_
    refine cv_I (mj := 202) (a := 43) (as := [.long (J1 43 16), .long (J1 43 17)]) (r := []) rfl rfl rfl ⟨rfl, by decide, Nat.le_of_ble_eq_true rfl, Nat.le_of_ble_eq_true rfl⟩ rfl (wcI_mono k (fun r2 I2 J2 k => ?_))
    refine wp_seg (C := gC215) (pc1 := 31) (Lo1 := [some (.ref 43), some (.int p1)]) (st1' := [.int (1 : Int32), .int p1]) (w1 := (wv x I2 J2)) hC215 3 rfl ?_
    refine wj_ne (tgt := 41) rfl rfl (fun h => ?_) (fun h => ?_)
    · have k := k.1 h
      refine wp_seg (C := gC215) (pc1 := 53) (Lo1 := [some (.ref 43), some (.int p1)]) (st1' := [.int (I2 43 44)]) (w1 := (wv x I2 J2)) hC215 3 rfl ?_
      exact we_i rfl rfl k
    · have k := k.2 h
      refine wp_seg (C := gC215) (pc1 := 45) (Lo1 := [some (.ref 43), some (.int p1)]) (st1' := [.int (I2 43 45)]) (w1 := (wv x I2 J2)) hC215 2 rfl ?_
      refine wi_eq (tgt := 52) rfl rfl (fun h => ?_) (fun h => ?_)
      · have k := k.1 h
        refine wp_seg (C := gC215) (pc1 := 53) (Lo1 := [some (.ref 43), some (.int p1)]) (st1' := [.int (0 : Int32)]) (w1 := (wv x I2 J2)) hC215 1 rfl ?_
        exact we_i rfl rfl k
      · have k := k.2 h
        refine wp_seg (C := gC215) (pc1 := 53) (Lo1 := [some (.ref 43), some (.int p1)]) (st1' := [.int (1 : Int32)]) (w1 := (wv x I2 J2)) hC215 2 rfl ?_
        exact we_i rfl rfl k
set_option maxRecDepth 20000 in
theorem v216_43_0 {S : Nat × (Nat → Int32)} {d : Nat} {x : mX} {I : rI0} {J : rJ0} {p1 : Int32} {p2 : Int32} {Q : Int32 → rI0 → rJ0 → Prop} (k : (((14 : Int32) < (p2 - p1) → Q (0 : Int32) (mSet I 43 47 (0 : Int32)) J) ∧ (¬ (14 : Int32) < (p2 - p1) → wp S (d + 1) 216 17 [some (.ref 43), some (.int p1), some (.int p2), some (.int p1), none, none] [] (wv x (mSet I 43 47 (0 : Int32)) J) (rI x Q)))) : wp S (d + 1) 216 0 [some (.ref 43), some (.int p1), some (.int p2), none, none, none] [] (wv x I J) (rI x Q) := by
  refine wp_seg (C := gC216) (pc1 := 10) (Lo1 := [some (.ref 43), some (.int p1), some (.int p2), none, none, none]) (st1' := [.int (14 : Int32), .int (p2 - p1)]) (w1 := (wv x (mSet I 43 47 (0 : Int32)) J)) hC216 7 rfl ?_
  refine wj_le (tgt := 15) rfl rfl (fun h => ?_) (fun h => ?_)
  · have k := k.1 h
    refine wp_seg (C := gC216) (pc1 := 14) (Lo1 := [some (.ref 43), some (.int p1), some (.int p2), none, none, none]) (st1' := [.int (0 : Int32)]) (w1 := (wv x (mSet I 43 47 (0 : Int32)) J)) hC216 1 rfl ?_
    exact we_z rfl rfl (Or.inl rfl) k
  · have k := k.2 h
    refine wp_seg (C := gC216) (pc1 := 17) (Lo1 := [some (.ref 43), some (.int p1), some (.int p2), some (.int p1), none, none]) (st1' := []) (w1 := (wv x (mSet I 43 47 (0 : Int32)) J)) hC216 2 rfl ?_
    exact k
set_option maxRecDepth 20000 in
theorem v216_43_17 {S : Nat × (Nat → Int32)} {d : Nat} {x : mX} {I : rI0} {J : rJ0} {l1 : Int32} {l2 : Int32} {l3 : Int32} {Q : Int32 → rI0 → rJ0 → Prop} (k : ((l3 < l2 → (wcI S d 155 [.ref 43, .int l3] x I J (fun r1 I1 J1 => (wcI S d 183 [.ref 43, .int r1] x I1 J1 (fun r2 I2 J2 => ((r2 = (0 : Int32) → Q (0 : Int32) I2 J2) ∧ (¬ r2 = (0 : Int32) → wp S (d + 1) 216 43 [some (.ref 43), some (.int l1), some (.int l2), some (.int l3), some (.int r1), some (.int (0 : Int32))] [] (wv x I2 J2) (rI x Q)))))))) ∧ (¬ l3 < l2 → Q (1 : Int32) I J))) : wp S (d + 1) 216 17 [some (.ref 43), some (.int l1), some (.int l2), some (.int l3), none, none] [] (wv x I J) (rI x Q) := by
  refine wp_seg (C := gC216) (pc1 := 19) (Lo1 := [some (.ref 43), some (.int l1), some (.int l2), some (.int l3), none, none]) (st1' := [.int l2, .int l3]) (w1 := (wv x I J)) hC216 2 rfl ?_
  refine wj_ge (tgt := 99) rfl rfl (fun h => ?_) (fun h => ?_)
  · have k := k.1 h
    refine wp_seg (C := gC216) (pc1 := 24) (Lo1 := [some (.ref 43), some (.int l1), some (.int l2), some (.int l3), none, none]) (st1' := [.int l3, .ref 43]) (w1 := (wv x I J)) hC216 2 rfl ?_
    refine cv_I (mj := 155) (a := 43) (as := [.int l3]) (r := []) rfl rfl rfl ⟨rfl, by decide, Nat.le_of_ble_eq_true rfl, Nat.le_of_ble_eq_true rfl⟩ rfl (wcI_mono k (fun r1 I1 J1 k => ?_))
    refine wp_seg (C := gC216) (pc1 := 32) (Lo1 := [some (.ref 43), some (.int l1), some (.int l2), some (.int l3), some (.int r1), none]) (st1' := [.int r1, .ref 43]) (w1 := (wv x I1 J1)) hC216 3 rfl ?_
    refine cv_I (mj := 183) (a := 43) (as := [.int r1]) (r := []) rfl rfl rfl ⟨rfl, by decide, Nat.le_of_ble_eq_true rfl, Nat.le_of_ble_eq_true rfl⟩ rfl (wcI_mono k (fun r2 I2 J2 k => ?_))
    refine wi_ne (tgt := 40) rfl rfl (fun h => ?_) (fun h => ?_)
    · have k := k.1 h
      refine wp_seg (C := gC216) (pc1 := 39) (Lo1 := [some (.ref 43), some (.int l1), some (.int l2), some (.int l3), some (.int r1), none]) (st1' := [.int (0 : Int32)]) (w1 := (wv x I2 J2)) hC216 1 rfl ?_
      exact we_z rfl rfl (Or.inl rfl) k
    · have k := k.2 h
      refine wp_seg (C := gC216) (pc1 := 43) (Lo1 := [some (.ref 43), some (.int l1), some (.int l2), some (.int l3), some (.int r1), some (.int (0 : Int32))]) (st1' := []) (w1 := (wv x I2 J2)) hC216 2 rfl ?_
      exact k
  · have k := k.2 h
    refine wp_seg (C := gC216) (pc1 := 100) (Lo1 := [some (.ref 43), some (.int l1), some (.int l2), some (.int l3), none, none]) (st1' := [.int (1 : Int32)]) (w1 := (wv x I J)) hC216 1 rfl ?_
    exact we_z rfl rfl (Or.inr rfl) k
set_option maxRecDepth 20000 in
theorem v216_43_43 {S : Nat × (Nat → Int32)} {d : Nat} {x : mX} {I : rI0} {J : rJ0} {l1 : Int32} {l2 : Int32} {l3 : Int32} {l4 : Int32} {l5 : Int32} {Q : Int32 → rI0 → rJ0 → Prop} (k : ((l5 < (I 43 47) → (¬ mOut l5 14 ∧ (((I 56 l5.toNatClampNeg) = l4 → Q (0 : Int32) I J) ∧ (¬ (I 56 l5.toNatClampNeg) = l4 → wp S (d + 1) 216 43 [some (.ref 43), some (.int l1), some (.int l2), some (.int l3), some (.int l4), some (.int (l5 + (1 : Int32)))] [] (wv x I J) (rI x Q))))) ∧ (¬ l5 < (I 43 47) → (¬ mOut (I 43 47) 14 ∧ wp S (d + 1) 216 17 [some (.ref 43), some (.int l1), some (.int l2), some (.int (l3 + (1 : Int32))), none, none] [] (wv x (mSet (mSet I 56 ((I 43 47).toNatClampNeg) l4) 43 47 ((I 43 47) + (1 : Int32))) J) (rI x Q))))) : wp S (d + 1) 216 43 [some (.ref 43), some (.int l1), some (.int l2), some (.int l3), some (.int l4), some (.int l5)] [] (wv x I J) (rI x Q) := by
  refine wp_seg (C := gC216) (pc1 := 49) (Lo1 := [some (.ref 43), some (.int l1), some (.int l2), some (.int l3), some (.int l4), some (.int l5)]) (st1' := [.int (I 43 47), .int l5]) (w1 := (wv x I J)) hC216 3 rfl ?_
  refine wj_ge (tgt := 72) rfl rfl (fun h => ?_) (fun h => ?_)
  · have k := k.1 h
    refine wp_seg (C := gC216) (pc1 := 58) (Lo1 := [some (.ref 43), some (.int l1), some (.int l2), some (.int l3), some (.int l4), some (.int l5)]) (st1' := [.int l5, .ref 56]) (w1 := (wv x I J)) hC216 3 rfl ?_
    refine wa_i (n := 14) rfl (by decide) rfl k.1 ?_
    have k := k.2
    refine wp_seg (C := gC216) (pc1 := 61) (Lo1 := [some (.ref 43), some (.int l1), some (.int l2), some (.int l3), some (.int l4), some (.int l5)]) (st1' := [.int l4, .int (I 56 l5.toNatClampNeg)]) (w1 := (wv x I J)) hC216 1 rfl ?_
    refine wj_ne (tgt := 66) rfl rfl (fun h => ?_) (fun h => ?_)
    · have k := k.1 h
      refine wp_seg (C := gC216) (pc1 := 65) (Lo1 := [some (.ref 43), some (.int l1), some (.int l2), some (.int l3), some (.int l4), some (.int l5)]) (st1' := [.int (0 : Int32)]) (w1 := (wv x I J)) hC216 1 rfl ?_
      exact we_z rfl rfl (Or.inl rfl) k
    · have k := k.2 h
      refine wp_seg (C := gC216) (pc1 := 43) (Lo1 := [some (.ref 43), some (.int l1), some (.int l2), some (.int l3), some (.int l4), some (.int (l5 + (1 : Int32)))]) (st1' := []) (w1 := (wv x I J)) hC216 2 rfl ?_
      exact k
  · have k := k.2 h
    refine wp_seg (C := gC216) (pc1 := 82) (Lo1 := [some (.ref 43), some (.int l1), some (.int l2), some (.int l3), some (.int l4), some (.int l5)]) (st1' := [.int l4, .int (I 43 47), .ref 56]) (w1 := (wv x I J)) hC216 5 rfl ?_
    refine ws_i (n := 14) rfl rfl k.1 ?_
    have k := k.2
    refine wp_seg (C := gC216) (pc1 := 17) (Lo1 := [some (.ref 43), some (.int l1), some (.int l2), some (.int (l3 + (1 : Int32))), some (.int l4), some (.int l5)]) (st1' := []) (w1 := (wv x (mSet (mSet I 56 ((I 43 47).toNatClampNeg) l4) 43 47 ((I 43 47) + (1 : Int32))) J)) hC216 8 rfl ?_
    exact wp_sub (Lo := [some (.ref 43), some (.int l1), some (.int l2), some (.int (l3 + (1 : Int32))), none, none]) (And.intro rfl (And.intro rfl (And.intro rfl (And.intro rfl (trivial))))) k
set_option maxRecDepth 20000 in
theorem v217_43_0 {S : Nat × (Nat → Int32)} {d : Nat} {x : mX} {I : rI0} {J : rJ0} {Q : Int32 → rI0 → rJ0 → Prop} (k : (wcV S d 150 [.ref 43, .int (940 : Int32)] x I J (fun I1 J1 => (wcI S d 151 [.int (I1 43 3), .int (1 : Int32), .int (8 : Int32)] x I1 J1 (fun r2 I2 J2 => ((r2 = (0 : Int32) → Q (0 : Int32) I2 J2) ∧ (¬ r2 = (0 : Int32) → (wcI S d 216 [.ref 43, .int (0 : Int32), .int (I2 43 3)] x I2 J2 (fun r3 I3 J3 => ((r3 = (0 : Int32) → Q (0 : Int32) I3 J3) ∧ (¬ r3 = (0 : Int32) → Q (1 : Int32) I3 J3))))))))))) : wp S (d + 1) 217 0 [some (.ref 43)] [] (wv x I J) (rI x Q) := by
  refine wp_seg (C := gC217) (pc1 := 4) (Lo1 := [some (.ref 43)]) (st1' := [.int (940 : Int32), .ref 43]) (w1 := (wv x I J)) hC217 2 rfl ?_
  refine cv_V (mj := 150) (a := 43) (as := [.int (940 : Int32)]) (r := []) rfl rfl rfl ⟨rfl, by decide, Nat.le_of_ble_eq_true rfl, Nat.le_of_ble_eq_true rfl⟩ rfl (wcV_mono k (fun I1 J1 k => ?_))
  refine wp_seg (C := gC217) (pc1 := 14) (Lo1 := [some (.ref 43)]) (st1' := [.int (8 : Int32), .int (1 : Int32), .int (I1 43 3)]) (w1 := (wv x I1 J1)) hC217 4 rfl ?_
  refine cs_I (mj := 151) (nn := 0) (as := [.int (I1 43 3), .int (1 : Int32), .int (8 : Int32)]) (r := []) rfl rfl rfl ⟨rfl, by decide, Nat.le_of_ble_eq_true rfl, Nat.le_of_ble_eq_true rfl⟩ (by decide) (wcI_mono k (fun r2 I2 J2 k => ?_))
  refine wi_eq (tgt := 36) rfl rfl (fun h => ?_) (fun h => ?_)
  · have k := k.1 h
    refine wp_seg (C := gC217) (pc1 := 37) (Lo1 := [some (.ref 43)]) (st1' := [.int (0 : Int32)]) (w1 := (wv x I2 J2)) hC217 1 rfl ?_
    exact we_z rfl rfl (Or.inl rfl) k
  · have k := k.2 h
    refine wp_seg (C := gC217) (pc1 := 26) (Lo1 := [some (.ref 43)]) (st1' := [.int (I2 43 3), .int (0 : Int32), .ref 43]) (w1 := (wv x I2 J2)) hC217 4 rfl ?_
    refine cv_I (mj := 216) (a := 43) (as := [.int (0 : Int32), .int (I2 43 3)]) (r := []) rfl rfl rfl ⟨rfl, by decide, Nat.le_of_ble_eq_true rfl, Nat.le_of_ble_eq_true rfl⟩ rfl (wcI_mono k (fun r3 I3 J3 k => ?_))
    refine wi_eq (tgt := 36) rfl rfl (fun h => ?_) (fun h => ?_)
    · have k := k.1 h
      refine wp_seg (C := gC217) (pc1 := 37) (Lo1 := [some (.ref 43)]) (st1' := [.int (0 : Int32)]) (w1 := (wv x I3 J3)) hC217 1 rfl ?_
      exact we_z rfl rfl (Or.inl rfl) k
    · have k := k.2 h
      refine wp_seg (C := gC217) (pc1 := 37) (Lo1 := [some (.ref 43)]) (st1' := [.int (1 : Int32)]) (w1 := (wv x I3 J3)) hC217 2 rfl ?_
      exact we_z rfl rfl (Or.inr rfl) k
set_option maxRecDepth 20000 in
theorem v218_43_0 {S : Nat × (Nat → Int32)} {d : Nat} {x : mX} {I : rI0} {J : rJ0} {p1 : Int32} {Q : Int64 → rI0 → rJ0 → Prop} (k : wp S (d + 1) 218 5 [some (.ref 43), some (.int p1), some (.long (0 : Int64)), none, some (.int (0 : Int32))] [] (wv x I J) (rJ x Q)) : wp S (d + 1) 218 0 [some (.ref 43), some (.int p1), none, none, none] [] (wv x I J) (rJ x Q) := by
  refine wp_seg (C := gC218) (pc1 := 5) (Lo1 := [some (.ref 43), some (.int p1), some (.long (0 : Int64)), none, some (.int (0 : Int32))]) (st1' := []) (w1 := (wv x I J)) hC218 4 rfl ?_
  exact k
set_option maxRecDepth 20000 in
theorem v218_43_5 {S : Nat × (Nat → Int32)} {d : Nat} {x : mX} {I : rI0} {J : rJ0} {l1 : Int32} {l2 : Int64} {l4 : Int32} {Q : Int64 → rI0 → rJ0 → Prop} (k : ((l4 < (I 43 47) → (wcI S d 152 [.int l1, .int l4] x I J (fun r1 I1 J1 => ((r1 = (0 : Int32) → wp S (d + 1) 218 5 [some (.ref 43), some (.int l1), some (.long (l2 ||| (0 : Int64))), none, some (.int (l4 + (1 : Int32)))] [] (wv x I1 J1) (rJ x Q)) ∧ (¬ r1 = (0 : Int32) → (¬ mOut l4 14 ∧ wp S (d + 1) 218 5 [some (.ref 43), some (.int l1), some (.long (l2 ||| ((1 : Int64) <<< ((I1 56 l4.toNatClampNeg).toInt64 &&& 63)))), none, some (.int (l4 + (1 : Int32)))] [] (wv x I1 J1) (rJ x Q))))))) ∧ (¬ l4 < (I 43 47) → Q l2 I J))) : wp S (d + 1) 218 5 [some (.ref 43), some (.int l1), some (.long l2), none, some (.int l4)] [] (wv x I J) (rJ x Q) := by
  refine wp_seg (C := gC218) (pc1 := 11) (Lo1 := [some (.ref 43), some (.int l1), some (.long l2), none, some (.int l4)]) (st1' := [.int (I 43 47), .int l4]) (w1 := (wv x I J)) hC218 3 rfl ?_
  refine wj_ge (tgt := 45) rfl rfl (fun h => ?_) (fun h => ?_)
  · have k := k.1 h
    refine wp_seg (C := gC218) (pc1 := 18) (Lo1 := [some (.ref 43), some (.int l1), some (.long l2), none, some (.int l4)]) (st1' := [.int l4, .int l1, .long l2]) (w1 := (wv x I J)) hC218 3 rfl ?_
    refine cs_I (mj := 152) (nn := 0) (as := [.int l1, .int l4]) (r := [.long l2]) rfl rfl rfl ⟨rfl, by decide, Nat.le_of_ble_eq_true rfl, Nat.le_of_ble_eq_true rfl⟩ (by decide) (wcI_mono k (fun r1 I1 J1 k => ?_))
    refine wi_eq (tgt := 36) rfl rfl (fun h => ?_) (fun h => ?_)
    · have k := k.1 h
      refine wp_seg (C := gC218) (pc1 := 42) (Lo1 := [some (.ref 43), some (.int l1), some (.long (l2 ||| (0 : Int64))), none, some (.int (l4 + (1 : Int32)))]) (st1' := []) (w1 := (wv x I1 J1)) hC218 4 rfl ?_
      refine wp_seg (C := gC218) (pc1 := 5) (Lo1 := [some (.ref 43), some (.int l1), some (.long (l2 ||| (0 : Int64))), none, some (.int (l4 + (1 : Int32)))]) (st1' := []) (w1 := (wv x I1 J1)) hC218 1 rfl ?_
      exact k
    · have k := k.2 h
      refine wp_seg (C := gC218) (pc1 := 31) (Lo1 := [some (.ref 43), some (.int l1), some (.long l2), none, some (.int l4)]) (st1' := [.int l4, .ref 56, .long (1 : Int64), .long l2]) (w1 := (wv x I1 J1)) hC218 4 rfl ?_
      refine wa_i (n := 14) rfl (by decide) rfl k.1 ?_
      have k := k.2
      refine wp_seg (C := gC218) (pc1 := 42) (Lo1 := [some (.ref 43), some (.int l1), some (.long (l2 ||| ((1 : Int64) <<< ((I1 56 l4.toNatClampNeg).toInt64 &&& 63)))), none, some (.int (l4 + (1 : Int32)))]) (st1' := []) (w1 := (wv x I1 J1)) hC218 5 rfl ?_
      refine wp_seg (C := gC218) (pc1 := 5) (Lo1 := [some (.ref 43), some (.int l1), some (.long (l2 ||| ((1 : Int64) <<< ((I1 56 l4.toNatClampNeg).toInt64 &&& 63)))), none, some (.int (l4 + (1 : Int32)))]) (st1' := []) (w1 := (wv x I1 J1)) hC218 1 rfl ?_
      exact k
  · have k := k.2 h
    refine wp_seg (C := gC218) (pc1 := 46) (Lo1 := [some (.ref 43), some (.int l1), some (.long l2), none, some (.int l4)]) (st1' := [.long l2]) (w1 := (wv x I J)) hC218 1 rfl ?_
    exact we_l rfl rfl k
set_option maxRecDepth 20000 in
theorem v219_43_0 {S : Nat × (Nat → Int32)} {d : Nat} {x : mX} {I : rI0} {J : rJ0} {Q : Int32 → rI0 → rJ0 → Prop} (k : (wcI S d 217 [.ref 43] x (mSet I 43 0 (0 : Int32)) J (fun r1 I1 J1 => ((r1 = (0 : Int32) → Q (-2 : Int32) I1 J1) ∧ (¬ r1 = (0 : Int32) → wp S (d + 1) 219 23 [some (.ref 43), some (.int (-1 : Int32)), some (.int (1000000000 : Int32)), some (.int (0 : Int32)), none, none] [] (wv x I1 J1) (rI x Q)))))) : wp S (d + 1) 219 0 [some (.ref 43), none, none, none, none, none] [] (wv x I J) (rI x Q) := by
  refine wp_seg (C := gC219) (pc1 := 6) (Lo1 := [some (.ref 43), none, none, none, none, none]) (st1' := [.ref 43]) (w1 := (wv x (mSet I 43 0 (0 : Int32)) J)) hC219 4 rfl ?_
  refine cv_I (mj := 217) (a := 43) (as := []) (r := []) rfl rfl rfl ⟨rfl, by decide, Nat.le_of_ble_eq_true rfl, Nat.le_of_ble_eq_true rfl⟩ rfl (wcI_mono k (fun r1 I1 J1 k => ?_))
  refine wi_ne (tgt := 15) rfl rfl (fun h => ?_) (fun h => ?_)
  · have k := k.1 h
    refine wp_seg (C := gC219) (pc1 := 14) (Lo1 := [some (.ref 43), none, none, none, none, none]) (st1' := [.int (-2 : Int32)]) (w1 := (wv x I1 J1)) hC219 1 rfl ?_
    exact we_i rfl rfl k
  · have k := k.2 h
    refine wp_seg (C := gC219) (pc1 := 21) (Lo1 := [some (.ref 43), some (.int (-1 : Int32)), some (.int (1000000000 : Int32)), none, none, none]) (st1' := []) (w1 := (wv x I1 J1)) hC219 4 rfl ?_
    refine wp_seg (C := gC219) (pc1 := 23) (Lo1 := [some (.ref 43), some (.int (-1 : Int32)), some (.int (1000000000 : Int32)), some (.int (0 : Int32)), none, none]) (st1' := []) (w1 := (wv x I1 J1)) hC219 2 rfl ?_
    exact k
set_option maxRecDepth 20000 in
theorem v219_43_23 {S : Nat × (Nat → Int32)} {d : Nat} {x : mX} {I : rI0} {J : rJ0} {l1 : Int32} {l2 : Int32} {l3 : Int32} {Q : Int32 → rI0 → rJ0 → Prop} (k : ((l3 < ((1 : Int32) <<< (I 43 47 &&& 31)) → wp S (d + 1) 219 39 [some (.ref 43), some (.int l1), some (.int l2), some (.int l3), some (.int (0 : Int32)), some (.int (0 : Int32))] [] (wv x I J) (rI x Q)) ∧ (¬ l3 < ((1 : Int32) <<< (I 43 47 &&& 31)) → ((l1 < (0 : Int32) → Q (-1 : Int32) I J) ∧ (¬ l1 < (0 : Int32) → Q l2 (mSet I 43 48 l1) J))))) : wp S (d + 1) 219 23 [some (.ref 43), some (.int l1), some (.int l2), some (.int l3), none, none] [] (wv x I J) (rI x Q) := by
  refine wp_seg (C := gC219) (pc1 := 30) (Lo1 := [some (.ref 43), some (.int l1), some (.int l2), some (.int l3), none, none]) (st1' := [.int ((1 : Int32) <<< (I 43 47 &&& 31)), .int l3]) (w1 := (wv x I J)) hC219 5 rfl ?_
  refine wj_ge (tgt := 151) rfl rfl (fun h => ?_) (fun h => ?_)
  · have k := k.1 h
    refine wp_seg (C := gC219) (pc1 := 39) (Lo1 := [some (.ref 43), some (.int l1), some (.int l2), some (.int l3), some (.int (0 : Int32)), some (.int (0 : Int32))]) (st1' := []) (w1 := (wv x I J)) hC219 4 rfl ?_
    exact k
  · have k := k.2 h
    refine wp_seg (C := gC219) (pc1 := 152) (Lo1 := [some (.ref 43), some (.int l1), some (.int l2), some (.int l3), none, none]) (st1' := [.int l1]) (w1 := (wv x I J)) hC219 1 rfl ?_
    refine wi_ge (tgt := 157) rfl rfl (fun h => ?_) (fun h => ?_)
    · have k := k.1 h
      refine wp_seg (C := gC219) (pc1 := 156) (Lo1 := [some (.ref 43), some (.int l1), some (.int l2), some (.int l3), none, none]) (st1' := [.int (-1 : Int32)]) (w1 := (wv x I J)) hC219 1 rfl ?_
      exact we_i rfl rfl k
    · have k := k.2 h
      refine wp_seg (C := gC219) (pc1 := 163) (Lo1 := [some (.ref 43), some (.int l1), some (.int l2), some (.int l3), none, none]) (st1' := [.int l2]) (w1 := (wv x (mSet I 43 48 l1) J)) hC219 4 rfl ?_
      exact we_i rfl rfl k
set_option maxRecDepth 20000 in
theorem v219_43_39 {S : Nat × (Nat → Int32)} {d : Nat} {x : mX} {I : rI0} {J : rJ0} {l1 : Int32} {l2 : Int32} {l3 : Int32} {l4 : Int32} {l5 : Int32} {Q : Int32 → rI0 → rJ0 → Prop} (k : ((l5 < (I 43 47) → (wcI S d 152 [.int l3, .int l5] x I J (fun r1 I1 J1 => ((r1 = (0 : Int32) → wp S (d + 1) 219 39 [some (.ref 43), some (.int l1), some (.int l2), some (.int l3), some (.int (l4 + (0 : Int32))), some (.int (l5 + (1 : Int32)))] [] (wv x I1 J1) (rI x Q)) ∧ (¬ r1 = (0 : Int32) → (¬ mOut l5 14 ∧ (wcI S d 188 [.ref 43, .int (I1 56 l5.toNatClampNeg)] x I1 J1 (fun r2 I2 J2 => wp S (d + 1) 219 39 [some (.ref 43), some (.int l1), some (.int l2), some (.int l3), some (.int (l4 + r2)), some (.int (l5 + (1 : Int32)))] [] (wv x I2 J2) (rI x Q))))))))) ∧ (¬ l5 < (I 43 47) → ((l2 < l4 → wp S (d + 1) 219 23 [some (.ref 43), some (.int l1), some (.int l2), some (.int (l3 + (1 : Int32))), none, none] [] (wv x I J) (rI x Q)) ∧ (¬ l2 < l4 → ((l4 = l2 → (wcI S d 154 [.long l3.toInt64] x I J (fun r3 I3 J3 => (wcI S d 154 [.long l1.toInt64] x I3 J3 (fun r4 I4 J4 => ((r3 < r4 → wp S (d + 1) 219 111 [some (.ref 43), some (.int l1), some (.int l2), some (.int l3), some (.int l4), some (.int l5)] [] (wv x I4 J4) (rI x Q)) ∧ (¬ r3 < r4 → wp S (d + 1) 219 23 [some (.ref 43), some (.int l1), some (.int l2), some (.int (l3 + (1 : Int32))), none, none] [] (wv x I4 J4) (rI x Q)))))))) ∧ (¬ l4 = l2 → wp S (d + 1) 219 111 [some (.ref 43), some (.int l1), some (.int l2), some (.int l3), some (.int l4), some (.int l5)] [] (wv x I J) (rI x Q)))))))) : wp S (d + 1) 219 39 [some (.ref 43), some (.int l1), some (.int l2), some (.int l3), some (.int l4), some (.int l5)] [] (wv x I J) (rI x Q) := by
  refine wp_seg (C := gC219) (pc1 := 45) (Lo1 := [some (.ref 43), some (.int l1), some (.int l2), some (.int l3), some (.int l4), some (.int l5)]) (st1' := [.int (I 43 47), .int l5]) (w1 := (wv x I J)) hC219 3 rfl ?_
  refine wj_ge (tgt := 83) rfl rfl (fun h => ?_) (fun h => ?_)
  · have k := k.1 h
    refine wp_seg (C := gC219) (pc1 := 53) (Lo1 := [some (.ref 43), some (.int l1), some (.int l2), some (.int l3), some (.int l4), some (.int l5)]) (st1' := [.int l5, .int l3, .int l4]) (w1 := (wv x I J)) hC219 3 rfl ?_
    refine cs_I (mj := 152) (nn := 0) (as := [.int l3, .int l5]) (r := [.int l4]) rfl rfl rfl ⟨rfl, by decide, Nat.le_of_ble_eq_true rfl, Nat.le_of_ble_eq_true rfl⟩ (by decide) (wcI_mono k (fun r1 I1 J1 k => ?_))
    refine wi_eq (tgt := 73) rfl rfl (fun h => ?_) (fun h => ?_)
    · have k := k.1 h
      refine wp_seg (C := gC219) (pc1 := 80) (Lo1 := [some (.ref 43), some (.int l1), some (.int l2), some (.int l3), some (.int (l4 + (0 : Int32))), some (.int (l5 + (1 : Int32)))]) (st1' := []) (w1 := (wv x I1 J1)) hC219 4 rfl ?_
      refine wp_seg (C := gC219) (pc1 := 39) (Lo1 := [some (.ref 43), some (.int l1), some (.int l2), some (.int l3), some (.int (l4 + (0 : Int32))), some (.int (l5 + (1 : Int32)))]) (st1' := []) (w1 := (wv x I1 J1)) hC219 1 rfl ?_
      exact k
    · have k := k.2 h
      refine wp_seg (C := gC219) (pc1 := 66) (Lo1 := [some (.ref 43), some (.int l1), some (.int l2), some (.int l3), some (.int l4), some (.int l5)]) (st1' := [.int l5, .ref 56, .ref 43, .int l4]) (w1 := (wv x I1 J1)) hC219 4 rfl ?_
      refine wa_i (n := 14) rfl (by decide) rfl k.1 ?_
      have k := k.2
      refine cv_I (mj := 188) (a := 43) (as := [.int (I1 56 l5.toNatClampNeg)]) (r := [.int l4]) rfl rfl rfl ⟨rfl, by decide, Nat.le_of_ble_eq_true rfl, Nat.le_of_ble_eq_true rfl⟩ rfl (wcI_mono k (fun r2 I2 J2 k => ?_))
      refine wp_seg (C := gC219) (pc1 := 80) (Lo1 := [some (.ref 43), some (.int l1), some (.int l2), some (.int l3), some (.int (l4 + r2)), some (.int (l5 + (1 : Int32)))]) (st1' := []) (w1 := (wv x I2 J2)) hC219 4 rfl ?_
      refine wp_seg (C := gC219) (pc1 := 39) (Lo1 := [some (.ref 43), some (.int l1), some (.int l2), some (.int l3), some (.int (l4 + r2)), some (.int (l5 + (1 : Int32)))]) (st1' := []) (w1 := (wv x I2 J2)) hC219 1 rfl ?_
      exact k
  · have k := k.2 h
    refine wp_seg (C := gC219) (pc1 := 86) (Lo1 := [some (.ref 43), some (.int l1), some (.int l2), some (.int l3), some (.int l4), some (.int l5)]) (st1' := [.int l2, .int l4]) (w1 := (wv x I J)) hC219 2 rfl ?_
    refine wj_gt (tgt := 145) rfl rfl (fun h => ?_) (fun h => ?_)
    · have k := k.1 h
      refine wp_seg (C := gC219) (pc1 := 23) (Lo1 := [some (.ref 43), some (.int l1), some (.int l2), some (.int (l3 + (1 : Int32))), some (.int l4), some (.int l5)]) (st1' := []) (w1 := (wv x I J)) hC219 2 rfl ?_
      exact wp_sub (Lo := [some (.ref 43), some (.int l1), some (.int l2), some (.int (l3 + (1 : Int32))), none, none]) (And.intro rfl (And.intro rfl (And.intro rfl (And.intro rfl (trivial))))) k
    · have k := k.2 h
      refine wp_seg (C := gC219) (pc1 := 92) (Lo1 := [some (.ref 43), some (.int l1), some (.int l2), some (.int l3), some (.int l4), some (.int l5)]) (st1' := [.int l2, .int l4]) (w1 := (wv x I J)) hC219 2 rfl ?_
      refine wj_ne (tgt := 111) rfl rfl (fun h => ?_) (fun h => ?_)
      · have k := k.1 h
        refine wp_seg (C := gC219) (pc1 := 97) (Lo1 := [some (.ref 43), some (.int l1), some (.int l2), some (.int l3), some (.int l4), some (.int l5)]) (st1' := [.long l3.toInt64]) (w1 := (wv x I J)) hC219 2 rfl ?_
        refine cs_I (mj := 154) (nn := 0) (as := [.long l3.toInt64]) (r := []) rfl rfl rfl ⟨rfl, by decide, Nat.le_of_ble_eq_true rfl, Nat.le_of_ble_eq_true rfl⟩ (by decide) (wcI_mono k (fun r3 I3 J3 k => ?_))
        refine wp_seg (C := gC219) (pc1 := 102) (Lo1 := [some (.ref 43), some (.int l1), some (.int l2), some (.int l3), some (.int l4), some (.int l5)]) (st1' := [.long l1.toInt64, .int r3]) (w1 := (wv x I3 J3)) hC219 2 rfl ?_
        refine cs_I (mj := 154) (nn := 0) (as := [.long l1.toInt64]) (r := [.int r3]) rfl rfl rfl ⟨rfl, by decide, Nat.le_of_ble_eq_true rfl, Nat.le_of_ble_eq_true rfl⟩ (by decide) (wcI_mono k (fun r4 I4 J4 k => ?_))
        refine wj_lt (tgt := 111) rfl rfl (fun h => ?_) (fun h => ?_)
        · have k := k.1 h
          exact k
        · have k := k.2 h
          refine wp_seg (C := gC219) (pc1 := 23) (Lo1 := [some (.ref 43), some (.int l1), some (.int l2), some (.int (l3 + (1 : Int32))), some (.int l4), some (.int l5)]) (st1' := []) (w1 := (wv x I4 J4)) hC219 3 rfl ?_
          exact wp_sub (Lo := [some (.ref 43), some (.int l1), some (.int l2), some (.int (l3 + (1 : Int32))), none, none]) (And.intro rfl (And.intro rfl (And.intro rfl (And.intro rfl (trivial))))) k
      · have k := k.2 h
        exact k
set_option maxRecDepth 20000 in
theorem v219_43_111 {S : Nat × (Nat → Int32)} {d : Nat} {x : mX} {I : rI0} {J : rJ0} {l1 : Int32} {l2 : Int32} {l3 : Int32} {l4 : Int32} {l5 : Int32} {Q : Int32 → rI0 → rJ0 → Prop} (k : (wcJ S d 218 [.ref 43, .int l3] x I J (fun r1 I1 J1 => (wcI S d 202 [.ref 43, .long ((J 43 16) ||| r1), .long (J1 43 17)] x I1 J1 (fun r2 I2 J2 => (((I2 43 45) = (0 : Int32) → wp S (d + 1) 219 23 [some (.ref 43), some (.int l1), some (.int l2), some (.int (l3 + (1 : Int32))), none, none] [] (wv x I2 J2) (rI x Q)) ∧ (¬ (I2 43 45) = (0 : Int32) → wp S (d + 1) 219 23 [some (.ref 43), some (.int l3), some (.int l4), some (.int (l3 + (1 : Int32))), none, none] [] (wv x I2 J2) (rI x Q)))))))) : wp S (d + 1) 219 111 [some (.ref 43), some (.int l1), some (.int l2), some (.int l3), some (.int l4), some (.int l5)] [] (wv x I J) (rI x Q) := by
  refine wp_seg (C := gC219) (pc1 := 118) (Lo1 := [some (.ref 43), some (.int l1), some (.int l2), some (.int l3), some (.int l4), some (.int l5)]) (st1' := [.int l3, .ref 43, .long (J 43 16), .ref 43]) (w1 := (wv x I J)) hC219 5 rfl ?_
  refine cv_J (mj := 218) (a := 43) (as := [.int l3]) (r := [.long (J 43 16), .ref 43]) rfl rfl rfl ⟨rfl, by decide, Nat.le_of_ble_eq_true rfl, Nat.le_of_ble_eq_true rfl⟩ rfl (wcJ_mono k (fun r1 I1 J1 k => ?_))
  refine wp_seg (C := gC219) (pc1 := 126) (Lo1 := [some (.ref 43), some (.int l1), some (.int l2), some (.int l3), some (.int l4), some (.int l5)]) (st1' := [.long (J1 43 17), .long ((J 43 16) ||| r1), .ref 43]) (w1 := (wv x I1 J1)) hC219 3 rfl ?_
  refine cv_I (mj := 202) (a := 43) (as := [.long ((J 43 16) ||| r1), .long (J1 43 17)]) (r := []) rfl rfl rfl ⟨rfl, by decide, Nat.le_of_ble_eq_true rfl, Nat.le_of_ble_eq_true rfl⟩ rfl (wcI_mono k (fun r2 I2 J2 k => ?_))
  refine wp_seg (C := gC219) (pc1 := 134) (Lo1 := [some (.ref 43), some (.int l1), some (.int l2), some (.int l3), some (.int l4), some (.int l5)]) (st1' := [.int (I2 43 45)]) (w1 := (wv x I2 J2)) hC219 3 rfl ?_
  refine wi_ne (tgt := 140) rfl rfl (fun h => ?_) (fun h => ?_)
  · have k := k.1 h
    refine wp_seg (C := gC219) (pc1 := 23) (Lo1 := [some (.ref 43), some (.int l1), some (.int l2), some (.int (l3 + (1 : Int32))), some (.int l4), some (.int l5)]) (st1' := []) (w1 := (wv x I2 J2)) hC219 3 rfl ?_
    exact wp_sub (Lo := [some (.ref 43), some (.int l1), some (.int l2), some (.int (l3 + (1 : Int32))), none, none]) (And.intro rfl (And.intro rfl (And.intro rfl (And.intro rfl (trivial))))) k
  · have k := k.2 h
    refine wp_seg (C := gC219) (pc1 := 145) (Lo1 := [some (.ref 43), some (.int l3), some (.int l4), some (.int l3), some (.int l4), some (.int l5)]) (st1' := []) (w1 := (wv x I2 J2)) hC219 4 rfl ?_
    refine wp_seg (C := gC219) (pc1 := 23) (Lo1 := [some (.ref 43), some (.int l3), some (.int l4), some (.int (l3 + (1 : Int32))), some (.int l4), some (.int l5)]) (st1' := []) (w1 := (wv x I2 J2)) hC219 2 rfl ?_
    exact wp_sub (Lo := [some (.ref 43), some (.int l3), some (.int l4), some (.int (l3 + (1 : Int32))), none, none]) (And.intro rfl (And.intro rfl (And.intro rfl (And.intro rfl (trivial))))) k
set_option maxRecDepth 20000 in
theorem v220_43_0 {S : Nat × (Nat → Int32)} {d : Nat} {x : mX} {I : rI0} {J : rJ0} {Q : Int32 → rI0 → rJ0 → Prop} (k : Q (I 43 48) (mSet I 43 0 (0 : Int32)) J) : wp S d 220 0 [some (.ref 43)] [] (wv x I J) (rI x Q) := by
  refine wp_seg (C := gC220) (pc1 := 9) (Lo1 := [some (.ref 43)]) (st1' := [.int (I 43 48)]) (w1 := (wv x (mSet I 43 0 (0 : Int32)) J)) hC220 5 rfl ?_
  exact we_i rfl rfl k
set_option maxRecDepth 20000 in
theorem v221_43_0 {S : Nat × (Nat → Int32)} {d : Nat} {x : mX} {I : rI0} {J : rJ0} {Q : Int32 → rI0 → rJ0 → Prop} (k : (wcI S d 217 [.ref 43] x (mSet I 43 0 (0 : Int32)) J (fun r1 I1 J1 => ((r1 = (0 : Int32) → Q (-2 : Int32) I1 J1) ∧ (¬ r1 = (0 : Int32) → wp S (d + 1) 221 19 [some (.ref 43), some (.int (-1 : Int32)), some (.int (0 : Int32))] [] (wv x I1 J1) (rI x Q)))))) : wp S (d + 1) 221 0 [some (.ref 43), none, none] [] (wv x I J) (rI x Q) := by
  refine wp_seg (C := gC221) (pc1 := 6) (Lo1 := [some (.ref 43), none, none]) (st1' := [.ref 43]) (w1 := (wv x (mSet I 43 0 (0 : Int32)) J)) hC221 4 rfl ?_
  refine cv_I (mj := 217) (a := 43) (as := []) (r := []) rfl rfl rfl ⟨rfl, by decide, Nat.le_of_ble_eq_true rfl, Nat.le_of_ble_eq_true rfl⟩ rfl (wcI_mono k (fun r1 I1 J1 k => ?_))
  refine wi_ne (tgt := 15) rfl rfl (fun h => ?_) (fun h => ?_)
  · have k := k.1 h
    refine wp_seg (C := gC221) (pc1 := 14) (Lo1 := [some (.ref 43), none, none]) (st1' := [.int (-2 : Int32)]) (w1 := (wv x I1 J1)) hC221 1 rfl ?_
    exact we_i rfl rfl k
  · have k := k.2 h
    refine wp_seg (C := gC221) (pc1 := 19) (Lo1 := [some (.ref 43), some (.int (-1 : Int32)), some (.int (0 : Int32))]) (st1' := []) (w1 := (wv x I1 J1)) hC221 4 rfl ?_
    exact k
set_option maxRecDepth 20000 in
theorem v221_43_19 {S : Nat × (Nat → Int32)} {d : Nat} {x : mX} {I : rI0} {J : rJ0} {l1 : Int32} {l2 : Int32} {Q : Int32 → rI0 → rJ0 → Prop} (k : ((l2 < ((1 : Int32) <<< (I 43 47 &&& 31)) → ((l1 < (0 : Int32) → wp S (d + 1) 221 49 [some (.ref 43), some (.int l1), some (.int l2)] [] (wv x I J) (rI x Q)) ∧ (¬ l1 < (0 : Int32) → (wcI S d 154 [.long l2.toInt64] x I J (fun r1 I1 J1 => (wcI S d 154 [.long l1.toInt64] x I1 J1 (fun r2 I2 J2 => ((r1 < r2 → wp S (d + 1) 221 49 [some (.ref 43), some (.int l1), some (.int l2)] [] (wv x I2 J2) (rI x Q)) ∧ (¬ r1 < r2 → wp S (d + 1) 221 19 [some (.ref 43), some (.int l1), some (.int (l2 + (1 : Int32)))] [] (wv x I2 J2) (rI x Q)))))))))) ∧ (¬ l2 < ((1 : Int32) <<< (I 43 47 &&& 31)) → Q l1 I J))) : wp S (d + 1) 221 19 [some (.ref 43), some (.int l1), some (.int l2)] [] (wv x I J) (rI x Q) := by
  refine wp_seg (C := gC221) (pc1 := 26) (Lo1 := [some (.ref 43), some (.int l1), some (.int l2)]) (st1' := [.int ((1 : Int32) <<< (I 43 47 &&& 31)), .int l2]) (w1 := (wv x I J)) hC221 5 rfl ?_
  refine wj_ge (tgt := 83) rfl rfl (fun h => ?_) (fun h => ?_)
  · have k := k.1 h
    refine wp_seg (C := gC221) (pc1 := 30) (Lo1 := [some (.ref 43), some (.int l1), some (.int l2)]) (st1' := [.int l1]) (w1 := (wv x I J)) hC221 1 rfl ?_
    refine wi_lt (tgt := 49) rfl rfl (fun h => ?_) (fun h => ?_)
    · have k := k.1 h
      exact k
    · have k := k.2 h
      refine wp_seg (C := gC221) (pc1 := 35) (Lo1 := [some (.ref 43), some (.int l1), some (.int l2)]) (st1' := [.long l2.toInt64]) (w1 := (wv x I J)) hC221 2 rfl ?_
      refine cs_I (mj := 154) (nn := 0) (as := [.long l2.toInt64]) (r := []) rfl rfl rfl ⟨rfl, by decide, Nat.le_of_ble_eq_true rfl, Nat.le_of_ble_eq_true rfl⟩ (by decide) (wcI_mono k (fun r1 I1 J1 k => ?_))
      refine wp_seg (C := gC221) (pc1 := 40) (Lo1 := [some (.ref 43), some (.int l1), some (.int l2)]) (st1' := [.long l1.toInt64, .int r1]) (w1 := (wv x I1 J1)) hC221 2 rfl ?_
      refine cs_I (mj := 154) (nn := 0) (as := [.long l1.toInt64]) (r := [.int r1]) rfl rfl rfl ⟨rfl, by decide, Nat.le_of_ble_eq_true rfl, Nat.le_of_ble_eq_true rfl⟩ (by decide) (wcI_mono k (fun r2 I2 J2 k => ?_))
      refine wj_lt (tgt := 49) rfl rfl (fun h => ?_) (fun h => ?_)
      · have k := k.1 h
        exact k
      · have k := k.2 h
        refine wp_seg (C := gC221) (pc1 := 19) (Lo1 := [some (.ref 43), some (.int l1), some (.int (l2 + (1 : Int32)))]) (st1' := []) (w1 := (wv x I2 J2)) hC221 3 rfl ?_
        exact k
  · have k := k.2 h
    refine wp_seg (C := gC221) (pc1 := 84) (Lo1 := [some (.ref 43), some (.int l1), some (.int l2)]) (st1' := [.int l1]) (w1 := (wv x I J)) hC221 1 rfl ?_
    exact we_i rfl rfl k
set_option maxRecDepth 20000 in
theorem v221_43_49 {S : Nat × (Nat → Int32)} {d : Nat} {x : mX} {I : rI0} {J : rJ0} {l1 : Int32} {l2 : Int32} {Q : Int32 → rI0 → rJ0 → Prop} (k : (wcJ S d 218 [.ref 43, .int l2] x I J (fun r1 I1 J1 => (wcI S d 202 [.ref 43, .long (J 43 16), .long ((J 43 17) ||| r1)] x I1 J1 (fun r2 I2 J2 => (((I2 43 45) = (0 : Int32) → wp S (d + 1) 221 19 [some (.ref 43), some (.int l2), some (.int (l2 + (1 : Int32)))] [] (wv x I2 J2) (rI x Q)) ∧ (¬ (I2 43 45) = (0 : Int32) → wp S (d + 1) 221 19 [some (.ref 43), some (.int l1), some (.int (l2 + (1 : Int32)))] [] (wv x I2 J2) (rI x Q)))))))) : wp S (d + 1) 221 49 [some (.ref 43), some (.int l1), some (.int l2)] [] (wv x I J) (rI x Q) := by
  refine wp_seg (C := gC221) (pc1 := 60) (Lo1 := [some (.ref 43), some (.int l1), some (.int l2)]) (st1' := [.int l2, .ref 43, .long (J 43 17), .long (J 43 16), .ref 43]) (w1 := (wv x I J)) hC221 7 rfl ?_
  refine cv_J (mj := 218) (a := 43) (as := [.int l2]) (r := [.long (J 43 17), .long (J 43 16), .ref 43]) rfl rfl rfl ⟨rfl, by decide, Nat.le_of_ble_eq_true rfl, Nat.le_of_ble_eq_true rfl⟩ rfl (wcJ_mono k (fun r1 I1 J1 k => ?_))
  refine wp_seg (C := gC221) (pc1 := 64) (Lo1 := [some (.ref 43), some (.int l1), some (.int l2)]) (st1' := [.long ((J 43 17) ||| r1), .long (J 43 16), .ref 43]) (w1 := (wv x I1 J1)) hC221 1 rfl ?_
  refine cv_I (mj := 202) (a := 43) (as := [.long (J 43 16), .long ((J 43 17) ||| r1)]) (r := []) rfl rfl rfl ⟨rfl, by decide, Nat.le_of_ble_eq_true rfl, Nat.le_of_ble_eq_true rfl⟩ rfl (wcI_mono k (fun r2 I2 J2 k => ?_))
  refine wp_seg (C := gC221) (pc1 := 72) (Lo1 := [some (.ref 43), some (.int l1), some (.int l2)]) (st1' := [.int (I2 43 45)]) (w1 := (wv x I2 J2)) hC221 3 rfl ?_
  refine wi_ne (tgt := 77) rfl rfl (fun h => ?_) (fun h => ?_)
  · have k := k.1 h
    refine wp_seg (C := gC221) (pc1 := 80) (Lo1 := [some (.ref 43), some (.int l2), some (.int (l2 + (1 : Int32)))]) (st1' := []) (w1 := (wv x I2 J2)) hC221 3 rfl ?_
    refine wp_seg (C := gC221) (pc1 := 19) (Lo1 := [some (.ref 43), some (.int l2), some (.int (l2 + (1 : Int32)))]) (st1' := []) (w1 := (wv x I2 J2)) hC221 1 rfl ?_
    exact k
  · have k := k.2 h
    refine wp_seg (C := gC221) (pc1 := 19) (Lo1 := [some (.ref 43), some (.int l1), some (.int (l2 + (1 : Int32)))]) (st1' := []) (w1 := (wv x I2 J2)) hC221 2 rfl ?_
    exact k
set_option maxRecDepth 20000 in
theorem v222_43_0 {S : Nat × (Nat → Int32)} {d : Nat} {x : mX} {I : rI0} {J : rJ0} {p1 : Int32} {Q : Int32 → rI0 → rJ0 → Prop} (k : (wcI S d 217 [.ref 43] x (mSet I 43 0 (0 : Int32)) J (fun r1 I1 J1 => ((r1 = (0 : Int32) → Q (-2 : Int32) I1 J1) ∧ (¬ r1 = (0 : Int32) → ((p1 < (-1 : Int32) → Q (-1 : Int32) I1 J1) ∧ (¬ p1 < (-1 : Int32) → wp S (d + 1) 222 26 [some (.ref 43), some (.int p1), some (.int (0 : Int32)), some (.int (0 : Int32)), none, none] [] (wv x I1 J1) (rI x Q)))))))) : wp S (d + 1) 222 0 [some (.ref 43), some (.int p1), none, none, none, none] [] (wv x I J) (rI x Q) := by
  refine wp_seg (C := gC222) (pc1 := 6) (Lo1 := [some (.ref 43), some (.int p1), none, none, none, none]) (st1' := [.ref 43]) (w1 := (wv x (mSet I 43 0 (0 : Int32)) J)) hC222 4 rfl ?_
  refine cv_I (mj := 217) (a := 43) (as := []) (r := []) rfl rfl rfl ⟨rfl, by decide, Nat.le_of_ble_eq_true rfl, Nat.le_of_ble_eq_true rfl⟩ rfl (wcI_mono k (fun r1 I1 J1 k => ?_))
  refine wi_ne (tgt := 15) rfl rfl (fun h => ?_) (fun h => ?_)
  · have k := k.1 h
    refine wp_seg (C := gC222) (pc1 := 14) (Lo1 := [some (.ref 43), some (.int p1), none, none, none, none]) (st1' := [.int (-2 : Int32)]) (w1 := (wv x I1 J1)) hC222 1 rfl ?_
    exact we_i rfl rfl k
  · have k := k.2 h
    refine wp_seg (C := gC222) (pc1 := 17) (Lo1 := [some (.ref 43), some (.int p1), none, none, none, none]) (st1' := [.int (-1 : Int32), .int p1]) (w1 := (wv x I1 J1)) hC222 2 rfl ?_
    refine wj_ge (tgt := 22) rfl rfl (fun h => ?_) (fun h => ?_)
    · have k := k.1 h
      refine wp_seg (C := gC222) (pc1 := 21) (Lo1 := [some (.ref 43), some (.int p1), none, none, none, none]) (st1' := [.int (-1 : Int32)]) (w1 := (wv x I1 J1)) hC222 1 rfl ?_
      exact we_i rfl rfl k
    · have k := k.2 h
      refine wp_seg (C := gC222) (pc1 := 26) (Lo1 := [some (.ref 43), some (.int p1), some (.int (0 : Int32)), some (.int (0 : Int32)), none, none]) (st1' := []) (w1 := (wv x I1 J1)) hC222 4 rfl ?_
      exact k
set_option maxRecDepth 20000 in
theorem v222_43_26 {S : Nat × (Nat → Int32)} {d : Nat} {x : mX} {I : rI0} {J : rJ0} {l1 : Int32} {l2 : Int32} {l3 : Int32} {Q : Int32 → rI0 → rJ0 → Prop} (k : ((l3 < ((1 : Int32) <<< (I 43 47 &&& 31)) → (wcJ S d 218 [.ref 43, .int l3] x I J (fun r1 I1 J1 => (wcI S d 202 [.ref 43, .long ((J 43 16) ||| r1), .long (J1 43 17)] x I1 J1 (fun r2 I2 J2 => (¬ mOut l3 256 ∧ wp S (d + 1) 222 74 [some (.ref 43), some (.int l1), some (.int l2), some (.int l3), some (.int (I2 43 45)), some (.int (0 : Int32))] [] (wv x (mSet I2 57 l3.toNatClampNeg (vp_nar .boolean (I2 43 45))) J2) (rI x Q))))))) ∧ (¬ l3 < ((1 : Int32) <<< (I 43 47 &&& 31)) → ((l1 = (-1 : Int32) → Q l2 I J) ∧ (¬ l1 = (-1 : Int32) → Q (-1 : Int32) I J))))) : wp S (d + 1) 222 26 [some (.ref 43), some (.int l1), some (.int l2), some (.int l3), none, none] [] (wv x I J) (rI x Q) := by
  refine wp_seg (C := gC222) (pc1 := 33) (Lo1 := [some (.ref 43), some (.int l1), some (.int l2), some (.int l3), none, none]) (st1' := [.int ((1 : Int32) <<< (I 43 47 &&& 31)), .int l3]) (w1 := (wv x I J)) hC222 5 rfl ?_
  refine wj_ge (tgt := 141) rfl rfl (fun h => ?_) (fun h => ?_)
  · have k := k.1 h
    refine wp_seg (C := gC222) (pc1 := 43) (Lo1 := [some (.ref 43), some (.int l1), some (.int l2), some (.int l3), none, none]) (st1' := [.int l3, .ref 43, .long (J 43 16), .ref 43]) (w1 := (wv x I J)) hC222 5 rfl ?_
    refine cv_J (mj := 218) (a := 43) (as := [.int l3]) (r := [.long (J 43 16), .ref 43]) rfl rfl rfl ⟨rfl, by decide, Nat.le_of_ble_eq_true rfl, Nat.le_of_ble_eq_true rfl⟩ rfl (wcJ_mono k (fun r1 I1 J1 k => ?_))
    refine wp_seg (C := gC222) (pc1 := 51) (Lo1 := [some (.ref 43), some (.int l1), some (.int l2), some (.int l3), none, none]) (st1' := [.long (J1 43 17), .long ((J 43 16) ||| r1), .ref 43]) (w1 := (wv x I1 J1)) hC222 3 rfl ?_
    refine cv_I (mj := 202) (a := 43) (as := [.long ((J 43 16) ||| r1), .long (J1 43 17)]) (r := []) rfl rfl rfl ⟨rfl, by decide, Nat.le_of_ble_eq_true rfl, Nat.le_of_ble_eq_true rfl⟩ rfl (wcI_mono k (fun r2 I2 J2 k => ?_))
    refine wp_seg (C := gC222) (pc1 := 64) (Lo1 := [some (.ref 43), some (.int l1), some (.int l2), some (.int l3), none, none]) (st1' := [.int (I2 43 45), .int l3, .ref 57]) (w1 := (wv x I2 J2)) hC222 6 rfl ?_
    refine ws_z (n := 256) rfl rfl k.1 ?_
    have k := k.2
    refine wp_seg (C := gC222) (pc1 := 74) (Lo1 := [some (.ref 43), some (.int l1), some (.int l2), some (.int l3), some (.int (I2 43 45)), some (.int (0 : Int32))]) (st1' := []) (w1 := (wv x (mSet I2 57 l3.toNatClampNeg (vp_nar .boolean (I2 43 45))) J2)) hC222 5 rfl ?_
    exact k
  · have k := k.2 h
    refine wp_seg (C := gC222) (pc1 := 143) (Lo1 := [some (.ref 43), some (.int l1), some (.int l2), some (.int l3), none, none]) (st1' := [.int (-1 : Int32), .int l1]) (w1 := (wv x I J)) hC222 2 rfl ?_
    refine wj_ne (tgt := 150) rfl rfl (fun h => ?_) (fun h => ?_)
    · have k := k.1 h
      refine wp_seg (C := gC222) (pc1 := 151) (Lo1 := [some (.ref 43), some (.int l1), some (.int l2), some (.int l3), none, none]) (st1' := [.int l2]) (w1 := (wv x I J)) hC222 2 rfl ?_
      exact we_i rfl rfl k
    · have k := k.2 h
      refine wp_seg (C := gC222) (pc1 := 151) (Lo1 := [some (.ref 43), some (.int l1), some (.int l2), some (.int l3), none, none]) (st1' := [.int (-1 : Int32)]) (w1 := (wv x I J)) hC222 1 rfl ?_
      exact we_i rfl rfl k
set_option maxRecDepth 20000 in
theorem v222_43_74 {S : Nat × (Nat → Int32)} {d : Nat} {x : mX} {I : rI0} {J : rJ0} {l1 : Int32} {l2 : Int32} {l3 : Int32} {l4 : Int32} {l5 : Int32} {Q : Int32 → rI0 → rJ0 → Prop} (k : ((l5 < l3 → ((l4 = (0 : Int32) → ((l4 = (0 : Int32) → wp S (d + 1) 222 26 [some (.ref 43), some (.int l1), some (.int l2), some (.int (l3 + (1 : Int32))), none, none] [] (wv x I J) (rI x Q)) ∧ (¬ l4 = (0 : Int32) → ((l2 = l1 → Q l3 I J) ∧ (¬ l2 = l1 → wp S (d + 1) 222 26 [some (.ref 43), some (.int l1), some (.int (l2 + (1 : Int32))), some (.int (l3 + (1 : Int32))), none, none] [] (wv x I J) (rI x Q)))))) ∧ (¬ l4 = (0 : Int32) → (((l5 &&& l3) = l5 → (¬ mOut l5 256 ∧ (((I 57 l5.toNatClampNeg) = (0 : Int32) → wp S (d + 1) 222 74 [some (.ref 43), some (.int l1), some (.int l2), some (.int l3), some (.int (1 : Int32)), some (.int (l5 + (1 : Int32)))] [] (wv x I J) (rI x Q)) ∧ (¬ (I 57 l5.toNatClampNeg) = (0 : Int32) → wp S (d + 1) 222 74 [some (.ref 43), some (.int l1), some (.int l2), some (.int l3), some (.int (0 : Int32)), some (.int (l5 + (1 : Int32)))] [] (wv x I J) (rI x Q))))) ∧ (¬ (l5 &&& l3) = l5 → wp S (d + 1) 222 74 [some (.ref 43), some (.int l1), some (.int l2), some (.int l3), some (.int (1 : Int32)), some (.int (l5 + (1 : Int32)))] [] (wv x I J) (rI x Q)))))) ∧ (¬ l5 < l3 → ((l4 = (0 : Int32) → wp S (d + 1) 222 26 [some (.ref 43), some (.int l1), some (.int l2), some (.int (l3 + (1 : Int32))), none, none] [] (wv x I J) (rI x Q)) ∧ (¬ l4 = (0 : Int32) → ((l2 = l1 → Q l3 I J) ∧ (¬ l2 = l1 → wp S (d + 1) 222 26 [some (.ref 43), some (.int l1), some (.int (l2 + (1 : Int32))), some (.int (l3 + (1 : Int32))), none, none] [] (wv x I J) (rI x Q)))))))) : wp S (d + 1) 222 74 [some (.ref 43), some (.int l1), some (.int l2), some (.int l3), some (.int l4), some (.int l5)] [] (wv x I J) (rI x Q) := by
  refine wp_seg (C := gC222) (pc1 := 77) (Lo1 := [some (.ref 43), some (.int l1), some (.int l2), some (.int l3), some (.int l4), some (.int l5)]) (st1' := [.int l3, .int l5]) (w1 := (wv x I J)) hC222 2 rfl ?_
  refine wj_ge (tgt := 117) rfl rfl (fun h => ?_) (fun h => ?_)
  · have k := k.1 h
    refine wp_seg (C := gC222) (pc1 := 82) (Lo1 := [some (.ref 43), some (.int l1), some (.int l2), some (.int l3), some (.int l4), some (.int l5)]) (st1' := [.int l4]) (w1 := (wv x I J)) hC222 1 rfl ?_
    refine wi_eq (tgt := 117) rfl rfl (fun h => ?_) (fun h => ?_)
    · have k := k.1 h
      refine wp_seg (C := gC222) (pc1 := 119) (Lo1 := [some (.ref 43), some (.int l1), some (.int l2), some (.int l3), some (.int l4), some (.int l5)]) (st1' := [.int l4]) (w1 := (wv x I J)) hC222 1 rfl ?_
      refine wi_ne (tgt := 125) rfl rfl (fun h => ?_) (fun h => ?_)
      · have k := k.1 h
        refine wp_seg (C := gC222) (pc1 := 26) (Lo1 := [some (.ref 43), some (.int l1), some (.int l2), some (.int (l3 + (1 : Int32))), some (.int l4), some (.int l5)]) (st1' := []) (w1 := (wv x I J)) hC222 3 rfl ?_
        exact wp_sub (Lo := [some (.ref 43), some (.int l1), some (.int l2), some (.int (l3 + (1 : Int32))), none, none]) (And.intro rfl (And.intro rfl (And.intro rfl (And.intro rfl (trivial))))) k
      · have k := k.2 h
        refine wp_seg (C := gC222) (pc1 := 127) (Lo1 := [some (.ref 43), some (.int l1), some (.int l2), some (.int l3), some (.int l4), some (.int l5)]) (st1' := [.int l1, .int l2]) (w1 := (wv x I J)) hC222 2 rfl ?_
        refine wj_ne (tgt := 132) rfl rfl (fun h => ?_) (fun h => ?_)
        · have k := k.1 h
          refine wp_seg (C := gC222) (pc1 := 131) (Lo1 := [some (.ref 43), some (.int l1), some (.int l2), some (.int l3), some (.int l4), some (.int l5)]) (st1' := [.int l3]) (w1 := (wv x I J)) hC222 1 rfl ?_
          exact we_i rfl rfl k
        · have k := k.2 h
          refine wp_seg (C := gC222) (pc1 := 138) (Lo1 := [some (.ref 43), some (.int l1), some (.int (l2 + (1 : Int32))), some (.int (l3 + (1 : Int32))), some (.int l4), some (.int l5)]) (st1' := []) (w1 := (wv x I J)) hC222 2 rfl ?_
          refine wp_seg (C := gC222) (pc1 := 26) (Lo1 := [some (.ref 43), some (.int l1), some (.int (l2 + (1 : Int32))), some (.int (l3 + (1 : Int32))), some (.int l4), some (.int l5)]) (st1' := []) (w1 := (wv x I J)) hC222 1 rfl ?_
          exact wp_sub (Lo := [some (.ref 43), some (.int l1), some (.int (l2 + (1 : Int32))), some (.int (l3 + (1 : Int32))), none, none]) (And.intro rfl (And.intro rfl (And.intro rfl (And.intro rfl (trivial))))) k
    · have k := k.2 h
      refine wp_seg (C := gC222) (pc1 := 91) (Lo1 := [some (.ref 43), some (.int l1), some (.int l2), some (.int l3), some (.int l4), some (.int l5)]) (st1' := [.int l5, .int (l5 &&& l3)]) (w1 := (wv x I J)) hC222 4 rfl ?_
      refine wj_ne (tgt := 104) rfl rfl (fun h => ?_) (fun h => ?_)
      · have k := k.1 h
        refine wp_seg (C := gC222) (pc1 := 100) (Lo1 := [some (.ref 43), some (.int l1), some (.int l2), some (.int l3), some (.int l4), some (.int l5)]) (st1' := [.int l5, .ref 57]) (w1 := (wv x I J)) hC222 3 rfl ?_
        refine wa_b (n := 256) rfl (Or.inr rfl) k.1 ?_
        have k := k.2
        refine wi_ne (tgt := 108) rfl rfl (fun h => ?_) (fun h => ?_)
        · have k := k.1 h
          refine wp_seg (C := gC222) (pc1 := 114) (Lo1 := [some (.ref 43), some (.int l1), some (.int l2), some (.int l3), some (.int (1 : Int32)), some (.int (l5 + (1 : Int32)))]) (st1' := []) (w1 := (wv x I J)) hC222 4 rfl ?_
          refine wp_seg (C := gC222) (pc1 := 74) (Lo1 := [some (.ref 43), some (.int l1), some (.int l2), some (.int l3), some (.int (1 : Int32)), some (.int (l5 + (1 : Int32)))]) (st1' := []) (w1 := (wv x I J)) hC222 1 rfl ?_
          exact k
        · have k := k.2 h
          refine wp_seg (C := gC222) (pc1 := 114) (Lo1 := [some (.ref 43), some (.int l1), some (.int l2), some (.int l3), some (.int (0 : Int32)), some (.int (l5 + (1 : Int32)))]) (st1' := []) (w1 := (wv x I J)) hC222 3 rfl ?_
          refine wp_seg (C := gC222) (pc1 := 74) (Lo1 := [some (.ref 43), some (.int l1), some (.int l2), some (.int l3), some (.int (0 : Int32)), some (.int (l5 + (1 : Int32)))]) (st1' := []) (w1 := (wv x I J)) hC222 1 rfl ?_
          exact k
      · have k := k.2 h
        refine wp_seg (C := gC222) (pc1 := 114) (Lo1 := [some (.ref 43), some (.int l1), some (.int l2), some (.int l3), some (.int (1 : Int32)), some (.int (l5 + (1 : Int32)))]) (st1' := []) (w1 := (wv x I J)) hC222 4 rfl ?_
        refine wp_seg (C := gC222) (pc1 := 74) (Lo1 := [some (.ref 43), some (.int l1), some (.int l2), some (.int l3), some (.int (1 : Int32)), some (.int (l5 + (1 : Int32)))]) (st1' := []) (w1 := (wv x I J)) hC222 1 rfl ?_
        exact k
  · have k := k.2 h
    refine wp_seg (C := gC222) (pc1 := 119) (Lo1 := [some (.ref 43), some (.int l1), some (.int l2), some (.int l3), some (.int l4), some (.int l5)]) (st1' := [.int l4]) (w1 := (wv x I J)) hC222 1 rfl ?_
    refine wi_ne (tgt := 125) rfl rfl (fun h => ?_) (fun h => ?_)
    · have k := k.1 h
      refine wp_seg (C := gC222) (pc1 := 26) (Lo1 := [some (.ref 43), some (.int l1), some (.int l2), some (.int (l3 + (1 : Int32))), some (.int l4), some (.int l5)]) (st1' := []) (w1 := (wv x I J)) hC222 3 rfl ?_
      exact wp_sub (Lo := [some (.ref 43), some (.int l1), some (.int l2), some (.int (l3 + (1 : Int32))), none, none]) (And.intro rfl (And.intro rfl (And.intro rfl (And.intro rfl (trivial))))) k
    · have k := k.2 h
      refine wp_seg (C := gC222) (pc1 := 127) (Lo1 := [some (.ref 43), some (.int l1), some (.int l2), some (.int l3), some (.int l4), some (.int l5)]) (st1' := [.int l1, .int l2]) (w1 := (wv x I J)) hC222 2 rfl ?_
      refine wj_ne (tgt := 132) rfl rfl (fun h => ?_) (fun h => ?_)
      · have k := k.1 h
        refine wp_seg (C := gC222) (pc1 := 131) (Lo1 := [some (.ref 43), some (.int l1), some (.int l2), some (.int l3), some (.int l4), some (.int l5)]) (st1' := [.int l3]) (w1 := (wv x I J)) hC222 1 rfl ?_
        exact we_i rfl rfl k
      · have k := k.2 h
        refine wp_seg (C := gC222) (pc1 := 138) (Lo1 := [some (.ref 43), some (.int l1), some (.int (l2 + (1 : Int32))), some (.int (l3 + (1 : Int32))), some (.int l4), some (.int l5)]) (st1' := []) (w1 := (wv x I J)) hC222 2 rfl ?_
        refine wp_seg (C := gC222) (pc1 := 26) (Lo1 := [some (.ref 43), some (.int l1), some (.int (l2 + (1 : Int32))), some (.int (l3 + (1 : Int32))), some (.int l4), some (.int l5)]) (st1' := []) (w1 := (wv x I J)) hC222 1 rfl ?_
        exact wp_sub (Lo := [some (.ref 43), some (.int l1), some (.int (l2 + (1 : Int32))), some (.int (l3 + (1 : Int32))), none, none]) (And.intro rfl (And.intro rfl (And.intro rfl (And.intro rfl (trivial))))) k
set_option maxRecDepth 20000 in
theorem v224_43_0 {S : Nat × (Nat → Int32)} {d : Nat} {x : mX} {I : rI0} {J : rJ0} {Q : Int32 → rI0 → rJ0 → Prop} (k : (wcI S d 217 [.ref 43] x (mSet I 43 0 (0 : Int32)) J (fun r1 I1 J1 => ((r1 = (0 : Int32) → Q (-1 : Int32) I1 J1) ∧ (¬ r1 = (0 : Int32) → wp S (d + 1) 224 16 [some (.ref 43), some (.int (0 : Int32)), none, none] [] (wv x I1 J1) (rI x Q)))))) : wp S (d + 1) 224 0 [some (.ref 43), none, none, none] [] (wv x I J) (rI x Q) := by
  refine wp_seg (C := gC224) (pc1 := 6) (Lo1 := [some (.ref 43), none, none, none]) (st1' := [.ref 43]) (w1 := (wv x (mSet I 43 0 (0 : Int32)) J)) hC224 4 rfl ?_
  refine cv_I (mj := 217) (a := 43) (as := []) (r := []) rfl rfl rfl ⟨rfl, by decide, Nat.le_of_ble_eq_true rfl, Nat.le_of_ble_eq_true rfl⟩ rfl (wcI_mono k (fun r1 I1 J1 k => ?_))
  refine wi_ne (tgt := 14) rfl rfl (fun h => ?_) (fun h => ?_)
  · have k := k.1 h
    refine wp_seg (C := gC224) (pc1 := 13) (Lo1 := [some (.ref 43), none, none, none]) (st1' := [.int (-1 : Int32)]) (w1 := (wv x I1 J1)) hC224 1 rfl ?_
    exact we_i rfl rfl k
  · have k := k.2 h
    refine wp_seg (C := gC224) (pc1 := 16) (Lo1 := [some (.ref 43), some (.int (0 : Int32)), none, none]) (st1' := []) (w1 := (wv x I1 J1)) hC224 2 rfl ?_
    exact k
set_option maxRecDepth 20000 in
theorem v224_43_16 {S : Nat × (Nat → Int32)} {d : Nat} {x : mX} {I : rI0} {J : rJ0} {l1 : Int32} {Q : Int32 → rI0 → rJ0 → Prop} (k : ((l1 < ((1 : Int32) <<< (I 43 47 &&& 31)) → (wcJ S d 218 [.ref 43, .int l1] x I J (fun r1 I1 J1 => (wcI S d 202 [.ref 43, .long r1, .long (J1 43 17)] x I1 J1 (fun r2 I2 J2 => (¬ mOut l1 256 ∧ wp S (d + 1) 224 16 [some (.ref 43), some (.int (l1 + (1 : Int32))), none, none] [] (wv x (mSet I2 58 l1.toNatClampNeg r2) J2) (rI x Q))))))) ∧ (¬ l1 < ((1 : Int32) <<< (I 43 47 &&& 31)) → wp S (d + 1) 224 53 [some (.ref 43), some (.int (0 : Int32)), none, none] [] (wv x I J) (rI x Q)))) : wp S (d + 1) 224 16 [some (.ref 43), some (.int l1), none, none] [] (wv x I J) (rI x Q) := by
  refine wp_seg (C := gC224) (pc1 := 23) (Lo1 := [some (.ref 43), some (.int l1), none, none]) (st1' := [.int ((1 : Int32) <<< (I 43 47 &&& 31)), .int l1]) (w1 := (wv x I J)) hC224 5 rfl ?_
  refine wj_ge (tgt := 51) rfl rfl (fun h => ?_) (fun h => ?_)
  · have k := k.1 h
    refine wp_seg (C := gC224) (pc1 := 34) (Lo1 := [some (.ref 43), some (.int l1), none, none]) (st1' := [.int l1, .ref 43, .ref 43, .int l1, .ref 58]) (w1 := (wv x I J)) hC224 6 rfl ?_
    refine cv_J (mj := 218) (a := 43) (as := [.int l1]) (r := [.ref 43, .int l1, .ref 58]) rfl rfl rfl ⟨rfl, by decide, Nat.le_of_ble_eq_true rfl, Nat.le_of_ble_eq_true rfl⟩ rfl (wcJ_mono k (fun r1 I1 J1 k => ?_))
    refine wp_seg (C := gC224) (pc1 := 41) (Lo1 := [some (.ref 43), some (.int l1), none, none]) (st1' := [.long (J1 43 17), .long r1, .ref 43, .int l1, .ref 58]) (w1 := (wv x I1 J1)) hC224 2 rfl ?_
    refine cv_I (mj := 202) (a := 43) (as := [.long r1, .long (J1 43 17)]) (r := [.int l1, .ref 58]) rfl rfl rfl ⟨rfl, by decide, Nat.le_of_ble_eq_true rfl, Nat.le_of_ble_eq_true rfl⟩ rfl (wcI_mono k (fun r2 I2 J2 k => ?_))
    refine ws_i (n := 256) rfl rfl k.1 ?_
    have k := k.2
    refine wp_seg (C := gC224) (pc1 := 16) (Lo1 := [some (.ref 43), some (.int (l1 + (1 : Int32))), none, none]) (st1' := []) (w1 := (wv x (mSet I2 58 l1.toNatClampNeg r2) J2)) hC224 2 rfl ?_
    exact k
  · have k := k.2 h
    refine wp_seg (C := gC224) (pc1 := 53) (Lo1 := [some (.ref 43), some (.int (0 : Int32)), none, none]) (st1' := []) (w1 := (wv x I J)) hC224 2 rfl ?_
    exact k
