set_option maxRecDepth 20000 in
theorem v97_37_10 {S : Nat × (Nat → Int32)} {d : Nat} {x : mX} {I : rI0} {J : rJ0} {l1 : Int32} {l3 : Int32} {Q : Int32 → rI0 → rJ0 → Prop} (k : ((l3 < (64 : Int32) → wp S (d + 1) 97 21 [some (.ref 37), some (.int l1), some (.ref 4), some (.int l3), some (.int (l3 + (1 : Int32))), none] [] (wv x I J) (rI x Q)) ∧ (¬ l3 < (64 : Int32) → Q (-1 : Int32) I J))) : wp S (d + 1) 97 10 [some (.ref 37), some (.int l1), some (.ref 4), some (.int l3), none, none] [] (wv x I J) (rI x Q) := by
  refine wp_seg (C := gC97) (pc1 := 13) (Lo1 := [some (.ref 37), some (.int l1), some (.ref 4), some (.int l3), none, none]) (st1' := [.int (64 : Int32), .int l3]) (w1 := (wv x I J)) hC97 2 rfl ?_
  refine wj_ge (tgt := 127) rfl rfl (fun h => ?_) (fun h => ?_)
  · have k := k.1 h
    refine wp_seg (C := gC97) (pc1 := 21) (Lo1 := [some (.ref 37), some (.int l1), some (.ref 4), some (.int l3), some (.int (l3 + (1 : Int32))), none]) (st1' := []) (w1 := (wv x I J)) hC97 4 rfl ?_
    exact k
  · have k := k.2 h
    refine wp_seg (C := gC97) (pc1 := 128) (Lo1 := [some (.ref 37), some (.int l1), some (.ref 4), some (.int l3), none, none]) (st1' := [.int (-1 : Int32)]) (w1 := (wv x I J)) hC97 1 rfl ?_
    exact we_i rfl rfl k
set_option maxRecDepth 20000 in
theorem v97_37_21 {S : Nat × (Nat → Int32)} {d : Nat} {x : mX} {I : rI0} {J : rJ0} {l1 : Int32} {l3 : Int32} {l4 : Int32} {Q : Int32 → rI0 → rJ0 → Prop} (k : ((l4 < (64 : Int32) → (wcI S d 24 [.ref 4, .int l3] x I J (fun r1 I1 J1 => ((r1 = (0 : Int32) → wp S (d + 1) 97 10 [some (.ref 37), some (.int l1), some (.ref 4), some (.int (l3 + (1 : Int32))), none, none] [] (wv x I1 J1) (rI x Q)) ∧ (¬ r1 = (0 : Int32) → (wcI S d 24 [.ref 4, .int l4] x I1 J1 (fun r2 I2 J2 => ((r2 = (0 : Int32) → wp S (d + 1) 97 21 [some (.ref 37), some (.int l1), some (.ref 4), some (.int l3), some (.int (l4 + (1 : Int32))), none] [] (wv x I2 J2) (rI x Q)) ∧ (¬ r2 = (0 : Int32) → (¬ mOut l3 64 ∧ (¬ mOut l4 64 ∧ (((I2 5 l3.toNatClampNeg) = (I2 5 l4.toNatClampNeg) → wp S (d + 1) 97 21 [some (.ref 37), some (.int l1), some (.ref 4), some (.int l3), some (.int (l4 + (1 : Int32))), none] [] (wv x I2 J2) (rI x Q)) ∧ (¬ (I2 5 l3.toNatClampNeg) = (I2 5 l4.toNatClampNeg) → (wcV S d 30 [.ref 4, .int l3, .int l4] x I2 J2 (fun I3 J3 => (wcI S d 54 [.ref 41, .long (J3 3 5), .long (J3 3 6), .int (l1 + (1 : Int32))] x I3 J3 (fun r4 I4 J4 => (wcV S d 30 [.ref 4, .int l3, .int l4] x I4 J4 (fun I5 J5 => ((l1 < r4 → Q ((l3 * (64 : Int32)) + l4) I5 J5) ∧ (¬ l1 < r4 → wp S (d + 1) 97 21 [some (.ref 37), some (.int l1), some (.ref 4), some (.int l3), some (.int (l4 + (1 : Int32))), none] [] (wv x I5 J5) (rI x Q)))))))))))))))))))))) ∧ (¬ l4 < (64 : Int32) → wp S (d + 1) 97 10 [some (.ref 37), some (.int l1), some (.ref 4), some (.int (l3 + (1 : Int32))), none, none] [] (wv x I J) (rI x Q)))) : wp S (d + 1) 97 21 [some (.ref 37), some (.int l1), some (.ref 4), some (.int l3), some (.int l4), none] [] (wv x I J) (rI x Q) := by
  refine wp_seg (C := gC97) (pc1 := 25) (Lo1 := [some (.ref 37), some (.int l1), some (.ref 4), some (.int l3), some (.int l4), none]) (st1' := [.int (64 : Int32), .int l4]) (w1 := (wv x I J)) hC97 2 rfl ?_
  refine wj_ge (tgt := 121) rfl rfl (fun h => ?_) (fun h => ?_)
  · have k := k.1 h
    refine wp_seg (C := gC97) (pc1 := 30) (Lo1 := [some (.ref 37), some (.int l1), some (.ref 4), some (.int l3), some (.int l4), none]) (st1' := [.int l3, .ref 4]) (w1 := (wv x I J)) hC97 2 rfl ?_
    refine cv_I (mj := 24) (a := 4) (as := [.int l3]) (r := []) rfl rfl rfl ⟨rfl, by decide, Nat.le_of_ble_eq_true rfl, Nat.le_of_ble_eq_true rfl⟩ rfl (wcI_mono k (fun r1 I1 J1 k => ?_))
    refine wi_eq (tgt := 121) rfl rfl (fun h => ?_) (fun h => ?_)
    · have k := k.1 h
      refine wp_seg (C := gC97) (pc1 := 10) (Lo1 := [some (.ref 37), some (.int l1), some (.ref 4), some (.int (l3 + (1 : Int32))), some (.int l4), none]) (st1' := []) (w1 := (wv x I1 J1)) hC97 2 rfl ?_
      exact wp_sub (Lo := [some (.ref 37), some (.int l1), some (.ref 4), some (.int (l3 + (1 : Int32))), none, none]) (And.intro rfl (And.intro rfl (And.intro rfl (And.intro rfl (trivial))))) k
    · have k := k.2 h
      refine wp_seg (C := gC97) (pc1 := 39) (Lo1 := [some (.ref 37), some (.int l1), some (.ref 4), some (.int l3), some (.int l4), none]) (st1' := [.int l4, .ref 4]) (w1 := (wv x I1 J1)) hC97 2 rfl ?_
      refine cv_I (mj := 24) (a := 4) (as := [.int l4]) (r := []) rfl rfl rfl ⟨rfl, by decide, Nat.le_of_ble_eq_true rfl, Nat.le_of_ble_eq_true rfl⟩ rfl (wcI_mono k (fun r2 I2 J2 k => ?_))
      refine wi_eq (tgt := 115) rfl rfl (fun h => ?_) (fun h => ?_)
      · have k := k.1 h
        refine wp_seg (C := gC97) (pc1 := 21) (Lo1 := [some (.ref 37), some (.int l1), some (.ref 4), some (.int l3), some (.int (l4 + (1 : Int32))), none]) (st1' := []) (w1 := (wv x I2 J2)) hC97 2 rfl ?_
        exact k
      · have k := k.2 h
        refine wp_seg (C := gC97) (pc1 := 50) (Lo1 := [some (.ref 37), some (.int l1), some (.ref 4), some (.int l3), some (.int l4), none]) (st1' := [.int l3, .ref 5]) (w1 := (wv x I2 J2)) hC97 3 rfl ?_
        refine wa_i (n := 64) rfl (by decide) rfl k.1 ?_
        have k := k.2
        refine wp_seg (C := gC97) (pc1 := 57) (Lo1 := [some (.ref 37), some (.int l1), some (.ref 4), some (.int l3), some (.int l4), none]) (st1' := [.int l4, .ref 5, .int (I2 5 l3.toNatClampNeg)]) (w1 := (wv x I2 J2)) hC97 3 rfl ?_
        refine wa_i (n := 64) rfl (by decide) rfl k.1 ?_
        have k := k.2
        refine wj_eq (tgt := 115) rfl rfl (fun h => ?_) (fun h => ?_)
        · have k := k.1 h
          refine wp_seg (C := gC97) (pc1 := 21) (Lo1 := [some (.ref 37), some (.int l1), some (.ref 4), some (.int l3), some (.int (l4 + (1 : Int32))), none]) (st1' := []) (w1 := (wv x I2 J2)) hC97 2 rfl ?_
          exact k
        · have k := k.2 h
          refine wp_seg (C := gC97) (pc1 := 65) (Lo1 := [some (.ref 37), some (.int l1), some (.ref 4), some (.int l3), some (.int l4), none]) (st1' := [.int l4, .int l3, .ref 4]) (w1 := (wv x I2 J2)) hC97 3 rfl ?_
          refine cv_V (mj := 30) (a := 4) (as := [.int l3, .int l4]) (r := []) rfl rfl rfl ⟨rfl, by decide, Nat.le_of_ble_eq_true rfl, Nat.le_of_ble_eq_true rfl⟩ rfl (wcV_mono k (fun I3 J3 k => ?_))
          refine wp_seg (C := gC97) (pc1 := 89) (Lo1 := [some (.ref 37), some (.int l1), some (.ref 4), some (.int l3), some (.int l4), none]) (st1' := [.int (l1 + (1 : Int32)), .long (J3 3 6), .long (J3 3 5), .ref 41]) (w1 := (wv x I3 J3)) hC97 11 rfl ?_
          refine cv_I (mj := 54) (a := 41) (as := [.long (J3 3 5), .long (J3 3 6), .int (l1 + (1 : Int32))]) (r := []) rfl rfl rfl ⟨rfl, by decide, Nat.le_of_ble_eq_true rfl, Nat.le_of_ble_eq_true rfl⟩ rfl (wcI_mono k (fun r4 I4 J4 k => ?_))
          refine wp_seg (C := gC97) (pc1 := 98) (Lo1 := [some (.ref 37), some (.int l1), some (.ref 4), some (.int l3), some (.int l4), some (.int r4)]) (st1' := [.int l4, .int l3, .ref 4]) (w1 := (wv x I4 J4)) hC97 4 rfl ?_
          refine cv_V (mj := 30) (a := 4) (as := [.int l3, .int l4]) (r := []) rfl rfl rfl ⟨rfl, by decide, Nat.le_of_ble_eq_true rfl, Nat.le_of_ble_eq_true rfl⟩ rfl (wcV_mono k (fun I5 J5 k => ?_))
          refine wp_seg (C := gC97) (pc1 := 104) (Lo1 := [some (.ref 37), some (.int l1), some (.ref 4), some (.int l3), some (.int l4), some (.int r4)]) (st1' := [.int l1, .int r4]) (w1 := (wv x I5 J5)) hC97 2 rfl ?_
          refine wj_le (tgt := 115) rfl rfl (fun h => ?_) (fun h => ?_)
          · have k := k.1 h
            refine wp_seg (C := gC97) (pc1 := 114) (Lo1 := [some (.ref 37), some (.int l1), some (.ref 4), some (.int l3), some (.int l4), some (.int r4)]) (st1' := [.int ((l3 * (64 : Int32)) + l4)]) (w1 := (wv x I5 J5)) hC97 5 rfl ?_
            exact we_i rfl rfl k
          · have k := k.2 h
            refine wp_seg (C := gC97) (pc1 := 21) (Lo1 := [some (.ref 37), some (.int l1), some (.ref 4), some (.int l3), some (.int (l4 + (1 : Int32))), some (.int r4)]) (st1' := []) (w1 := (wv x I5 J5)) hC97 2 rfl ?_
            exact wp_sub (Lo := [some (.ref 37), some (.int l1), some (.ref 4), some (.int l3), some (.int (l4 + (1 : Int32))), none]) (And.intro rfl (And.intro rfl (And.intro rfl (And.intro rfl (And.intro rfl (trivial)))))) k
  · have k := k.2 h
    refine wp_seg (C := gC97) (pc1 := 10) (Lo1 := [some (.ref 37), some (.int l1), some (.ref 4), some (.int (l3 + (1 : Int32))), some (.int l4), none]) (st1' := []) (w1 := (wv x I J)) hC97 2 rfl ?_
    exact wp_sub (Lo := [some (.ref 37), some (.int l1), some (.ref 4), some (.int (l3 + (1 : Int32))), none, none]) (And.intro rfl (And.intro rfl (And.intro rfl (And.intro rfl (trivial))))) k
set_option maxRecDepth 20000 in
theorem v30_4_0 {S : Nat × (Nat → Int32)} {d : Nat} {x : mX} {I : rI0} {J : rJ0} {p1 : Int32} {p2 : Int32} {Q : rI0 → rJ0 → Prop} (k : (¬ mOut p1 64 ∧ (¬ mOut p2 64 ∧ (wcV S d 31 [.ref 4, .int p1, .int (I 5 p2.toNatClampNeg)] x I J (fun I1 J1 => (wcV S d 31 [.ref 4, .int p2, .int (I 5 p1.toNatClampNeg)] x I1 J1 (fun I2 J2 => Q I2 J2))))))) : wp S (d + 1) 30 0 [some (.ref 4), some (.int p1), some (.int p2), none] [] (wv x I J) (rV x Q) := by
  refine wp_seg (C := gC30) (pc1 := 5) (Lo1 := [some (.ref 4), some (.int p1), some (.int p2), none]) (st1' := [.int p1, .ref 5]) (w1 := (wv x I J)) hC30 3 rfl ?_
  refine wa_i (n := 64) rfl (by decide) rfl k.1 ?_
  have k := k.2
  refine wp_seg (C := gC30) (pc1 := 14) (Lo1 := [some (.ref 4), some (.int p1), some (.int p2), some (.int (I 5 p1.toNatClampNeg))]) (st1' := [.int p2, .ref 5, .int p1, .ref 4]) (w1 := (wv x I J)) hC30 6 rfl ?_
  refine wa_i (n := 64) rfl (by decide) rfl k.1 ?_
  have k := k.2
  refine cv_V (mj := 31) (a := 4) (as := [.int p1, .int (I 5 p2.toNatClampNeg)]) (r := []) rfl rfl rfl ⟨rfl, by decide, Nat.le_of_ble_eq_true rfl, Nat.le_of_ble_eq_true rfl⟩ rfl (wcV_mono k (fun I1 J1 k => ?_))
  refine wp_seg (C := gC30) (pc1 := 21) (Lo1 := [some (.ref 4), some (.int p1), some (.int p2), some (.int (I 5 p1.toNatClampNeg))]) (st1' := [.int (I 5 p1.toNatClampNeg), .int p2, .ref 4]) (w1 := (wv x I1 J1)) hC30 3 rfl ?_
  refine cv_V (mj := 31) (a := 4) (as := [.int p2, .int (I 5 p1.toNatClampNeg)]) (r := []) rfl rfl rfl ⟨rfl, by decide, Nat.le_of_ble_eq_true rfl, Nat.le_of_ble_eq_true rfl⟩ rfl (wcV_mono k (fun I2 J2 k => ?_))
  exact we_v rfl rfl k
set_option maxRecDepth 20000 in
theorem v54_41_0 {S : Nat × (Nat → Int32)} {d : Nat} {x : mX} {I : rI0} {J : rJ0} {p1 : Int64} {p2 : Int64} {p3 : Int32} {Q : Int32 → rI0 → rJ0 → Prop} (k : (wcV S d 52 [.ref 41, .long p1, .long p2] x I J (fun I1 J1 => (wcI S d 250 [.long (J1 41 9)] x I1 J1 (fun r2 I2 J2 => wp S (d + 1) 54 18 [some (.ref 41), some (.long p1), none, some (.long p2), none, some (.int p3), some (.int r2), some (.int (1 : Int32))] [] (wv x I2 J2) (rI x Q)))))) : wp S (d + 1) 54 0 [some (.ref 41), some (.long p1), none, some (.long p2), none, some (.int p3), none, none] [] (wv x I J) (rI x Q) := by
  refine wp_seg (C := gC54) (pc1 := 3) (Lo1 := [some (.ref 41), some (.long p1), none, some (.long p2), none, some (.int p3), none, none]) (st1' := [.long p2, .long p1, .ref 41]) (w1 := (wv x I J)) hC54 3 rfl ?_
  refine cv_V (mj := 52) (a := 41) (as := [.long p1, .long p2]) (r := []) rfl rfl rfl ⟨rfl, by decide, Nat.le_of_ble_eq_true rfl, Nat.le_of_ble_eq_true rfl⟩ rfl (wcV_mono k (fun I1 J1 k => ?_))
  refine wp_seg (C := gC54) (pc1 := 10) (Lo1 := [some (.ref 41), some (.long p1), none, some (.long p2), none, some (.int p3), none, none]) (st1' := [.long (J1 41 9)]) (w1 := (wv x I1 J1)) hC54 2 rfl ?_
  refine cs_I (mj := 250) (nn := 0) (as := [.long (J1 41 9)]) (r := []) rfl rfl rfl ⟨rfl, by decide, Nat.le_of_ble_eq_true rfl, Nat.le_of_ble_eq_true rfl⟩ (by decide) (wcI_mono k (fun r2 I2 J2 k => ?_))
  refine wp_seg (C := gC54) (pc1 := 18) (Lo1 := [some (.ref 41), some (.long p1), none, some (.long p2), none, some (.int p3), some (.int r2), some (.int (1 : Int32))]) (st1' := []) (w1 := (wv x I2 J2)) hC54 3 rfl ?_
  exact k
set_option maxRecDepth 20000 in
theorem v54_41_18 {S : Nat × (Nat → Int32)} {d : Nat} {x : mX} {I : rI0} {J : rJ0} {l1 : Int64} {l3 : Int64} {l5 : Int32} {l6 : Int32} {l7 : Int32} {Q : Int32 → rI0 → rJ0 → Prop} (k : (((60 : Int32) < l7 → Q l6 I J) ∧ (¬ (60 : Int32) < l7 → ((l6 < l5 → (((I 41 12) = (0 : Int32) → (wcV S d 55 [.ref 41] x I J (fun I1 J1 => (wcI S d 250 [.long (J1 41 9)] x I1 J1 (fun r2 I2 J2 => wp S (d + 1) 54 18 [some (.ref 41), some (.long l1), none, some (.long l3), none, some (.int l5), some (.int (if l6 < r2 then r2 else l6)), some (.int (l7 + (1 : Int32)))] [] (wv x I2 J2) (rI x Q)))))) ∧ (¬ (I 41 12) = (0 : Int32) → Q l6 I J))) ∧ (¬ l6 < l5 → Q l6 I J))))) : wp S (d + 1) 54 18 [some (.ref 41), some (.long l1), none, some (.long l3), none, some (.int l5), some (.int l6), some (.int l7)] [] (wv x I J) (rI x Q) := by
  refine wp_seg (C := gC54) (pc1 := 22) (Lo1 := [some (.ref 41), some (.long l1), none, some (.long l3), none, some (.int l5), some (.int l6), some (.int l7)]) (st1' := [.int (60 : Int32), .int l7]) (w1 := (wv x I J)) hC54 2 rfl ?_
  refine wj_gt (tgt := 63) rfl rfl (fun h => ?_) (fun h => ?_)
  · have k := k.1 h
    refine wp_seg (C := gC54) (pc1 := 65) (Lo1 := [some (.ref 41), some (.long l1), none, some (.long l3), none, some (.int l5), some (.int l6), some (.int l7)]) (st1' := [.int l6]) (w1 := (wv x I J)) hC54 1 rfl ?_
    exact we_i rfl rfl k
  · have k := k.2 h
    refine wp_seg (C := gC54) (pc1 := 29) (Lo1 := [some (.ref 41), some (.long l1), none, some (.long l3), none, some (.int l5), some (.int l6), some (.int l7)]) (st1' := [.int l5, .int l6]) (w1 := (wv x I J)) hC54 2 rfl ?_
    refine wj_ge (tgt := 63) rfl rfl (fun h => ?_) (fun h => ?_)
    · have k := k.1 h
      refine wp_seg (C := gC54) (pc1 := 36) (Lo1 := [some (.ref 41), some (.long l1), none, some (.long l3), none, some (.int l5), some (.int l6), some (.int l7)]) (st1' := [.int (I 41 12)]) (w1 := (wv x I J)) hC54 2 rfl ?_
      refine wi_ne (tgt := 63) rfl rfl (fun h => ?_) (fun h => ?_)
      · have k := k.1 h
        refine wp_seg (C := gC54) (pc1 := 40) (Lo1 := [some (.ref 41), some (.long l1), none, some (.long l3), none, some (.int l5), some (.int l6), some (.int l7)]) (st1' := [.ref 41]) (w1 := (wv x I J)) hC54 1 rfl ?_
        refine cv_V (mj := 55) (a := 41) (as := []) (r := []) rfl rfl rfl ⟨rfl, by decide, Nat.le_of_ble_eq_true rfl, Nat.le_of_ble_eq_true rfl⟩ rfl (wcV_mono k (fun I1 J1 k => ?_))
        refine wp_seg (C := gC54) (pc1 := 49) (Lo1 := [some (.ref 41), some (.long l1), none, some (.long l3), none, some (.int l5), some (.int l6), some (.int l7)]) (st1' := [.long (J1 41 9), .int l6]) (w1 := (wv x I1 J1)) hC54 3 rfl ?_
        refine cs_I (mj := 250) (nn := 0) (as := [.long (J1 41 9)]) (r := [.int l6]) rfl rfl rfl ⟨rfl, by decide, Nat.le_of_ble_eq_true rfl, Nat.le_of_ble_eq_true rfl⟩ (by decide) (wcI_mono k (fun r2 I2 J2 k => ?_))
        refine wm_2 (f := fun x y => if x < y then y else x) rfl rfl (Or.inl ⟨rfl, rfl⟩) (Nat.le_of_ble_eq_true rfl) ?_
        refine wp_seg (C := gC54) (pc1 := 60) (Lo1 := [some (.ref 41), some (.long l1), none, some (.long l3), none, some (.int l5), some (.int (if l6 < r2 then r2 else l6)), some (.int (l7 + (1 : Int32)))]) (st1' := []) (w1 := (wv x I2 J2)) hC54 2 rfl ?_
        refine wp_seg (C := gC54) (pc1 := 18) (Lo1 := [some (.ref 41), some (.long l1), none, some (.long l3), none, some (.int l5), some (.int (if l6 < r2 then r2 else l6)), some (.int (l7 + (1 : Int32)))]) (st1' := []) (w1 := (wv x I2 J2)) hC54 1 rfl ?_
        exact k
      · have k := k.2 h
        refine wp_seg (C := gC54) (pc1 := 65) (Lo1 := [some (.ref 41), some (.long l1), none, some (.long l3), none, some (.int l5), some (.int l6), some (.int l7)]) (st1' := [.int l6]) (w1 := (wv x I J)) hC54 1 rfl ?_
        exact we_i rfl rfl k
    · have k := k.2 h
      refine wp_seg (C := gC54) (pc1 := 65) (Lo1 := [some (.ref 41), some (.long l1), none, some (.long l3), none, some (.int l5), some (.int l6), some (.int l7)]) (st1' := [.int l6]) (w1 := (wv x I J)) hC54 1 rfl ?_
      exact we_i rfl rfl k
set_option maxRecDepth 20000 in
theorem v26_4_0 {S : Nat × (Nat → Int32)} {d : Nat} {x : mX} {I : rI0} {J : rJ0} {p1 : Int32} {Q : Int32 → rI0 → rJ0 → Prop} (k : (wcI S d 25 [.ref 4, .int p1] x I J (fun r1 I1 J1 => (¬ mOut r1 8 ∧ Q (I1 7 r1.toNatClampNeg) I1 J1)))) : wp S (d + 1) 26 0 [some (.ref 4), some (.int p1)] [] (wv x I J) (rI x Q) := by
  refine wp_seg (C := gC26) (pc1 := 6) (Lo1 := [some (.ref 4), some (.int p1)]) (st1' := [.int p1, .ref 4, .ref 7]) (w1 := (wv x I J)) hC26 4 rfl ?_
  refine cv_I (mj := 25) (a := 4) (as := [.int p1]) (r := [.ref 7]) rfl rfl rfl ⟨rfl, by decide, Nat.le_of_ble_eq_true rfl, Nat.le_of_ble_eq_true rfl⟩ rfl (wcI_mono k (fun r1 I1 J1 k => ?_))
  refine wa_i (n := 8) rfl (by decide) rfl k.1 ?_
  have k := k.2
  exact we_i rfl rfl k
set_option maxRecDepth 20000 in
theorem v144_0 {S : Nat × (Nat → Int32)} {d : Nat} {x : mX} {I : rI0} {J : rJ0} {p0 : Int64} {p1 : Int32} {Q : Int64 → rI0 → rJ0 → Prop} (k : wp S (d + 1) 144 5 [some (.long p0), none, some (.int p1), some (.int (0 : Int32)), some (.int (0 : Int32))] [] (wv x I J) (rJ x Q)) : wp S (d + 1) 144 0 [some (.long p0), none, some (.int p1), none, none] [] (wv x I J) (rJ x Q) := by
  refine wp_seg (C := gC144) (pc1 := 5) (Lo1 := [some (.long p0), none, some (.int p1), some (.int (0 : Int32)), some (.int (0 : Int32))]) (st1' := []) (w1 := (wv x I J)) hC144 4 rfl ?_
  exact k
set_option maxRecDepth 20000 in
theorem v144_5 {S : Nat × (Nat → Int32)} {d : Nat} {x : mX} {I : rI0} {J : rJ0} {l0 : Int64} {l2 : Int32} {l3 : Int32} {l4 : Int32} {Q : Int64 → rI0 → rJ0 → Prop} (k : ((l4 < (64 : Int32) → (wcI S d 142 [.long l0, .int l4] x I J (fun r1 I1 J1 => ((r1 = (1 : Int32) → ((l3 = l2 → Q (l0 &&& (((1 : Int64) <<< (l4.toInt64 &&& 63)) ^^^ (-1 : Int64))) I1 J1) ∧ (¬ l3 = l2 → wp S (d + 1) 144 5 [some (.long l0), none, some (.int l2), some (.int (l3 + (1 : Int32))), some (.int (l4 + (1 : Int32)))] [] (wv x I1 J1) (rJ x Q)))) ∧ (¬ r1 = (1 : Int32) → wp S (d + 1) 144 5 [some (.long l0), none, some (.int l2), some (.int l3), some (.int (l4 + (1 : Int32)))] [] (wv x I1 J1) (rJ x Q)))))) ∧ (¬ l4 < (64 : Int32) → Q l0 I J))) : wp S (d + 1) 144 5 [some (.long l0), none, some (.int l2), some (.int l3), some (.int l4)] [] (wv x I J) (rJ x Q) := by
  refine wp_seg (C := gC144) (pc1 := 9) (Lo1 := [some (.long l0), none, some (.int l2), some (.int l3), some (.int l4)]) (st1' := [.int (64 : Int32), .int l4]) (w1 := (wv x I J)) hC144 2 rfl ?_
  refine wj_ge (tgt := 47) rfl rfl (fun h => ?_) (fun h => ?_)
  · have k := k.1 h
    refine wp_seg (C := gC144) (pc1 := 15) (Lo1 := [some (.long l0), none, some (.int l2), some (.int l3), some (.int l4)]) (st1' := [.int l4, .long l0]) (w1 := (wv x I J)) hC144 2 rfl ?_
    refine cs_I (mj := 142) (nn := 0) (as := [.long l0, .int l4]) (r := []) rfl rfl rfl ⟨rfl, by decide, Nat.le_of_ble_eq_true rfl, Nat.le_of_ble_eq_true rfl⟩ (by decide) (wcI_mono k (fun r1 I1 J1 k => ?_))
    refine wp_seg (C := gC144) (pc1 := 19) (Lo1 := [some (.long l0), none, some (.int l2), some (.int l3), some (.int l4)]) (st1' := [.int (1 : Int32), .int r1]) (w1 := (wv x I1 J1)) hC144 1 rfl ?_
    refine wj_ne (tgt := 41) rfl rfl (fun h => ?_) (fun h => ?_)
    · have k := k.1 h
      refine wp_seg (C := gC144) (pc1 := 24) (Lo1 := [some (.long l0), none, some (.int l2), some (.int l3), some (.int l4)]) (st1' := [.int l2, .int l3]) (w1 := (wv x I1 J1)) hC144 2 rfl ?_
      refine wj_ne (tgt := 38) rfl rfl (fun h => ?_) (fun h => ?_)
      · have k := k.1 h
        refine wp_seg (C := gC144) (pc1 := 37) (Lo1 := [some (.long l0), none, some (.int l2), some (.int l3), some (.int l4)]) (st1' := [.long (l0 &&& (((1 : Int64) <<< (l4.toInt64 &&& 63)) ^^^ (-1 : Int64)))]) (w1 := (wv x I1 J1)) hC144 7 rfl ?_
        exact we_l rfl rfl k
      · have k := k.2 h
        refine wp_seg (C := gC144) (pc1 := 44) (Lo1 := [some (.long l0), none, some (.int l2), some (.int (l3 + (1 : Int32))), some (.int (l4 + (1 : Int32)))]) (st1' := []) (w1 := (wv x I1 J1)) hC144 2 rfl ?_
        refine wp_seg (C := gC144) (pc1 := 5) (Lo1 := [some (.long l0), none, some (.int l2), some (.int (l3 + (1 : Int32))), some (.int (l4 + (1 : Int32)))]) (st1' := []) (w1 := (wv x I1 J1)) hC144 1 rfl ?_
        exact k
    · have k := k.2 h
      refine wp_seg (C := gC144) (pc1 := 5) (Lo1 := [some (.long l0), none, some (.int l2), some (.int l3), some (.int (l4 + (1 : Int32)))]) (st1' := []) (w1 := (wv x I1 J1)) hC144 2 rfl ?_
      exact k
  · have k := k.2 h
    refine wp_seg (C := gC144) (pc1 := 48) (Lo1 := [some (.long l0), none, some (.int l2), some (.int l3), some (.int l4)]) (st1' := [.long l0]) (w1 := (wv x I J)) hC144 1 rfl ?_
    exact we_l rfl rfl k
set_option maxRecDepth 20000 in
theorem v159_0 {S : Nat × (Nat → Int32)} {d : Nat} {x : mX} {I : rI0} {J : rJ0} {p0 : Int32} {Q : Int32 → rI0 → rJ0 → Prop} (k : ((p0 < (97 : Int32) → Q (0 : Int32) I J) ∧ (¬ p0 < (97 : Int32) → (((122 : Int32) < p0 → Q (0 : Int32) I J) ∧ (¬ (122 : Int32) < p0 → Q (1 : Int32) I J))))) : wp S d 159 0 [some (.int p0)] [] (wv x I J) (rI x Q) := by
  refine wp_seg (C := gC159) (pc1 := 3) (Lo1 := [some (.int p0)]) (st1' := [.int (97 : Int32), .int p0]) (w1 := (wv x I J)) hC159 2 rfl ?_
  refine wj_lt (tgt := 16) rfl rfl (fun h => ?_) (fun h => ?_)
  · have k := k.1 h
    refine wp_seg (C := gC159) (pc1 := 17) (Lo1 := [some (.int p0)]) (st1' := [.int (0 : Int32)]) (w1 := (wv x I J)) hC159 1 rfl ?_
    exact we_z rfl rfl (Or.inl rfl) k
  · have k := k.2 h
    refine wp_seg (C := gC159) (pc1 := 9) (Lo1 := [some (.int p0)]) (st1' := [.int (122 : Int32), .int p0]) (w1 := (wv x I J)) hC159 2 rfl ?_
    refine wj_gt (tgt := 16) rfl rfl (fun h => ?_) (fun h => ?_)
    · have k := k.1 h
      refine wp_seg (C := gC159) (pc1 := 17) (Lo1 := [some (.int p0)]) (st1' := [.int (0 : Int32)]) (w1 := (wv x I J)) hC159 1 rfl ?_
      exact we_z rfl rfl (Or.inl rfl) k
    · have k := k.2 h
      refine wp_seg (C := gC159) (pc1 := 17) (Lo1 := [some (.int p0)]) (st1' := [.int (1 : Int32)]) (w1 := (wv x I J)) hC159 2 rfl ?_
      exact we_z rfl rfl (Or.inr rfl) k
set_option maxRecDepth 20000 in
theorem v160_0 {S : Nat × (Nat → Int32)} {d : Nat} {x : mX} {I : rI0} {J : rJ0} {p0 : Int32} {Q : Int32 → rI0 → rJ0 → Prop} (k : ((p0 < (48 : Int32) → Q (0 : Int32) I J) ∧ (¬ p0 < (48 : Int32) → (((57 : Int32) < p0 → Q (0 : Int32) I J) ∧ (¬ (57 : Int32) < p0 → Q (1 : Int32) I J))))) : wp S d 160 0 [some (.int p0)] [] (wv x I J) (rI x Q) := by
  refine wp_seg (C := gC160) (pc1 := 3) (Lo1 := [some (.int p0)]) (st1' := [.int (48 : Int32), .int p0]) (w1 := (wv x I J)) hC160 2 rfl ?_
  refine wj_lt (tgt := 16) rfl rfl (fun h => ?_) (fun h => ?_)
  · have k := k.1 h
    refine wp_seg (C := gC160) (pc1 := 17) (Lo1 := [some (.int p0)]) (st1' := [.int (0 : Int32)]) (w1 := (wv x I J)) hC160 1 rfl ?_
    exact we_z rfl rfl (Or.inl rfl) k
  · have k := k.2 h
    refine wp_seg (C := gC160) (pc1 := 9) (Lo1 := [some (.int p0)]) (st1' := [.int (57 : Int32), .int p0]) (w1 := (wv x I J)) hC160 2 rfl ?_
    refine wj_gt (tgt := 16) rfl rfl (fun h => ?_) (fun h => ?_)
    · have k := k.1 h
      refine wp_seg (C := gC160) (pc1 := 17) (Lo1 := [some (.int p0)]) (st1' := [.int (0 : Int32)]) (w1 := (wv x I J)) hC160 1 rfl ?_
      exact we_z rfl rfl (Or.inl rfl) k
    · have k := k.2 h
      refine wp_seg (C := gC160) (pc1 := 17) (Lo1 := [some (.int p0)]) (st1' := [.int (1 : Int32)]) (w1 := (wv x I J)) hC160 2 rfl ?_
      exact we_z rfl rfl (Or.inr rfl) k
set_option maxRecDepth 20000 in
theorem v151_0 {S : Nat × (Nat → Int32)} {d : Nat} {x : mX} {I : rI0} {J : rJ0} {p0 : Int32} {p1 : Int32} {p2 : Int32} {Q : Int32 → rI0 → rJ0 → Prop} (k : ((p0 < p1 → Q (0 : Int32) I J) ∧ (¬ p0 < p1 → ((p2 < p0 → Q (0 : Int32) I J) ∧ (¬ p2 < p0 → Q (1 : Int32) I J))))) : wp S d 151 0 [some (.int p0), some (.int p1), some (.int p2)] [] (wv x I J) (rI x Q) := by
  refine wp_seg (C := gC151) (pc1 := 2) (Lo1 := [some (.int p0), some (.int p1), some (.int p2)]) (st1' := [.int p1, .int p0]) (w1 := (wv x I J)) hC151 2 rfl ?_
  refine wj_lt (tgt := 14) rfl rfl (fun h => ?_) (fun h => ?_)
  · have k := k.1 h
    refine wp_seg (C := gC151) (pc1 := 15) (Lo1 := [some (.int p0), some (.int p1), some (.int p2)]) (st1' := [.int (0 : Int32)]) (w1 := (wv x I J)) hC151 1 rfl ?_
    exact we_z rfl rfl (Or.inl rfl) k
  · have k := k.2 h
    refine wp_seg (C := gC151) (pc1 := 7) (Lo1 := [some (.int p0), some (.int p1), some (.int p2)]) (st1' := [.int p2, .int p0]) (w1 := (wv x I J)) hC151 2 rfl ?_
    refine wj_gt (tgt := 14) rfl rfl (fun h => ?_) (fun h => ?_)
    · have k := k.1 h
      refine wp_seg (C := gC151) (pc1 := 15) (Lo1 := [some (.int p0), some (.int p1), some (.int p2)]) (st1' := [.int (0 : Int32)]) (w1 := (wv x I J)) hC151 1 rfl ?_
      exact we_z rfl rfl (Or.inl rfl) k
    · have k := k.2 h
      refine wp_seg (C := gC151) (pc1 := 15) (Lo1 := [some (.int p0), some (.int p1), some (.int p2)]) (st1' := [.int (1 : Int32)]) (w1 := (wv x I J)) hC151 2 rfl ?_
      exact we_z rfl rfl (Or.inr rfl) k
set_option maxRecDepth 20000 in
theorem v152_0 {S : Nat × (Nat → Int32)} {d : Nat} {x : mX} {I : rI0} {J : rJ0} {p0 : Int32} {p1 : Int32} {Q : Int32 → rI0 → rJ0 → Prop} (k : ((((p0 >>> (p1 &&& 31)) &&& (1 : Int32)) = (1 : Int32) → Q (1 : Int32) I J) ∧ (¬ ((p0 >>> (p1 &&& 31)) &&& (1 : Int32)) = (1 : Int32) → Q (0 : Int32) I J))) : wp S d 152 0 [some (.int p0), some (.int p1)] [] (wv x I J) (rI x Q) := by
  refine wp_seg (C := gC152) (pc1 := 6) (Lo1 := [some (.int p0), some (.int p1)]) (st1' := [.int (1 : Int32), .int ((p0 >>> (p1 &&& 31)) &&& (1 : Int32))]) (w1 := (wv x I J)) hC152 6 rfl ?_
  refine wj_ne (tgt := 13) rfl rfl (fun h => ?_) (fun h => ?_)
  · have k := k.1 h
    refine wp_seg (C := gC152) (pc1 := 14) (Lo1 := [some (.int p0), some (.int p1)]) (st1' := [.int (1 : Int32)]) (w1 := (wv x I J)) hC152 2 rfl ?_
    exact we_z rfl rfl (Or.inr rfl) k
  · have k := k.2 h
    refine wp_seg (C := gC152) (pc1 := 14) (Lo1 := [some (.int p0), some (.int p1)]) (st1' := [.int (0 : Int32)]) (w1 := (wv x I J)) hC152 1 rfl ?_
    exact we_z rfl rfl (Or.inl rfl) k
set_option maxRecDepth 20000 in
theorem v174_0 {S : Nat × (Nat → Int32)} {d : Nat} {x : mX} {I : rI0} {J : rJ0} {p0 : Int32} {Q : Int32 → rI0 → rJ0 → Prop} (k : ((p0 = (3 : Int32) → Q (3 : Int32) I J) ∧ (¬ p0 = (3 : Int32) → ((p0 = (4 : Int32) → Q (2 : Int32) I J) ∧ (¬ p0 = (4 : Int32) → Q (1 : Int32) I J))))) : wp S d 174 0 [some (.int p0)] [] (wv x I J) (rI x Q) := by
  refine wp_seg (C := gC174) (pc1 := 2) (Lo1 := [some (.int p0)]) (st1' := [.int (3 : Int32), .int p0]) (w1 := (wv x I J)) hC174 2 rfl ?_
  refine wj_ne (tgt := 9) rfl rfl (fun h => ?_) (fun h => ?_)
  · have k := k.1 h
    refine wp_seg (C := gC174) (pc1 := 19) (Lo1 := [some (.int p0)]) (st1' := [.int (3 : Int32)]) (w1 := (wv x I J)) hC174 2 rfl ?_
    exact we_i rfl rfl k
  · have k := k.2 h
    refine wp_seg (C := gC174) (pc1 := 11) (Lo1 := [some (.int p0)]) (st1' := [.int (4 : Int32), .int p0]) (w1 := (wv x I J)) hC174 2 rfl ?_
    refine wj_ne (tgt := 18) rfl rfl (fun h => ?_) (fun h => ?_)
    · have k := k.1 h
      refine wp_seg (C := gC174) (pc1 := 19) (Lo1 := [some (.int p0)]) (st1' := [.int (2 : Int32)]) (w1 := (wv x I J)) hC174 2 rfl ?_
      exact we_i rfl rfl k
    · have k := k.2 h
      refine wp_seg (C := gC174) (pc1 := 19) (Lo1 := [some (.int p0)]) (st1' := [.int (1 : Int32)]) (w1 := (wv x I J)) hC174 1 rfl ?_
      exact we_i rfl rfl k
set_option maxRecDepth 20000 in
theorem v153_0 {S : Nat × (Nat → Int32)} {d : Nat} {x : mX} {I : rI0} {J : rJ0} {p0 : Int64} {p1 : Int32} {Q : Int32 → rI0 → rJ0 → Prop} (k : (((lg_cmp ((p0 >>> (p1.toInt64 &&& 63)) &&& (1 : Int64)) (1 : Int64)) = (0 : Int32) → Q (1 : Int32) I J) ∧ (¬ (lg_cmp ((p0 >>> (p1.toInt64 &&& 63)) &&& (1 : Int64)) (1 : Int64)) = (0 : Int32) → Q (0 : Int32) I J))) : wp S d 153 0 [some (.long p0), none, some (.int p1)] [] (wv x I J) (rI x Q) := by
  refine wp_seg (C := gC153) (pc1 := 7) (Lo1 := [some (.long p0), none, some (.int p1)]) (st1' := [.int (lg_cmp ((p0 >>> (p1.toInt64 &&& 63)) &&& (1 : Int64)) (1 : Int64))]) (w1 := (wv x I J)) hC153 7 rfl ?_
  refine wi_ne (tgt := 14) rfl rfl (fun h => ?_) (fun h => ?_)
  · have k := k.1 h
    refine wp_seg (C := gC153) (pc1 := 15) (Lo1 := [some (.long p0), none, some (.int p1)]) (st1' := [.int (1 : Int32)]) (w1 := (wv x I J)) hC153 2 rfl ?_
    exact we_z rfl rfl (Or.inr rfl) k
  · have k := k.2 h
    refine wp_seg (C := gC153) (pc1 := 15) (Lo1 := [some (.long p0), none, some (.int p1)]) (st1' := [.int (0 : Int32)]) (w1 := (wv x I J)) hC153 1 rfl ?_
    exact we_z rfl rfl (Or.inl rfl) k
set_option maxRecDepth 20000 in
theorem v154_0 {S : Nat × (Nat → Int32)} {d : Nat} {x : mX} {I : rI0} {J : rJ0} {p0 : Int64} {Q : Int32 → rI0 → rJ0 → Prop} (k : Q (((((((((p0 - (((p0.toUInt64 >>> ((1 : Int32).toInt64.toUInt64 &&& Int64.toUInt64 63)).toInt64) &&& (6148914691236517205 : Int64))) &&& (3689348814741910323 : Int64)) + ((((p0 - (((p0.toUInt64 >>> ((1 : Int32).toInt64.toUInt64 &&& Int64.toUInt64 63)).toInt64) &&& (6148914691236517205 : Int64))).toUInt64 >>> ((2 : Int32).toInt64.toUInt64 &&& Int64.toUInt64 63)).toInt64) &&& (3689348814741910323 : Int64))) + (((((p0 - (((p0.toUInt64 >>> ((1 : Int32).toInt64.toUInt64 &&& Int64.toUInt64 63)).toInt64) &&& (6148914691236517205 : Int64))) &&& (3689348814741910323 : Int64)) + ((((p0 - (((p0.toUInt64 >>> ((1 : Int32).toInt64.toUInt64 &&& Int64.toUInt64 63)).toInt64) &&& (6148914691236517205 : Int64))).toUInt64 >>> ((2 : Int32).toInt64.toUInt64 &&& Int64.toUInt64 63)).toInt64) &&& (3689348814741910323 : Int64))).toUInt64 >>> ((4 : Int32).toInt64.toUInt64 &&& Int64.toUInt64 63)).toInt64)) &&& (1085102592571150095 : Int64)) * (72340172838076673 : Int64)).toUInt64 >>> ((56 : Int32).toInt64.toUInt64 &&& Int64.toUInt64 63)).toInt64).toInt32) I J) : wp S d 154 0 [some (.long p0), none, none, none] [] (wv x I J) (rI x Q) := by
  refine wp_seg (C := gC154) (pc1 := 16) (Lo1 := [some (.long p0), none, some (.long (p0 - (((p0.toUInt64 >>> ((1 : Int32).toInt64.toUInt64 &&& Int64.toUInt64 63)).toInt64) &&& (6148914691236517205 : Int64)))), none]) (st1' := [.long (p0 - (((p0.toUInt64 >>> ((1 : Int32).toInt64.toUInt64 &&& Int64.toUInt64 63)).toInt64) &&& (6148914691236517205 : Int64))), .long ((p0 - (((p0.toUInt64 >>> ((1 : Int32).toInt64.toUInt64 &&& Int64.toUInt64 63)).toInt64) &&& (6148914691236517205 : Int64))) &&& (3689348814741910323 : Int64))]) (w1 := (wv x I J)) hC154 12 rfl ?_
  refine wp_seg (C := gC154) (pc1 := 32) (Lo1 := [some (.long p0), none, some (.long (((p0 - (((p0.toUInt64 >>> ((1 : Int32).toInt64.toUInt64 &&& Int64.toUInt64 63)).toInt64) &&& (6148914691236517205 : Int64))) &&& (3689348814741910323 : Int64)) + ((((p0 - (((p0.toUInt64 >>> ((1 : Int32).toInt64.toUInt64 &&& Int64.toUInt64 63)).toInt64) &&& (6148914691236517205 : Int64))).toUInt64 >>> ((2 : Int32).toInt64.toUInt64 &&& Int64.toUInt64 63)).toInt64) &&& (3689348814741910323 : Int64)))), none]) (st1' := [.long (1085102592571150095 : Int64), .long ((((p0 - (((p0.toUInt64 >>> ((1 : Int32).toInt64.toUInt64 &&& Int64.toUInt64 63)).toInt64) &&& (6148914691236517205 : Int64))) &&& (3689348814741910323 : Int64)) + ((((p0 - (((p0.toUInt64 >>> ((1 : Int32).toInt64.toUInt64 &&& Int64.toUInt64 63)).toInt64) &&& (6148914691236517205 : Int64))).toUInt64 >>> ((2 : Int32).toInt64.toUInt64 &&& Int64.toUInt64 63)).toInt64) &&& (3689348814741910323 : Int64))) + (((((p0 - (((p0.toUInt64 >>> ((1 : Int32).toInt64.toUInt64 &&& Int64.toUInt64 63)).toInt64) &&& (6148914691236517205 : Int64))) &&& (3689348814741910323 : Int64)) + ((((p0 - (((p0.toUInt64 >>> ((1 : Int32).toInt64.toUInt64 &&& Int64.toUInt64 63)).toInt64) &&& (6148914691236517205 : Int64))).toUInt64 >>> ((2 : Int32).toInt64.toUInt64 &&& Int64.toUInt64 63)).toInt64) &&& (3689348814741910323 : Int64))).toUInt64 >>> ((4 : Int32).toInt64.toUInt64 &&& Int64.toUInt64 63)).toInt64))]) (w1 := (wv x I J)) hC154 12 rfl ?_
  refine wp_seg (C := gC154) (pc1 := 43) (Lo1 := [some (.long p0), none, some (.long (((((p0 - (((p0.toUInt64 >>> ((1 : Int32).toInt64.toUInt64 &&& Int64.toUInt64 63)).toInt64) &&& (6148914691236517205 : Int64))) &&& (3689348814741910323 : Int64)) + ((((p0 - (((p0.toUInt64 >>> ((1 : Int32).toInt64.toUInt64 &&& Int64.toUInt64 63)).toInt64) &&& (6148914691236517205 : Int64))).toUInt64 >>> ((2 : Int32).toInt64.toUInt64 &&& Int64.toUInt64 63)).toInt64) &&& (3689348814741910323 : Int64))) + (((((p0 - (((p0.toUInt64 >>> ((1 : Int32).toInt64.toUInt64 &&& Int64.toUInt64 63)).toInt64) &&& (6148914691236517205 : Int64))) &&& (3689348814741910323 : Int64)) + ((((p0 - (((p0.toUInt64 >>> ((1 : Int32).toInt64.toUInt64 &&& Int64.toUInt64 63)).toInt64) &&& (6148914691236517205 : Int64))).toUInt64 >>> ((2 : Int32).toInt64.toUInt64 &&& Int64.toUInt64 63)).toInt64) &&& (3689348814741910323 : Int64))).toUInt64 >>> ((4 : Int32).toInt64.toUInt64 &&& Int64.toUInt64 63)).toInt64)) &&& (1085102592571150095 : Int64))), none]) (st1' := [.int (((((((((p0 - (((p0.toUInt64 >>> ((1 : Int32).toInt64.toUInt64 &&& Int64.toUInt64 63)).toInt64) &&& (6148914691236517205 : Int64))) &&& (3689348814741910323 : Int64)) + ((((p0 - (((p0.toUInt64 >>> ((1 : Int32).toInt64.toUInt64 &&& Int64.toUInt64 63)).toInt64) &&& (6148914691236517205 : Int64))).toUInt64 >>> ((2 : Int32).toInt64.toUInt64 &&& Int64.toUInt64 63)).toInt64) &&& (3689348814741910323 : Int64))) + (((((p0 - (((p0.toUInt64 >>> ((1 : Int32).toInt64.toUInt64 &&& Int64.toUInt64 63)).toInt64) &&& (6148914691236517205 : Int64))) &&& (3689348814741910323 : Int64)) + ((((p0 - (((p0.toUInt64 >>> ((1 : Int32).toInt64.toUInt64 &&& Int64.toUInt64 63)).toInt64) &&& (6148914691236517205 : Int64))).toUInt64 >>> ((2 : Int32).toInt64.toUInt64 &&& Int64.toUInt64 63)).toInt64) &&& (3689348814741910323 : Int64))).toUInt64 >>> ((4 : Int32).toInt64.toUInt64 &&& Int64.toUInt64 63)).toInt64)) &&& (1085102592571150095 : Int64)) * (72340172838076673 : Int64)).toUInt64 >>> ((56 : Int32).toInt64.toUInt64 &&& Int64.toUInt64 63)).toInt64).toInt32)]) (w1 := (wv x I J)) hC154 8 rfl ?_
  exact we_i rfl rfl k
set_option maxRecDepth 20000 in
theorem v203_0 {S : Nat × (Nat → Int32)} {d : Nat} {x : mX} {I : rI0} {J : rJ0} {p0 : Int32} {Q : Int32 → rI0 → rJ0 → Prop} (k : (wcI S d 151 [.int p0, .int (0 : Int32), .int (600 : Int32)] x I J (fun r1 I1 J1 => ((r1 = 0 ∨ r1 = 1) ∧ Q r1 I1 J1)))) : wp S (d + 1) 203 0 [some (.int p0)] [] (wv x I J) (rI x Q) := by
  refine wp_seg (C := gC203) (pc1 := 5) (Lo1 := [some (.int p0)]) (st1' := [.int (600 : Int32), .int (0 : Int32), .int p0]) (w1 := (wv x I J)) hC203 3 rfl ?_
  refine cs_I (mj := 151) (nn := 0) (as := [.int p0, .int (0 : Int32), .int (600 : Int32)]) (r := []) rfl rfl rfl ⟨rfl, by decide, Nat.le_of_ble_eq_true rfl, Nat.le_of_ble_eq_true rfl⟩ (by decide) (wcI_mono k (fun r1 I1 J1 k => ?_))
  exact we_z rfl rfl k.1 k.2
set_option maxRecDepth 20000 in
theorem v223_0 {S : Nat × (Nat → Int32)} {d : Nat} {x : mX} {I : rI0} {J : rJ0} {p0 : Int32} {Q : Int64 → rI0 → rJ0 → Prop} (k : wp S d 223 4 [some (.int p0), some (.long (1 : Int64)), none, some (.int (2 : Int32))] [] (wv x I J) (rJ x Q)) : wp S d 223 0 [some (.int p0), none, none, none] [] (wv x I J) (rJ x Q) := by
  refine wp_seg (C := gC223) (pc1 := 4) (Lo1 := [some (.int p0), some (.long (1 : Int64)), none, some (.int (2 : Int32))]) (st1' := []) (w1 := (wv x I J)) hC223 4 rfl ?_
  exact k
set_option maxRecDepth 20000 in
theorem v223_4 {S : Nat × (Nat → Int32)} {d : Nat} {x : mX} {I : rI0} {J : rJ0} {l0 : Int32} {l1 : Int64} {l3 : Int32} {Q : Int64 → rI0 → rJ0 → Prop} (k : ((l0 < l3 → Q l1 I J) ∧ (¬ l0 < l3 → wp S d 223 4 [some (.int l0), some (.long (l1 * l3.toInt64)), none, some (.int (l3 + (1 : Int32)))] [] (wv x I J) (rJ x Q)))) : wp S d 223 4 [some (.int l0), some (.long l1), none, some (.int l3)] [] (wv x I J) (rJ x Q) := by
  refine wp_seg (C := gC223) (pc1 := 6) (Lo1 := [some (.int l0), some (.long l1), none, some (.int l3)]) (st1' := [.int l0, .int l3]) (w1 := (wv x I J)) hC223 2 rfl ?_
  refine wj_gt (tgt := 20) rfl rfl (fun h => ?_) (fun h => ?_)
  · have k := k.1 h
    refine wp_seg (C := gC223) (pc1 := 21) (Lo1 := [some (.int l0), some (.long l1), none, some (.int l3)]) (st1' := [.long l1]) (w1 := (wv x I J)) hC223 1 rfl ?_
    exact we_l rfl rfl k
  · have k := k.2 h
    refine wp_seg (C := gC223) (pc1 := 17) (Lo1 := [some (.int l0), some (.long (l1 * l3.toInt64)), none, some (.int (l3 + (1 : Int32)))]) (st1' := []) (w1 := (wv x I J)) hC223 6 rfl ?_
    refine wp_seg (C := gC223) (pc1 := 4) (Lo1 := [some (.int l0), some (.long (l1 * l3.toInt64)), none, some (.int (l3 + (1 : Int32)))]) (st1' := []) (w1 := (wv x I J)) hC223 1 rfl ?_
    exact k
set_option maxRecDepth 20000 in
theorem v21_16_0 {S : Nat × (Nat → Int32)} {d : Nat} {x : mX} {I : rI0} {J : rJ0} {Q : rI0 → rJ0 → Prop} (k : (wcV S d 251 [.ref 18, .long (0 : Int64)] x (mSet (mSet (mSet (mSet (mSet I 16 0 (0 : Int32)) 16 1 (0 : Int32)) 16 2 (1 : Int32)) 16 3 (600 : Int32)) 16 4 (0 : Int32)) (mSet J 16 5 (0 : Int64)) (fun I1 J1 => (wcV S d 252 [.ref 19, .int (10 : Int32)] x I1 J1 (fun I2 J2 => (wcV S d 252 [.ref 20, .int (-1 : Int32)] x I2 J2 (fun I3 J3 => (wcV S d 252 [.ref 21, .int (-1 : Int32)] x I3 J3 (fun I4 J4 => Q I4 J4))))))))) : wp S (d + 1) 21 0 [some (.ref 16)] [] (wv x I J) (rV x Q) := by
  refine wp_seg (C := gC21) (pc1 := 22) (Lo1 := [some (.ref 16)]) (st1' := []) (w1 := (wv x (mSet (mSet (mSet (mSet I 16 0 (0 : Int32)) 16 1 (0 : Int32)) 16 2 (1 : Int32)) 16 3 (600 : Int32)) J)) hC21 12 rfl ?_
  refine wp_seg (C := gC21) (pc1 := 37) (Lo1 := [some (.ref 16)]) (st1' := [.long (0 : Int64), .ref 18]) (w1 := (wv x (mSet (mSet (mSet (mSet (mSet I 16 0 (0 : Int32)) 16 1 (0 : Int32)) 16 2 (1 : Int32)) 16 3 (600 : Int32)) 16 4 (0 : Int32)) (mSet J 16 5 (0 : Int64)))) hC21 9 rfl ?_
  refine cs_V (mj := 251) (nn := 0) (as := [.ref 18, .long (0 : Int64)]) (r := []) rfl rfl rfl ⟨rfl, by decide, Nat.le_of_ble_eq_true rfl, Nat.le_of_ble_eq_true rfl⟩ (by decide) (wcV_mono k (fun I1 J1 k => ?_))
  refine wp_seg (C := gC21) (pc1 := 46) (Lo1 := [some (.ref 16)]) (st1' := [.int (10 : Int32), .ref 19]) (w1 := (wv x I1 J1)) hC21 3 rfl ?_
  refine cs_V (mj := 252) (nn := 0) (as := [.ref 19, .int (10 : Int32)]) (r := []) rfl rfl rfl ⟨rfl, by decide, Nat.le_of_ble_eq_true rfl, Nat.le_of_ble_eq_true rfl⟩ (by decide) (wcV_mono k (fun I2 J2 k => ?_))
  refine wp_seg (C := gC21) (pc1 := 54) (Lo1 := [some (.ref 16)]) (st1' := [.int (-1 : Int32), .ref 20]) (w1 := (wv x I2 J2)) hC21 3 rfl ?_
  refine cs_V (mj := 252) (nn := 0) (as := [.ref 20, .int (-1 : Int32)]) (r := []) rfl rfl rfl ⟨rfl, by decide, Nat.le_of_ble_eq_true rfl, Nat.le_of_ble_eq_true rfl⟩ (by decide) (wcV_mono k (fun I3 J3 k => ?_))
  refine wp_seg (C := gC21) (pc1 := 62) (Lo1 := [some (.ref 16)]) (st1' := [.int (-1 : Int32), .ref 21]) (w1 := (wv x I3 J3)) hC21 3 rfl ?_
  refine cs_V (mj := 252) (nn := 0) (as := [.ref 21, .int (-1 : Int32)]) (r := []) rfl rfl rfl ⟨rfl, by decide, Nat.le_of_ble_eq_true rfl, Nat.le_of_ble_eq_true rfl⟩ (by decide) (wcV_mono k (fun I4 J4 k => ?_))
  exact we_v rfl rfl k
set_option maxRecDepth 20000 in
theorem v70_28_0 {S : Nat × (Nat → Int32)} {d : Nat} {x : mX} {I : rI0} {J : rJ0} {Q : rI0 → rJ0 → Prop} (k : (((I 28 5) < (I 28 1) → (¬ mOut (I 28 5) 940 ∧ (((I 2 ((I 28 5).toNatClampNeg)) = (32 : Int32) → wp S d 70 0 [some (.ref 28), none, none, none, none] [] (wv x (mSet I 28 5 ((I 28 5) + (1 : Int32))) J) (rV x Q)) ∧ (¬ (I 2 ((I 28 5).toNatClampNeg)) = (32 : Int32) → (¬ mOut (I 28 5) 940 ∧ (((I 2 ((I 28 5).toNatClampNeg)) = (10 : Int32) → wp S d 70 0 [some (.ref 28), none, none, none, none] [] (wv x (mSet I 28 5 ((I 28 5) + (1 : Int32))) J) (rV x Q)) ∧ (¬ (I 2 ((I 28 5).toNatClampNeg)) = (10 : Int32) → wp S d 70 52 [some (.ref 28), none, none, none, none] [] (wv x I J) (rV x Q)))))))) ∧ (¬ (I 28 5) < (I 28 1) → wp S d 70 52 [some (.ref 28), none, none, none, none] [] (wv x I J) (rV x Q)))) : wp S d 70 0 [some (.ref 28), none, none, none, none] [] (wv x I J) (rV x Q) := by
  refine wp_seg (C := gC70) (pc1 := 8) (Lo1 := [some (.ref 28), none, none, none, none]) (st1' := [.int (I 28 1), .int (I 28 5)]) (w1 := (wv x I J)) hC70 4 rfl ?_
  refine wj_ge (tgt := 52) rfl rfl (fun h => ?_) (fun h => ?_)
  · have k := k.1 h
    refine wp_seg (C := gC70) (pc1 := 19) (Lo1 := [some (.ref 28), none, none, none, none]) (st1' := [.int (I 28 5), .ref 2]) (w1 := (wv x I J)) hC70 4 rfl ?_
    refine wa_i (n := 940) rfl (by decide) rfl k.1 ?_
    have k := k.2
    refine wp_seg (C := gC70) (pc1 := 22) (Lo1 := [some (.ref 28), none, none, none, none]) (st1' := [.int (32 : Int32), .int (I 2 ((I 28 5).toNatClampNeg))]) (w1 := (wv x I J)) hC70 1 rfl ?_
    refine wj_eq (tgt := 39) rfl rfl (fun h => ?_) (fun h => ?_)
    · have k := k.1 h
      refine wp_seg (C := gC70) (pc1 := 0) (Lo1 := [some (.ref 28), none, none, none, none]) (st1' := []) (w1 := (wv x (mSet I 28 5 ((I 28 5) + (1 : Int32))) J)) hC70 7 rfl ?_
      exact k
    · have k := k.2 h
      refine wp_seg (C := gC70) (pc1 := 33) (Lo1 := [some (.ref 28), none, none, none, none]) (st1' := [.int (I 28 5), .ref 2]) (w1 := (wv x I J)) hC70 4 rfl ?_
      refine wa_i (n := 940) rfl (by decide) rfl k.1 ?_
      have k := k.2
      refine wp_seg (C := gC70) (pc1 := 36) (Lo1 := [some (.ref 28), none, none, none, none]) (st1' := [.int (10 : Int32), .int (I 2 ((I 28 5).toNatClampNeg))]) (w1 := (wv x I J)) hC70 1 rfl ?_
      refine wj_ne (tgt := 52) rfl rfl (fun h => ?_) (fun h => ?_)
      · have k := k.1 h
        refine wp_seg (C := gC70) (pc1 := 0) (Lo1 := [some (.ref 28), none, none, none, none]) (st1' := []) (w1 := (wv x (mSet I 28 5 ((I 28 5) + (1 : Int32))) J)) hC70 7 rfl ?_
        exact k
      · have k := k.2 h
        exact k
  · have k := k.2 h
    exact k
set_option maxRecDepth 20000 in
theorem v70_28_52 {S : Nat × (Nat → Int32)} {d : Nat} {x : mX} {I : rI0} {J : rJ0} {Q : rI0 → rJ0 → Prop} (k : (((I 28 5) < (I 28 2) → (¬ mOut (I 28 5) 940 ∧ wp S d 70 119 [some (.ref 28), some (.int (0 : Int32)), some (.int (0 : Int32)), some (.int (I 2 ((I 28 5).toNatClampNeg))), none] [] (wv x (mSet (mSet I 28 4 (I 28 5)) 28 6 (0 : Int32)) J) (rV x Q))) ∧ (¬ (I 28 5) < (I 28 2) → (((I 28 2) < (I 28 1) → Q (mSet (mSet I 28 4 (I 28 2)) 28 3 (0 : Int32)) J) ∧ (¬ (I 28 2) < (I 28 1) → Q (mSet (mSet I 28 4 (I 28 2)) 28 3 (1 : Int32)) J))))) : wp S d 70 52 [some (.ref 28), none, none, none, none] [] (wv x I J) (rV x Q) := by
  refine wp_seg (C := gC70) (pc1 := 60) (Lo1 := [some (.ref 28), none, none, none, none]) (st1' := [.int (I 28 2), .int (I 28 5)]) (w1 := (wv x I J)) hC70 4 rfl ?_
  refine wj_lt (tgt := 92) rfl rfl (fun h => ?_) (fun h => ?_)
  · have k := k.1 h
    refine wp_seg (C := gC70) (pc1 := 104) (Lo1 := [some (.ref 28), some (.int (0 : Int32)), some (.int (0 : Int32)), none, none]) (st1' := []) (w1 := (wv x (mSet I 28 4 (I 28 5)) J)) hC70 8 rfl ?_
    refine wp_seg (C := gC70) (pc1 := 117) (Lo1 := [some (.ref 28), some (.int (0 : Int32)), some (.int (0 : Int32)), none, none]) (st1' := [.int (I 28 5), .ref 2]) (w1 := (wv x (mSet (mSet I 28 4 (I 28 5)) 28 6 (0 : Int32)) J)) hC70 7 rfl ?_
    refine wa_i (n := 940) rfl (by decide) rfl k.1 ?_
    have k := k.2
    refine wp_seg (C := gC70) (pc1 := 119) (Lo1 := [some (.ref 28), some (.int (0 : Int32)), some (.int (0 : Int32)), some (.int (I 2 ((I 28 5).toNatClampNeg))), none]) (st1' := []) (w1 := (wv x (mSet (mSet I 28 4 (I 28 5)) 28 6 (0 : Int32)) J)) hC70 1 rfl ?_
    exact k
  · have k := k.2 h
    refine wp_seg (C := gC70) (pc1 := 80) (Lo1 := [some (.ref 28), none, none, none, none]) (st1' := [.int (I 28 2), .int (I 28 1), .ref 28]) (w1 := (wv x (mSet I 28 4 (I 28 2)) J)) hC70 9 rfl ?_
    refine wj_le (tgt := 87) rfl rfl (fun h => ?_) (fun h => ?_)
    · have k := k.1 h
      refine wp_seg (C := gC70) (pc1 := 91) (Lo1 := [some (.ref 28), none, none, none, none]) (st1' := []) (w1 := (wv x (mSet (mSet I 28 4 (I 28 2)) 28 3 (0 : Int32)) J)) hC70 3 rfl ?_
      exact we_v rfl rfl k
    · have k := k.2 h
      refine wp_seg (C := gC70) (pc1 := 91) (Lo1 := [some (.ref 28), none, none, none, none]) (st1' := []) (w1 := (wv x (mSet (mSet I 28 4 (I 28 2)) 28 3 (1 : Int32)) J)) hC70 2 rfl ?_
      exact we_v rfl rfl k
set_option maxRecDepth 20000 in
theorem v70_28_119 {S : Nat × (Nat → Int32)} {d : Nat} {x : mX} {I : rI0} {J : rJ0} {l1 : Int32} {l2 : Int32} {l3 : Int32} {Q : rI0 → rJ0 → Prop} (k : (((I 28 5) < (I 28 1) → ((l3 < (97 : Int32) → ((l3 < (48 : Int32) → wp S d 70 224 [some (.ref 28), some (.int l1), some (.int l2), some (.int l3), none] [] (wv x I J) (rV x Q)) ∧ (¬ l3 < (48 : Int32) → (((57 : Int32) < l3 → wp S d 70 224 [some (.ref 28), some (.int l1), some (.int l2), some (.int l3), none] [] (wv x I J) (rV x Q)) ∧ (¬ (57 : Int32) < l3 → wp S d 70 154 [some (.ref 28), some (.int l1), some (.int l2), some (.int l3), none] [] (wv x I J) (rV x Q)))))) ∧ (¬ l3 < (97 : Int32) → (((122 : Int32) < l3 → ((l3 < (48 : Int32) → wp S d 70 224 [some (.ref 28), some (.int l1), some (.int l2), some (.int l3), none] [] (wv x I J) (rV x Q)) ∧ (¬ l3 < (48 : Int32) → (((57 : Int32) < l3 → wp S d 70 224 [some (.ref 28), some (.int l1), some (.int l2), some (.int l3), none] [] (wv x I J) (rV x Q)) ∧ (¬ (57 : Int32) < l3 → wp S d 70 154 [some (.ref 28), some (.int l1), some (.int l2), some (.int l3), none] [] (wv x I J) (rV x Q)))))) ∧ (¬ (122 : Int32) < l3 → wp S d 70 154 [some (.ref 28), some (.int l1), some (.int l2), some (.int l3), none] [] (wv x I J) (rV x Q)))))) ∧ (¬ (I 28 5) < (I 28 1) → wp S d 70 224 [some (.ref 28), some (.int l1), some (.int l2), some (.int l3), none] [] (wv x I J) (rV x Q)))) : wp S d 70 119 [some (.ref 28), some (.int l1), some (.int l2), some (.int l3), none] [] (wv x I J) (rV x Q) := by
  refine wp_seg (C := gC70) (pc1 := 127) (Lo1 := [some (.ref 28), some (.int l1), some (.int l2), some (.int l3), none]) (st1' := [.int (I 28 1), .int (I 28 5)]) (w1 := (wv x I J)) hC70 4 rfl ?_
  refine wj_ge (tgt := 224) rfl rfl (fun h => ?_) (fun h => ?_)
  · have k := k.1 h
    refine wp_seg (C := gC70) (pc1 := 133) (Lo1 := [some (.ref 28), some (.int l1), some (.int l2), some (.int l3), none]) (st1' := [.int (97 : Int32), .int l3]) (w1 := (wv x I J)) hC70 2 rfl ?_
    refine wj_lt (tgt := 142) rfl rfl (fun h => ?_) (fun h => ?_)
    · have k := k.1 h
      refine wp_seg (C := gC70) (pc1 := 145) (Lo1 := [some (.ref 28), some (.int l1), some (.int l2), some (.int l3), none]) (st1' := [.int (48 : Int32), .int l3]) (w1 := (wv x I J)) hC70 2 rfl ?_
      refine wj_lt (tgt := 224) rfl rfl (fun h => ?_) (fun h => ?_)
      · have k := k.1 h
        exact k
      · have k := k.2 h
        refine wp_seg (C := gC70) (pc1 := 151) (Lo1 := [some (.ref 28), some (.int l1), some (.int l2), some (.int l3), none]) (st1' := [.int (57 : Int32), .int l3]) (w1 := (wv x I J)) hC70 2 rfl ?_
        refine wj_gt (tgt := 224) rfl rfl (fun h => ?_) (fun h => ?_)
        · have k := k.1 h
          exact k
        · have k := k.2 h
          exact k
    · have k := k.2 h
      refine wp_seg (C := gC70) (pc1 := 139) (Lo1 := [some (.ref 28), some (.int l1), some (.int l2), some (.int l3), none]) (st1' := [.int (122 : Int32), .int l3]) (w1 := (wv x I J)) hC70 2 rfl ?_
      refine wj_le (tgt := 154) rfl rfl (fun h => ?_) (fun h => ?_)
      · have k := k.1 h
        refine wp_seg (C := gC70) (pc1 := 145) (Lo1 := [some (.ref 28), some (.int l1), some (.int l2), some (.int l3), none]) (st1' := [.int (48 : Int32), .int l3]) (w1 := (wv x I J)) hC70 2 rfl ?_
        refine wj_lt (tgt := 224) rfl rfl (fun h => ?_) (fun h => ?_)
        · have k := k.1 h
          exact k
        · have k := k.2 h
          refine wp_seg (C := gC70) (pc1 := 151) (Lo1 := [some (.ref 28), some (.int l1), some (.int l2), some (.int l3), none]) (st1' := [.int (57 : Int32), .int l3]) (w1 := (wv x I J)) hC70 2 rfl ?_
          refine wj_gt (tgt := 224) rfl rfl (fun h => ?_) (fun h => ?_)
          · have k := k.1 h
            exact k
          · have k := k.2 h
            exact k
      · have k := k.2 h
        exact k
  · have k := k.2 h
    exact k
set_option maxRecDepth 20000 in
theorem v70_28_154 {S : Nat × (Nat → Int32)} {d : Nat} {x : mX} {I : rI0} {J : rJ0} {l1 : Int32} {l2 : Int32} {l3 : Int32} {Q : rI0 → rJ0 → Prop} (k : ((l3 < (97 : Int32) → wp S d 70 185 [some (.ref 28), some (.int l1), some (.int (l2 + (1 : Int32))), some (.int l3), none] [] (wv x (mSet I 28 6 ((((I 28 6) * (10 : Int32)) + l3) - (48 : Int32))) J) (rV x Q)) ∧ (¬ l3 < (97 : Int32) → wp S d 70 185 [some (.ref 28), some (.int (l1 + (1 : Int32))), some (.int l2), some (.int l3), none] [] (wv x I J) (rV x Q)))) : wp S d 70 154 [some (.ref 28), some (.int l1), some (.int l2), some (.int l3), none] [] (wv x I J) (rV x Q) := by
  refine wp_seg (C := gC70) (pc1 := 157) (Lo1 := [some (.ref 28), some (.int l1), some (.int l2), some (.int l3), none]) (st1' := [.int (97 : Int32), .int l3]) (w1 := (wv x I J)) hC70 2 rfl ?_
  refine wj_lt (tgt := 166) rfl rfl (fun h => ?_) (fun h => ?_)
  · have k := k.1 h
    refine wp_seg (C := gC70) (pc1 := 185) (Lo1 := [some (.ref 28), some (.int l1), some (.int (l2 + (1 : Int32))), some (.int l3), none]) (st1' := []) (w1 := (wv x (mSet I 28 6 ((((I 28 6) * (10 : Int32)) + l3) - (48 : Int32))) J)) hC70 11 rfl ?_
    exact k
  · have k := k.2 h
    refine wp_seg (C := gC70) (pc1 := 185) (Lo1 := [some (.ref 28), some (.int (l1 + (1 : Int32))), some (.int l2), some (.int l3), none]) (st1' := []) (w1 := (wv x I J)) hC70 2 rfl ?_
    exact k
set_option maxRecDepth 20000 in
theorem v70_28_185 {S : Nat × (Nat → Int32)} {d : Nat} {x : mX} {I : rI0} {J : rJ0} {l1 : Int32} {l2 : Int32} {l3 : Int32} {Q : rI0 → rJ0 → Prop} (k : ((((I 28 5) + (1 : Int32)) < (I 28 1) → (¬ mOut ((I 28 5) + (1 : Int32)) 940 ∧ wp S d 70 119 [some (.ref 28), some (.int l1), some (.int l2), some (.int (I 2 (((I 28 5) + (1 : Int32)).toNatClampNeg))), none] [] (wv x (mSet I 28 5 ((I 28 5) + (1 : Int32))) J) (rV x Q))) ∧ (¬ ((I 28 5) + (1 : Int32)) < (I 28 1) → wp S d 70 119 [some (.ref 28), some (.int l1), some (.int l2), some (.int (32 : Int32)), none] [] (wv x (mSet I 28 5 ((I 28 5) + (1 : Int32))) J) (rV x Q)))) : wp S d 70 185 [some (.ref 28), some (.int l1), some (.int l2), some (.int l3), none] [] (wv x I J) (rV x Q) := by
  refine wp_seg (C := gC70) (pc1 := 203) (Lo1 := [some (.ref 28), some (.int l1), some (.int l2), some (.int l3), none]) (st1' := [.int (I 28 1), .int ((I 28 5) + (1 : Int32))]) (w1 := (wv x (mSet I 28 5 ((I 28 5) + (1 : Int32))) J)) hC70 10 rfl ?_
  refine wj_ge (tgt := 218) rfl rfl (fun h => ?_) (fun h => ?_)
  · have k := k.1 h
    refine wp_seg (C := gC70) (pc1 := 214) (Lo1 := [some (.ref 28), some (.int l1), some (.int l2), some (.int l3), none]) (st1' := [.int ((I 28 5) + (1 : Int32)), .ref 2]) (w1 := (wv x (mSet I 28 5 ((I 28 5) + (1 : Int32))) J)) hC70 4 rfl ?_
    refine wa_i (n := 940) rfl (by decide) rfl k.1 ?_
    have k := k.2
    refine wp_seg (C := gC70) (pc1 := 119) (Lo1 := [some (.ref 28), some (.int l1), some (.int l2), some (.int (I 2 (((I 28 5) + (1 : Int32)).toNatClampNeg))), none]) (st1' := []) (w1 := (wv x (mSet I 28 5 ((I 28 5) + (1 : Int32))) J)) hC70 3 rfl ?_
    exact k
  · have k := k.2 h
    refine wp_seg (C := gC70) (pc1 := 119) (Lo1 := [some (.ref 28), some (.int l1), some (.int l2), some (.int (32 : Int32)), none]) (st1' := []) (w1 := (wv x (mSet I 28 5 ((I 28 5) + (1 : Int32))) J)) hC70 3 rfl ?_
    exact k
set_option maxRecDepth 20000 in
theorem v70_28_224 {S : Nat × (Nat → Int32)} {d : Nat} {x : mX} {I : rI0} {J : rJ0} {l1 : Int32} {l2 : Int32} {l3 : Int32} {Q : rI0 → rJ0 → Prop} (k : (((l1 + l2) = (0 : Int32) → ((l3 = (59 : Int32) → wp S d 70 270 [some (.ref 28), some (.int l1), some (.int l2), some (.int l3), none] [] (wv x (mSet I 28 5 ((I 28 5) + (1 : Int32))) J) (rV x Q)) ∧ (¬ l3 = (59 : Int32) → ((l3 = (40 : Int32) → wp S d 70 270 [some (.ref 28), some (.int l1), some (.int l2), some (.int l3), none] [] (wv x (mSet I 28 5 ((I 28 5) + (1 : Int32))) J) (rV x Q)) ∧ (¬ l3 = (40 : Int32) → ((l3 = (41 : Int32) → wp S d 70 270 [some (.ref 28), some (.int l1), some (.int l2), some (.int l3), none] [] (wv x (mSet I 28 5 ((I 28 5) + (1 : Int32))) J) (rV x Q)) ∧ (¬ l3 = (41 : Int32) → ((l3 < (60 : Int32) → (((0 : Int32) = (0 : Int32) → Q (mSet (mSet I 28 5 ((I 28 5) + (1 : Int32))) 28 3 (0 : Int32)) J) ∧ (¬ (0 : Int32) = (0 : Int32) → Q (mSet (mSet I 28 5 ((I 28 5) + (1 : Int32))) 28 3 l3) J))) ∧ (¬ l3 < (60 : Int32) → (((62 : Int32) < l3 → (((0 : Int32) = (0 : Int32) → Q (mSet (mSet I 28 5 ((I 28 5) + (1 : Int32))) 28 3 (0 : Int32)) J) ∧ (¬ (0 : Int32) = (0 : Int32) → Q (mSet (mSet I 28 5 ((I 28 5) + (1 : Int32))) 28 3 l3) J))) ∧ (¬ (62 : Int32) < l3 → wp S d 70 270 [some (.ref 28), some (.int l1), some (.int l2), some (.int l3), none] [] (wv x (mSet I 28 5 ((I 28 5) + (1 : Int32))) J) (rV x Q)))))))))))) ∧ (¬ (l1 + l2) = (0 : Int32) → ((l2 = (0 : Int32) → (((8 : Int32) < l1 → Q (mSet I 28 3 (0 : Int32)) J) ∧ (¬ (8 : Int32) < l1 → Q (mSet I 28 3 (2 : Int32)) J))) ∧ (¬ l2 = (0 : Int32) → ((l1 = (0 : Int32) → (((3 : Int32) < l2 → Q (mSet I 28 3 (0 : Int32)) J) ∧ (¬ (3 : Int32) < l2 → Q (mSet I 28 3 (3 : Int32)) J))) ∧ (¬ l1 = (0 : Int32) → Q (mSet I 28 3 (0 : Int32)) J))))))) : wp S d 70 224 [some (.ref 28), some (.int l1), some (.int l2), some (.int l3), none] [] (wv x I J) (rV x Q) := by
  refine wp_seg (C := gC70) (pc1 := 227) (Lo1 := [some (.ref 28), some (.int l1), some (.int l2), some (.int l3), none]) (st1' := [.int (l1 + l2)]) (w1 := (wv x I J)) hC70 3 rfl ?_
  refine wi_ne (tgt := 294) rfl rfl (fun h => ?_) (fun h => ?_)
  · have k := k.1 h
    refine wp_seg (C := gC70) (pc1 := 243) (Lo1 := [some (.ref 28), some (.int l1), some (.int l2), some (.int l3), none]) (st1' := [.int (59 : Int32), .int l3]) (w1 := (wv x (mSet I 28 5 ((I 28 5) + (1 : Int32))) J)) hC70 8 rfl ?_
    refine wj_eq (tgt := 270) rfl rfl (fun h => ?_) (fun h => ?_)
    · have k := k.1 h
      exact k
    · have k := k.2 h
      refine wp_seg (C := gC70) (pc1 := 249) (Lo1 := [some (.ref 28), some (.int l1), some (.int l2), some (.int l3), none]) (st1' := [.int (40 : Int32), .int l3]) (w1 := (wv x (mSet I 28 5 ((I 28 5) + (1 : Int32))) J)) hC70 2 rfl ?_
      refine wj_eq (tgt := 270) rfl rfl (fun h => ?_) (fun h => ?_)
      · have k := k.1 h
        exact k
      · have k := k.2 h
        refine wp_seg (C := gC70) (pc1 := 255) (Lo1 := [some (.ref 28), some (.int l1), some (.int l2), some (.int l3), none]) (st1' := [.int (41 : Int32), .int l3]) (w1 := (wv x (mSet I 28 5 ((I 28 5) + (1 : Int32))) J)) hC70 2 rfl ?_
        refine wj_eq (tgt := 270) rfl rfl (fun h => ?_) (fun h => ?_)
        · have k := k.1 h
          exact k
        · have k := k.2 h
          refine wp_seg (C := gC70) (pc1 := 261) (Lo1 := [some (.ref 28), some (.int l1), some (.int l2), some (.int l3), none]) (st1' := [.int (60 : Int32), .int l3]) (w1 := (wv x (mSet I 28 5 ((I 28 5) + (1 : Int32))) J)) hC70 2 rfl ?_
          refine wj_lt (tgt := 274) rfl rfl (fun h => ?_) (fun h => ?_)
          · have k := k.1 h
            refine wp_seg (C := gC70) (pc1 := 280) (Lo1 := [some (.ref 28), some (.int l1), some (.int l2), some (.int l3), some (.int (0 : Int32))]) (st1' := [.int (0 : Int32), .ref 28]) (w1 := (wv x (mSet I 28 5 ((I 28 5) + (1 : Int32))) J)) hC70 4 rfl ?_
            refine wi_eq (tgt := 287) rfl rfl (fun h => ?_) (fun h => ?_)
            · have k := k.1 h
              refine wp_seg (C := gC70) (pc1 := 334) (Lo1 := [some (.ref 28), some (.int l1), some (.int l2), some (.int l3), some (.int (0 : Int32))]) (st1' := []) (w1 := (wv x (mSet (mSet I 28 5 ((I 28 5) + (1 : Int32))) 28 3 (0 : Int32)) J)) hC70 3 rfl ?_
              exact we_v rfl rfl k
            · have k := k.2 h
              refine wp_seg (C := gC70) (pc1 := 334) (Lo1 := [some (.ref 28), some (.int l1), some (.int l2), some (.int l3), some (.int (0 : Int32))]) (st1' := []) (w1 := (wv x (mSet (mSet I 28 5 ((I 28 5) + (1 : Int32))) 28 3 l3) J)) hC70 4 rfl ?_
              exact we_v rfl rfl k
          · have k := k.2 h
            refine wp_seg (C := gC70) (pc1 := 267) (Lo1 := [some (.ref 28), some (.int l1), some (.int l2), some (.int l3), none]) (st1' := [.int (62 : Int32), .int l3]) (w1 := (wv x (mSet I 28 5 ((I 28 5) + (1 : Int32))) J)) hC70 2 rfl ?_
            refine wj_gt (tgt := 274) rfl rfl (fun h => ?_) (fun h => ?_)
            · have k := k.1 h
              refine wp_seg (C := gC70) (pc1 := 280) (Lo1 := [some (.ref 28), some (.int l1), some (.int l2), some (.int l3), some (.int (0 : Int32))]) (st1' := [.int (0 : Int32), .ref 28]) (w1 := (wv x (mSet I 28 5 ((I 28 5) + (1 : Int32))) J)) hC70 4 rfl ?_
              refine wi_eq (tgt := 287) rfl rfl (fun h => ?_) (fun h => ?_)
              · have k := k.1 h
                refine wp_seg (C := gC70) (pc1 := 334) (Lo1 := [some (.ref 28), some (.int l1), some (.int l2), some (.int l3), some (.int (0 : Int32))]) (st1' := []) (w1 := (wv x (mSet (mSet I 28 5 ((I 28 5) + (1 : Int32))) 28 3 (0 : Int32)) J)) hC70 3 rfl ?_
                exact we_v rfl rfl k
              · have k := k.2 h
                refine wp_seg (C := gC70) (pc1 := 334) (Lo1 := [some (.ref 28), some (.int l1), some (.int l2), some (.int l3), some (.int (0 : Int32))]) (st1' := []) (w1 := (wv x (mSet (mSet I 28 5 ((I 28 5) + (1 : Int32))) 28 3 l3) J)) hC70 4 rfl ?_
                exact we_v rfl rfl k
            · have k := k.2 h
              exact k
  · have k := k.2 h
    refine wp_seg (C := gC70) (pc1 := 295) (Lo1 := [some (.ref 28), some (.int l1), some (.int l2), some (.int l3), none]) (st1' := [.int l2]) (w1 := (wv x I J)) hC70 1 rfl ?_
    refine wi_ne (tgt := 316) rfl rfl (fun h => ?_) (fun h => ?_)
    · have k := k.1 h
      refine wp_seg (C := gC70) (pc1 := 302) (Lo1 := [some (.ref 28), some (.int l1), some (.int l2), some (.int l3), none]) (st1' := [.int (8 : Int32), .int l1, .ref 28]) (w1 := (wv x I J)) hC70 3 rfl ?_
      refine wj_gt (tgt := 309) rfl rfl (fun h => ?_) (fun h => ?_)
      · have k := k.1 h
        refine wp_seg (C := gC70) (pc1 := 334) (Lo1 := [some (.ref 28), some (.int l1), some (.int l2), some (.int l3), none]) (st1' := []) (w1 := (wv x (mSet I 28 3 (0 : Int32)) J)) hC70 3 rfl ?_
        exact we_v rfl rfl k
      · have k := k.2 h
        refine wp_seg (C := gC70) (pc1 := 334) (Lo1 := [some (.ref 28), some (.int l1), some (.int l2), some (.int l3), none]) (st1' := []) (w1 := (wv x (mSet I 28 3 (2 : Int32)) J)) hC70 4 rfl ?_
        exact we_v rfl rfl k
    · have k := k.2 h
      refine wp_seg (C := gC70) (pc1 := 318) (Lo1 := [some (.ref 28), some (.int l1), some (.int l2), some (.int l3), none]) (st1' := [.int l1, .ref 28]) (w1 := (wv x I J)) hC70 2 rfl ?_
      refine wi_ne (tgt := 330) rfl rfl (fun h => ?_) (fun h => ?_)
      · have k := k.1 h
        refine wp_seg (C := gC70) (pc1 := 323) (Lo1 := [some (.ref 28), some (.int l1), some (.int l2), some (.int l3), none]) (st1' := [.int (3 : Int32), .int l2, .ref 28]) (w1 := (wv x I J)) hC70 2 rfl ?_
        refine wj_gt (tgt := 330) rfl rfl (fun h => ?_) (fun h => ?_)
        · have k := k.1 h
          refine wp_seg (C := gC70) (pc1 := 334) (Lo1 := [some (.ref 28), some (.int l1), some (.int l2), some (.int l3), none]) (st1' := []) (w1 := (wv x (mSet I 28 3 (0 : Int32)) J)) hC70 2 rfl ?_
          exact we_v rfl rfl k
        · have k := k.2 h
          refine wp_seg (C := gC70) (pc1 := 334) (Lo1 := [some (.ref 28), some (.int l1), some (.int l2), some (.int l3), none]) (st1' := []) (w1 := (wv x (mSet I 28 3 (3 : Int32)) J)) hC70 3 rfl ?_
          exact we_v rfl rfl k
      · have k := k.2 h
        refine wp_seg (C := gC70) (pc1 := 334) (Lo1 := [some (.ref 28), some (.int l1), some (.int l2), some (.int l3), none]) (st1' := []) (w1 := (wv x (mSet I 28 3 (0 : Int32)) J)) hC70 2 rfl ?_
        exact we_v rfl rfl k
set_option maxRecDepth 20000 in
theorem v70_28_270 {S : Nat × (Nat → Int32)} {d : Nat} {x : mX} {I : rI0} {J : rJ0} {l1 : Int32} {l2 : Int32} {l3 : Int32} {Q : rI0 → rJ0 → Prop} (k : (((1 : Int32) = (0 : Int32) → Q (mSet I 28 3 (0 : Int32)) J) ∧ (¬ (1 : Int32) = (0 : Int32) → Q (mSet I 28 3 l3) J))) : wp S d 70 270 [some (.ref 28), some (.int l1), some (.int l2), some (.int l3), none] [] (wv x I J) (rV x Q) := by
  refine wp_seg (C := gC70) (pc1 := 280) (Lo1 := [some (.ref 28), some (.int l1), some (.int l2), some (.int l3), some (.int (1 : Int32))]) (st1' := [.int (1 : Int32), .ref 28]) (w1 := (wv x I J)) hC70 5 rfl ?_
  refine wi_eq (tgt := 287) rfl rfl (fun h => ?_) (fun h => ?_)
  · have k := k.1 h
    refine wp_seg (C := gC70) (pc1 := 334) (Lo1 := [some (.ref 28), some (.int l1), some (.int l2), some (.int l3), some (.int (1 : Int32))]) (st1' := []) (w1 := (wv x (mSet I 28 3 (0 : Int32)) J)) hC70 3 rfl ?_
    exact we_v rfl rfl k
  · have k := k.2 h
    refine wp_seg (C := gC70) (pc1 := 334) (Lo1 := [some (.ref 28), some (.int l1), some (.int l2), some (.int l3), some (.int (1 : Int32))]) (st1' := []) (w1 := (wv x (mSet I 28 3 l3) J)) hC70 4 rfl ?_
    exact we_v rfl rfl k
set_option maxRecDepth 20000 in
theorem v73_28_1000001_0 {S : Nat × (Nat → Int32)} {d : Nat} {x : mX} {I : rI0} {J : rJ0} {Q : Int32 → rI0 → rJ0 → Prop} (k : (((I 28 3) = (2 : Int32) → wp S (d + 7) 73 12 [some (.ref 28), some (.ref 1000001), some (.int (0 : Int32))] [] (wv x I J) (rI x Q)) ∧ (¬ (I 28 3) = (2 : Int32) → Q (-1 : Int32) I J))) : wp S (d + 7) 73 0 [some (.ref 28), some (.ref 1000001), none] [] (wv x I J) (rI x Q) := by
  refine wp_seg (C := gC73) (pc1 := 5) (Lo1 := [some (.ref 28), some (.ref 1000001), none]) (st1' := [.int (2 : Int32), .int (I 28 3)]) (w1 := (wv x I J)) hC73 3 rfl ?_
  refine wj_eq (tgt := 10) rfl rfl (fun h => ?_) (fun h => ?_)
  · have k := k.1 h
    refine wp_seg (C := gC73) (pc1 := 12) (Lo1 := [some (.ref 28), some (.ref 1000001), some (.int (0 : Int32))]) (st1' := []) (w1 := (wv x I J)) hC73 2 rfl ?_
    exact k
  · have k := k.2 h
    refine wp_seg (C := gC73) (pc1 := 9) (Lo1 := [some (.ref 28), some (.ref 1000001), none]) (st1' := [.int (-1 : Int32)]) (w1 := (wv x I J)) hC73 1 rfl ?_
    exact we_i rfl rfl k
set_option maxRecDepth 20000 in
theorem v73_28_1000001_12 {S : Nat × (Nat → Int32)} {d : Nat} {x : mX} {I : rI0} {J : rJ0} {l2 : Int32} {Q : Int32 → rI0 → rJ0 → Prop} (k : (((64 : Int32) < (l2 + (8 : Int32)) → Q (-1 : Int32) I J) ∧ (¬ (64 : Int32) < (l2 + (8 : Int32)) → (wcI S (d + 6) 74 [.ref 28, .ref 1000001, .int l2] x I J (fun r1 I1 J1 => ((r1 = (0 : Int32) → wp S (d + 7) 73 12 [some (.ref 28), some (.ref 1000001), some (.int (l2 + (8 : Int32)))] [] (wv x I1 J1) (rI x Q)) ∧ (¬ r1 = (0 : Int32) → (¬ (8 : Int32) = 0 ∧ Q (l2 / (8 : Int32)) I1 J1)))))))) : wp S (d + 7) 73 12 [some (.ref 28), some (.ref 1000001), some (.int l2)] [] (wv x I J) (rI x Q) := by
  refine wp_seg (C := gC73) (pc1 := 17) (Lo1 := [some (.ref 28), some (.ref 1000001), some (.int l2)]) (st1' := [.ref 1000001, .int (l2 + (8 : Int32))]) (w1 := (wv x I J)) hC73 4 rfl ?_
  refine wq_sln (v := (64 : Int32)) rfl rfl (by decide) (Nat.le_of_ble_eq_true rfl) (by decide +kernel) ?_
  refine wj_gt (tgt := 43) rfl rfl (fun h => ?_) (fun h => ?_)
  · have k := k.1 h
    refine wp_seg (C := gC73) (pc1 := 44) (Lo1 := [some (.ref 28), some (.ref 1000001), some (.int l2)]) (st1' := [.int (-1 : Int32)]) (w1 := (wv x I J)) hC73 1 rfl ?_
    exact we_i rfl rfl k
  · have k := k.2 h
    refine wp_seg (C := gC73) (pc1 := 26) (Lo1 := [some (.ref 28), some (.ref 1000001), some (.int l2)]) (st1' := [.int l2, .ref 1000001, .ref 28]) (w1 := (wv x I J)) hC73 3 rfl ?_
    refine cv_I (mj := 74) (a := 28) (as := [.ref 1000001, .int l2]) (r := []) rfl rfl rfl ⟨rfl, by decide, Nat.le_of_ble_eq_true rfl, Nat.le_of_ble_eq_true rfl⟩ rfl (wcI_mono k (fun r1 I1 J1 k => ?_))
    refine wi_eq (tgt := 37) rfl rfl (fun h => ?_) (fun h => ?_)
    · have k := k.1 h
      refine wp_seg (C := gC73) (pc1 := 12) (Lo1 := [some (.ref 28), some (.ref 1000001), some (.int (l2 + (8 : Int32)))]) (st1' := []) (w1 := (wv x I1 J1)) hC73 2 rfl ?_
      exact k
    · have k := k.2 h
      refine wp_seg (C := gC73) (pc1 := 35) (Lo1 := [some (.ref 28), some (.ref 1000001), some (.int l2)]) (st1' := [.int (8 : Int32), .int l2]) (w1 := (wv x I1 J1)) hC73 2 rfl ?_
      refine wd_i rfl k.1 ?_
      have k := k.2
      exact we_i rfl rfl k
set_option maxRecDepth 20000 in
theorem v75_28_0 {S : Nat × (Nat → Int32)} {d : Nat} {x : mX} {I : rI0} {J : rJ0} {p1 : Int32} {Q : Int32 → rI0 → rJ0 → Prop} (k : Q (0 : Int32) (mSet I 28 8 p1) J) : wp S d 75 0 [some (.ref 28), some (.int p1)] [] (wv x I J) (rI x Q) := by
  refine wp_seg (C := gC75) (pc1 := 6) (Lo1 := [some (.ref 28), some (.int p1)]) (st1' := [.int (0 : Int32)]) (w1 := (wv x (mSet I 28 8 p1) J)) hC75 4 rfl ?_
  exact we_z rfl rfl (Or.inl rfl) k
set_option maxRecDepth 20000 in
theorem v78_28_0 {S : Nat × (Nat → Int32)} {d : Nat} {x : mX} {I : rI0} {J : rJ0} {p1 : Int32} {Q : Int32 → rI0 → rJ0 → Prop} (k : (((I 28 3) = p1 → (wcV S d 70 [.ref 28] x I J (fun I1 J1 => Q (1 : Int32) I1 J1))) ∧ (¬ (I 28 3) = p1 → (wcI S d 75 [.ref 28, .int (1 : Int32)] x I J (fun r2 I2 J2 => ((r2 = 0 ∨ r2 = 1) ∧ Q r2 I2 J2)))))) : wp S (d + 1) 78 0 [some (.ref 28), some (.int p1)] [] (wv x I J) (rI x Q) := by
  refine wp_seg (C := gC78) (pc1 := 5) (Lo1 := [some (.ref 28), some (.int p1)]) (st1' := [.int p1, .int (I 28 3)]) (w1 := (wv x I J)) hC78 3 rfl ?_
  refine wj_eq (tgt := 14) rfl rfl (fun h => ?_) (fun h => ?_)
  · have k := k.1 h
    refine wp_seg (C := gC78) (pc1 := 15) (Lo1 := [some (.ref 28), some (.int p1)]) (st1' := [.ref 28]) (w1 := (wv x I J)) hC78 1 rfl ?_
    refine cv_V (mj := 70) (a := 28) (as := []) (r := []) rfl rfl rfl ⟨rfl, by decide, Nat.le_of_ble_eq_true rfl, Nat.le_of_ble_eq_true rfl⟩ rfl (wcV_mono k (fun I1 J1 k => ?_))
    refine wp_seg (C := gC78) (pc1 := 19) (Lo1 := [some (.ref 28), some (.int p1)]) (st1' := [.int (1 : Int32)]) (w1 := (wv x I1 J1)) hC78 1 rfl ?_
    exact we_z rfl rfl (Or.inr rfl) k
  · have k := k.2 h
    refine wp_seg (C := gC78) (pc1 := 10) (Lo1 := [some (.ref 28), some (.int p1)]) (st1' := [.int (1 : Int32), .ref 28]) (w1 := (wv x I J)) hC78 2 rfl ?_
    refine cv_I (mj := 75) (a := 28) (as := [.int (1 : Int32)]) (r := []) rfl rfl rfl ⟨rfl, by decide, Nat.le_of_ble_eq_true rfl, Nat.le_of_ble_eq_true rfl⟩ rfl (wcI_mono k (fun r2 I2 J2 k => ?_))
    exact we_z rfl rfl k.1 k.2
set_option maxRecDepth 20000 in
theorem v38_29_0 {S : Nat × (Nat → Int32)} {d : Nat} {x : mX} {I : rI0} {J : rJ0} {Q : Int32 → rI0 → rJ0 → Prop} (k : (((I 16 0) < (8 : Int32) → (wcV S d 70 [.ref 28] x I J (fun I1 J1 => (((I1 28 3) = (2 : Int32) → (wcI S d 71 [.ref 28] x I1 J1 (fun r2 I2 J2 => (((8 : Int32) < r2 → (wcI S d 75 [.ref 28, .int (2 : Int32)] x I2 J2 (fun r3 I3 J3 => ((r3 = 0 ∨ r3 = 1) ∧ Q r3 I3 J3)))) ∧ (¬ (8 : Int32) < r2 → (((0 : Int32) < (I2 16 0) → ((r2 = (I2 16 1) → wp S (d + 1) 38 102 [some (.ref 29), some (.int r2), some (.int (0 : Int32)), none] [] (wv x (mSet I2 16 1 r2) J2) (rI x Q)) ∧ (¬ r2 = (I2 16 1) → (wcI S d 75 [.ref 28, .int (2 : Int32)] x I2 J2 (fun r4 I4 J4 => ((r4 = 0 ∨ r4 = 1) ∧ Q r4 I4 J4)))))) ∧ (¬ (0 : Int32) < (I2 16 0) → wp S (d + 1) 38 102 [some (.ref 29), some (.int r2), some (.int (0 : Int32)), none] [] (wv x (mSet I2 16 1 r2) J2) (rI x Q)))))))) ∧ (¬ (I1 28 3) = (2 : Int32) → (wcI S d 75 [.ref 28, .int (1 : Int32)] x I1 J1 (fun r5 I5 J5 => ((r5 = 0 ∨ r5 = 1) ∧ Q r5 I5 J5)))))))) ∧ (¬ (I 16 0) < (8 : Int32) → (wcI S d 75 [.ref 28, .int (4 : Int32)] x I J (fun r6 I6 J6 => ((r6 = 0 ∨ r6 = 1) ∧ Q r6 I6 J6)))))) : wp S (d + 1) 38 0 [some (.ref 29), none, none, none] [] (wv x I J) (rI x Q) := by
  refine wp_seg (C := gC38) (pc1 := 9) (Lo1 := [some (.ref 29), none, none, none]) (st1' := [.int (8 : Int32), .int (I 16 0)]) (w1 := (wv x I J)) hC38 4 rfl ?_
  refine wj_lt (tgt := 21) rfl rfl (fun h => ?_) (fun h => ?_)
  · have k := k.1 h
    refine wp_seg (C := gC38) (pc1 := 25) (Lo1 := [some (.ref 29), none, none, none]) (st1' := [.ref 28]) (w1 := (wv x I J)) hC38 2 rfl ?_
    refine cv_V (mj := 70) (a := 28) (as := []) (r := []) rfl rfl rfl ⟨rfl, by decide, Nat.le_of_ble_eq_true rfl, Nat.le_of_ble_eq_true rfl⟩ rfl (wcV_mono k (fun I1 J1 k => ?_))
    refine wp_seg (C := gC38) (pc1 := 36) (Lo1 := [some (.ref 29), none, none, none]) (st1' := [.int (2 : Int32), .int (I1 28 3)]) (w1 := (wv x I1 J1)) hC38 4 rfl ?_
    refine wj_eq (tgt := 48) rfl rfl (fun h => ?_) (fun h => ?_)
    · have k := k.1 h
      refine wp_seg (C := gC38) (pc1 := 52) (Lo1 := [some (.ref 29), none, none, none]) (st1' := [.ref 28]) (w1 := (wv x I1 J1)) hC38 2 rfl ?_
      refine cv_I (mj := 71) (a := 28) (as := []) (r := []) rfl rfl rfl ⟨rfl, by decide, Nat.le_of_ble_eq_true rfl, Nat.le_of_ble_eq_true rfl⟩ rfl (wcI_mono k (fun r2 I2 J2 k => ?_))
      refine wp_seg (C := gC38) (pc1 := 59) (Lo1 := [some (.ref 29), some (.int r2), none, none]) (st1' := [.int (8 : Int32), .int r2]) (w1 := (wv x I2 J2)) hC38 3 rfl ?_
      refine wj_gt (tgt := 83) rfl rfl (fun h => ?_) (fun h => ?_)
      · have k := k.1 h
        refine wp_seg (C := gC38) (pc1 := 88) (Lo1 := [some (.ref 29), some (.int r2), none, none]) (st1' := [.int (2 : Int32), .ref 28]) (w1 := (wv x I2 J2)) hC38 3 rfl ?_
        refine cv_I (mj := 75) (a := 28) (as := [.int (2 : Int32)]) (r := []) rfl rfl rfl ⟨rfl, by decide, Nat.le_of_ble_eq_true rfl, Nat.le_of_ble_eq_true rfl⟩ rfl (wcI_mono k (fun r3 I3 J3 k => ?_))
        exact we_z rfl rfl k.1 k.2
      · have k := k.2 h
        refine wp_seg (C := gC38) (pc1 := 69) (Lo1 := [some (.ref 29), some (.int r2), none, none]) (st1' := [.int (I2 16 0)]) (w1 := (wv x I2 J2)) hC38 3 rfl ?_
        refine wi_le (tgt := 92) rfl rfl (fun h => ?_) (fun h => ?_)
        · have k := k.1 h
          refine wp_seg (C := gC38) (pc1 := 80) (Lo1 := [some (.ref 29), some (.int r2), none, none]) (st1' := [.int (I2 16 1), .int r2]) (w1 := (wv x I2 J2)) hC38 4 rfl ?_
          refine wj_eq (tgt := 92) rfl rfl (fun h => ?_) (fun h => ?_)
          · have k := k.1 h
            refine wp_seg (C := gC38) (pc1 := 102) (Lo1 := [some (.ref 29), some (.int r2), some (.int (0 : Int32)), none]) (st1' := []) (w1 := (wv x (mSet I2 16 1 r2) J2)) hC38 6 rfl ?_
            exact k
          · have k := k.2 h
            refine wp_seg (C := gC38) (pc1 := 88) (Lo1 := [some (.ref 29), some (.int r2), none, none]) (st1' := [.int (2 : Int32), .ref 28]) (w1 := (wv x I2 J2)) hC38 3 rfl ?_
            refine cv_I (mj := 75) (a := 28) (as := [.int (2 : Int32)]) (r := []) rfl rfl rfl ⟨rfl, by decide, Nat.le_of_ble_eq_true rfl, Nat.le_of_ble_eq_true rfl⟩ rfl (wcI_mono k (fun r4 I4 J4 k => ?_))
            exact we_z rfl rfl k.1 k.2
        · have k := k.2 h
          refine wp_seg (C := gC38) (pc1 := 102) (Lo1 := [some (.ref 29), some (.int r2), some (.int (0 : Int32)), none]) (st1' := []) (w1 := (wv x (mSet I2 16 1 r2) J2)) hC38 6 rfl ?_
          exact k
    · have k := k.2 h
      refine wp_seg (C := gC38) (pc1 := 44) (Lo1 := [some (.ref 29), none, none, none]) (st1' := [.int (1 : Int32), .ref 28]) (w1 := (wv x I1 J1)) hC38 3 rfl ?_
      refine cv_I (mj := 75) (a := 28) (as := [.int (1 : Int32)]) (r := []) rfl rfl rfl ⟨rfl, by decide, Nat.le_of_ble_eq_true rfl, Nat.le_of_ble_eq_true rfl⟩ rfl (wcI_mono k (fun r5 I5 J5 k => ?_))
      exact we_z rfl rfl k.1 k.2
  · have k := k.2 h
    refine wp_seg (C := gC38) (pc1 := 17) (Lo1 := [some (.ref 29), none, none, none]) (st1' := [.int (4 : Int32), .ref 28]) (w1 := (wv x I J)) hC38 3 rfl ?_
    refine cv_I (mj := 75) (a := 28) (as := [.int (4 : Int32)]) (r := []) rfl rfl rfl ⟨rfl, by decide, Nat.le_of_ble_eq_true rfl, Nat.le_of_ble_eq_true rfl⟩ rfl (wcI_mono k (fun r6 I6 J6 k => ?_))
    exact we_z rfl rfl k.1 k.2
set_option maxRecDepth 20000 in
theorem v38_29_102 {S : Nat × (Nat → Int32)} {d : Nat} {x : mX} {I : rI0} {J : rJ0} {l1 : Int32} {l2 : Int32} {Q : Int32 → rI0 → rJ0 → Prop} (k : ((l2 < l1 → (wcI S d 72 [.ref 28, .int l2] x I J (fun r1 I1 J1 => ((r1 = (120 : Int32) → wp S (d + 1) 38 138 [some (.ref 29), some (.int l1), some (.int l2), some (.int r1)] [] (wv x I1 J1) (rI x Q)) ∧ (¬ r1 = (120 : Int32) → (wcI S d 39 [.int r1] x I1 J1 (fun r2 I2 J2 => ((r2 = (0 : Int32) → (wcI S d 75 [.ref 28, .int (2 : Int32)] x I2 J2 (fun r3 I3 J3 => ((r3 = 0 ∨ r3 = 1) ∧ Q r3 I3 J3)))) ∧ (¬ r2 = (0 : Int32) → wp S (d + 1) 38 138 [some (.ref 29), some (.int l1), some (.int l2), some (.int r1)] [] (wv x I2 J2) (rI x Q)))))))))) ∧ (¬ l2 < l1 → (wcV S d 70 [.ref 28] x (mSet I 16 0 ((I 16 0) + (1 : Int32))) J (fun I4 J4 => Q (1 : Int32) I4 J4))))) : wp S (d + 1) 38 102 [some (.ref 29), some (.int l1), some (.int l2), none] [] (wv x I J) (rI x Q) := by
  refine wp_seg (C := gC38) (pc1 := 104) (Lo1 := [some (.ref 29), some (.int l1), some (.int l2), none]) (st1' := [.int l1, .int l2]) (w1 := (wv x I J)) hC38 2 rfl ?_
  refine wj_ge (tgt := 177) rfl rfl (fun h => ?_) (fun h => ?_)
  · have k := k.1 h
    refine wp_seg (C := gC38) (pc1 := 112) (Lo1 := [some (.ref 29), some (.int l1), some (.int l2), none]) (st1' := [.int l2, .ref 28]) (w1 := (wv x I J)) hC38 3 rfl ?_
    refine cv_I (mj := 72) (a := 28) (as := [.int l2]) (r := []) rfl rfl rfl ⟨rfl, by decide, Nat.le_of_ble_eq_true rfl, Nat.le_of_ble_eq_true rfl⟩ rfl (wcI_mono k (fun r1 I1 J1 k => ?_))
    refine wp_seg (C := gC38) (pc1 := 119) (Lo1 := [some (.ref 29), some (.int l1), some (.int l2), some (.int r1)]) (st1' := [.int (120 : Int32), .int r1]) (w1 := (wv x I1 J1)) hC38 3 rfl ?_
    refine wj_eq (tgt := 138) rfl rfl (fun h => ?_) (fun h => ?_)
    · have k := k.1 h
      exact k
    · have k := k.2 h
      refine wp_seg (C := gC38) (pc1 := 123) (Lo1 := [some (.ref 29), some (.int l1), some (.int l2), some (.int r1)]) (st1' := [.int r1]) (w1 := (wv x I1 J1)) hC38 1 rfl ?_
      refine cs_I (mj := 39) (nn := 0) (as := [.int r1]) (r := []) rfl rfl rfl ⟨rfl, by decide, Nat.le_of_ble_eq_true rfl, Nat.le_of_ble_eq_true rfl⟩ (by decide) (wcI_mono k (fun r2 I2 J2 k => ?_))
      refine wi_ne (tgt := 138) rfl rfl (fun h => ?_) (fun h => ?_)
      · have k := k.1 h
        refine wp_seg (C := gC38) (pc1 := 134) (Lo1 := [some (.ref 29), some (.int l1), some (.int l2), some (.int r1)]) (st1' := [.int (2 : Int32), .ref 28]) (w1 := (wv x I2 J2)) hC38 3 rfl ?_
        refine cv_I (mj := 75) (a := 28) (as := [.int (2 : Int32)]) (r := []) rfl rfl rfl ⟨rfl, by decide, Nat.le_of_ble_eq_true rfl, Nat.le_of_ble_eq_true rfl⟩ rfl (wcI_mono k (fun r3 I3 J3 k => ?_))
        exact we_z rfl rfl k.1 k.2
      · have k := k.2 h
        exact k
  · have k := k.2 h
    refine wp_seg (C := gC38) (pc1 := 194) (Lo1 := [some (.ref 29), some (.int l1), some (.int l2), none]) (st1' := [.ref 28]) (w1 := (wv x (mSet I 16 0 ((I 16 0) + (1 : Int32))) J)) hC38 9 rfl ?_
    refine cv_V (mj := 70) (a := 28) (as := []) (r := []) rfl rfl rfl ⟨rfl, by decide, Nat.le_of_ble_eq_true rfl, Nat.le_of_ble_eq_true rfl⟩ rfl (wcV_mono k (fun I4 J4 k => ?_))
    refine wp_seg (C := gC38) (pc1 := 198) (Lo1 := [some (.ref 29), some (.int l1), some (.int l2), none]) (st1' := [.int (1 : Int32)]) (w1 := (wv x I4 J4)) hC38 1 rfl ?_
    exact we_z rfl rfl (Or.inr rfl) k
set_option maxRecDepth 20000 in
theorem v38_29_138 {S : Nat × (Nat → Int32)} {d : Nat} {x : mX} {I : rI0} {J : rJ0} {l1 : Int32} {l2 : Int32} {l3 : Int32} {Q : Int32 → rI0 → rJ0 → Prop} (k : ((l3 = (120 : Int32) → (¬ mOut (((I 16 0) * l1) + l2) 64 ∧ wp S (d + 1) 38 102 [some (.ref 29), some (.int l1), some (.int (l2 + (1 : Int32))), none] [] (wv x (mSet I 17 ((((I 16 0) * l1) + l2).toNatClampNeg) (-1 : Int32)) J) (rI x Q))) ∧ (¬ l3 = (120 : Int32) → (¬ mOut (((I 16 0) * l1) + l2) 64 ∧ wp S (d + 1) 38 102 [some (.ref 29), some (.int l1), some (.int (l2 + (1 : Int32))), none] [] (wv x (mSet I 17 ((((I 16 0) * l1) + l2).toNatClampNeg) (l3 - (97 : Int32))) J) (rI x Q))))) : wp S (d + 1) 38 138 [some (.ref 29), some (.int l1), some (.int l2), some (.int l3)] [] (wv x I J) (rI x Q) := by
  refine wp_seg (C := gC38) (pc1 := 159) (Lo1 := [some (.ref 29), some (.int l1), some (.int l2), some (.int l3)]) (st1' := [.int (120 : Int32), .int l3, .int (((I 16 0) * l1) + l2), .ref 17]) (w1 := (wv x I J)) hC38 12 rfl ?_
  refine wj_ne (tgt := 166) rfl rfl (fun h => ?_) (fun h => ?_)
  · have k := k.1 h
    refine wp_seg (C := gC38) (pc1 := 170) (Lo1 := [some (.ref 29), some (.int l1), some (.int l2), some (.int l3)]) (st1' := [.int (-1 : Int32), .int (((I 16 0) * l1) + l2), .ref 17]) (w1 := (wv x I J)) hC38 2 rfl ?_
    refine ws_i (n := 64) rfl rfl k.1 ?_
    have k := k.2
    refine wp_seg (C := gC38) (pc1 := 102) (Lo1 := [some (.ref 29), some (.int l1), some (.int (l2 + (1 : Int32))), some (.int l3)]) (st1' := []) (w1 := (wv x (mSet I 17 ((((I 16 0) * l1) + l2).toNatClampNeg) (-1 : Int32)) J)) hC38 2 rfl ?_
    exact wp_sub (Lo := [some (.ref 29), some (.int l1), some (.int (l2 + (1 : Int32))), none]) (And.intro rfl (And.intro rfl (And.intro rfl (trivial)))) k
  · have k := k.2 h
    refine wp_seg (C := gC38) (pc1 := 170) (Lo1 := [some (.ref 29), some (.int l1), some (.int l2), some (.int l3)]) (st1' := [.int (l3 - (97 : Int32)), .int (((I 16 0) * l1) + l2), .ref 17]) (w1 := (wv x I J)) hC38 3 rfl ?_
    refine ws_i (n := 64) rfl rfl k.1 ?_
    have k := k.2
    refine wp_seg (C := gC38) (pc1 := 102) (Lo1 := [some (.ref 29), some (.int l1), some (.int (l2 + (1 : Int32))), some (.int l3)]) (st1' := []) (w1 := (wv x (mSet I 17 ((((I 16 0) * l1) + l2).toNatClampNeg) (l3 - (97 : Int32))) J)) hC38 2 rfl ?_
    exact wp_sub (Lo := [some (.ref 29), some (.int l1), some (.int (l2 + (1 : Int32))), none]) (And.intro rfl (And.intro rfl (And.intro rfl (trivial)))) k
set_option maxRecDepth 20000 in
theorem v40_29_0 {S : Nat × (Nat → Int32)} {d : Nat} {x : mX} {I : rI0} {J : rJ0} {p1 : Int32} {Q : Int32 → rI0 → rJ0 → Prop} (k : (wcV S d 70 [.ref 28] x I J (fun I1 J1 => (((I1 28 3) = (2 : Int32) → (wcI S d 71 [.ref 28] x I1 J1 (fun r2 I2 J2 => ((r2 = (1 : Int32) → (wcI S d 72 [.ref 28, .int (0 : Int32)] x I2 J2 (fun r3 I3 J3 => (wcI S d 39 [.int r3] x I3 J3 (fun r4 I4 J4 => ((r4 = (0 : Int32) → (wcI S d 75 [.ref 28, .int (2 : Int32)] x I4 J4 (fun r5 I5 J5 => ((r5 = 0 ∨ r5 = 1) ∧ Q r5 I5 J5)))) ∧ (¬ r4 = (0 : Int32) → (wcI S d 72 [.ref 28, .int (0 : Int32)] x I4 J4 (fun r6 I6 J6 => (¬ mOut (((2 : Int32) * (r6 - (97 : Int32))) + p1) 12 ∧ (((I6 21 ((((2 : Int32) * (r6 - (97 : Int32))) + p1).toNatClampNeg)) = (-1 : Int32) → (wcV S d 70 [.ref 28] x I6 J6 (fun I7 J7 => (wcI S d 41 [.ref 29, .int ((((2 : Int32) * (r6 - (97 : Int32))) + p1) * (20 : Int32)), .int (1 : Int32)] x (mSet I7 29 2 (0 : Int32)) J7 (fun r8 I8 J8 => ((r8 = (0 : Int32) → Q (0 : Int32) I8 J8) ∧ (¬ r8 = (0 : Int32) → (¬ mOut (((2 : Int32) * (r6 - (97 : Int32))) + p1) 12 ∧ Q (1 : Int32) (mSet I8 21 ((((2 : Int32) * (r6 - (97 : Int32))) + p1).toNatClampNeg) (I8 29 2)) J8)))))))) ∧ (¬ (I6 21 ((((2 : Int32) * (r6 - (97 : Int32))) + p1).toNatClampNeg)) = (-1 : Int32) → (wcI S d 75 [.ref 28, .int (3 : Int32)] x I6 J6 (fun r9 I9 J9 => ((r9 = 0 ∨ r9 = 1) ∧ Q r9 I9 J9))))))))))))))) ∧ (¬ r2 = (1 : Int32) → (wcI S d 75 [.ref 28, .int (2 : Int32)] x I2 J2 (fun r10 I10 J10 => ((r10 = 0 ∨ r10 = 1) ∧ Q r10 I10 J10)))))))) ∧ (¬ (I1 28 3) = (2 : Int32) → (wcI S d 75 [.ref 28, .int (1 : Int32)] x I1 J1 (fun r11 I11 J11 => ((r11 = 0 ∨ r11 = 1) ∧ Q r11 I11 J11)))))))) : wp S (d + 1) 40 0 [some (.ref 29), some (.int p1), none] [] (wv x I J) (rI x Q) := by
  refine wp_seg (C := gC40) (pc1 := 4) (Lo1 := [some (.ref 29), some (.int p1), none]) (st1' := [.ref 28]) (w1 := (wv x I J)) hC40 2 rfl ?_
  refine cv_V (mj := 70) (a := 28) (as := []) (r := []) rfl rfl rfl ⟨rfl, by decide, Nat.le_of_ble_eq_true rfl, Nat.le_of_ble_eq_true rfl⟩ rfl (wcV_mono k (fun I1 J1 k => ?_))
  refine wp_seg (C := gC40) (pc1 := 15) (Lo1 := [some (.ref 29), some (.int p1), none]) (st1' := [.int (2 : Int32), .int (I1 28 3)]) (w1 := (wv x I1 J1)) hC40 4 rfl ?_
  refine wj_eq (tgt := 27) rfl rfl (fun h => ?_) (fun h => ?_)
  · have k := k.1 h
    refine wp_seg (C := gC40) (pc1 := 31) (Lo1 := [some (.ref 29), some (.int p1), none]) (st1' := [.ref 28]) (w1 := (wv x I1 J1)) hC40 2 rfl ?_
    refine cv_I (mj := 71) (a := 28) (as := []) (r := []) rfl rfl rfl ⟨rfl, by decide, Nat.le_of_ble_eq_true rfl, Nat.le_of_ble_eq_true rfl⟩ rfl (wcI_mono k (fun r2 I2 J2 k => ?_))
    refine wp_seg (C := gC40) (pc1 := 35) (Lo1 := [some (.ref 29), some (.int p1), none]) (st1' := [.int (1 : Int32), .int r2]) (w1 := (wv x I2 J2)) hC40 1 rfl ?_
    refine wj_ne (tgt := 52) rfl rfl (fun h => ?_) (fun h => ?_)
    · have k := k.1 h
      refine wp_seg (C := gC40) (pc1 := 43) (Lo1 := [some (.ref 29), some (.int p1), none]) (st1' := [.int (0 : Int32), .ref 28]) (w1 := (wv x I2 J2)) hC40 3 rfl ?_
      refine cv_I (mj := 72) (a := 28) (as := [.int (0 : Int32)]) (r := []) rfl rfl rfl ⟨rfl, by decide, Nat.le_of_ble_eq_true rfl, Nat.le_of_ble_eq_true rfl⟩ rfl (wcI_mono k (fun r3 I3 J3 k => ?_))
      refine cs_I (mj := 39) (nn := 0) (as := [.int r3]) (r := []) rfl rfl rfl ⟨rfl, by decide, Nat.le_of_ble_eq_true rfl, Nat.le_of_ble_eq_true rfl⟩ (by decide) (wcI_mono k (fun r4 I4 J4 k => ?_))
      refine wi_ne (tgt := 61) rfl rfl (fun h => ?_) (fun h => ?_)
      · have k := k.1 h
        refine wp_seg (C := gC40) (pc1 := 57) (Lo1 := [some (.ref 29), some (.int p1), none]) (st1' := [.int (2 : Int32), .ref 28]) (w1 := (wv x I4 J4)) hC40 3 rfl ?_
        refine cv_I (mj := 75) (a := 28) (as := [.int (2 : Int32)]) (r := []) rfl rfl rfl ⟨rfl, by decide, Nat.le_of_ble_eq_true rfl, Nat.le_of_ble_eq_true rfl⟩ rfl (wcI_mono k (fun r5 I5 J5 k => ?_))
        exact we_z rfl rfl k.1 k.2
      · have k := k.2 h
        refine wp_seg (C := gC40) (pc1 := 67) (Lo1 := [some (.ref 29), some (.int p1), none]) (st1' := [.int (0 : Int32), .ref 28, .int (2 : Int32)]) (w1 := (wv x I4 J4)) hC40 4 rfl ?_
        refine cv_I (mj := 72) (a := 28) (as := [.int (0 : Int32)]) (r := [.int (2 : Int32)]) rfl rfl rfl ⟨rfl, by decide, Nat.le_of_ble_eq_true rfl, Nat.le_of_ble_eq_true rfl⟩ rfl (wcI_mono k (fun r6 I6 J6 k => ?_))
        refine wp_seg (C := gC40) (pc1 := 85) (Lo1 := [some (.ref 29), some (.int p1), some (.int (((2 : Int32) * (r6 - (97 : Int32))) + p1))]) (st1' := [.int (((2 : Int32) * (r6 - (97 : Int32))) + p1), .ref 21]) (w1 := (wv x I6 J6)) hC40 10 rfl ?_
        refine wa_i (n := 12) rfl (by decide) rfl k.1 ?_
        have k := k.2
        refine wp_seg (C := gC40) (pc1 := 87) (Lo1 := [some (.ref 29), some (.int p1), some (.int (((2 : Int32) * (r6 - (97 : Int32))) + p1))]) (st1' := [.int (-1 : Int32), .int (I6 21 ((((2 : Int32) * (r6 - (97 : Int32))) + p1).toNatClampNeg))]) (w1 := (wv x I6 J6)) hC40 1 rfl ?_
        refine wj_eq (tgt := 99) rfl rfl (fun h => ?_) (fun h => ?_)
        · have k := k.1 h
          refine wp_seg (C := gC40) (pc1 := 103) (Lo1 := [some (.ref 29), some (.int p1), some (.int (((2 : Int32) * (r6 - (97 : Int32))) + p1))]) (st1' := [.ref 28]) (w1 := (wv x I6 J6)) hC40 2 rfl ?_
          refine cv_V (mj := 70) (a := 28) (as := []) (r := []) rfl rfl rfl ⟨rfl, by decide, Nat.le_of_ble_eq_true rfl, Nat.le_of_ble_eq_true rfl⟩ rfl (wcV_mono k (fun I7 J7 k => ?_))
          refine wp_seg (C := gC40) (pc1 := 117) (Lo1 := [some (.ref 29), some (.int p1), some (.int (((2 : Int32) * (r6 - (97 : Int32))) + p1))]) (st1' := [.int (1 : Int32), .int ((((2 : Int32) * (r6 - (97 : Int32))) + p1) * (20 : Int32)), .ref 29]) (w1 := (wv x (mSet I7 29 2 (0 : Int32)) J7)) hC40 8 rfl ?_
          refine cv_I (mj := 41) (a := 29) (as := [.int ((((2 : Int32) * (r6 - (97 : Int32))) + p1) * (20 : Int32)), .int (1 : Int32)]) (r := []) rfl rfl rfl ⟨rfl, by decide, Nat.le_of_ble_eq_true rfl, Nat.le_of_ble_eq_true rfl⟩ rfl (wcI_mono k (fun r8 I8 J8 k => ?_))
          refine wi_ne (tgt := 125) rfl rfl (fun h => ?_) (fun h => ?_)
          · have k := k.1 h
            refine wp_seg (C := gC40) (pc1 := 124) (Lo1 := [some (.ref 29), some (.int p1), some (.int (((2 : Int32) * (r6 - (97 : Int32))) + p1))]) (st1' := [.int (0 : Int32)]) (w1 := (wv x I8 J8)) hC40 1 rfl ?_
            exact we_z rfl rfl (Or.inl rfl) k
          · have k := k.2 h
            refine wp_seg (C := gC40) (pc1 := 137) (Lo1 := [some (.ref 29), some (.int p1), some (.int (((2 : Int32) * (r6 - (97 : Int32))) + p1))]) (st1' := [.int (I8 29 2), .int (((2 : Int32) * (r6 - (97 : Int32))) + p1), .ref 21]) (w1 := (wv x I8 J8)) hC40 6 rfl ?_
            refine ws_i (n := 12) rfl rfl k.1 ?_
            have k := k.2
            refine wp_seg (C := gC40) (pc1 := 139) (Lo1 := [some (.ref 29), some (.int p1), some (.int (((2 : Int32) * (r6 - (97 : Int32))) + p1))]) (st1' := [.int (1 : Int32)]) (w1 := (wv x (mSet I8 21 ((((2 : Int32) * (r6 - (97 : Int32))) + p1).toNatClampNeg) (I8 29 2)) J8)) hC40 1 rfl ?_
            exact we_z rfl rfl (Or.inr rfl) k
        · have k := k.2 h
          refine wp_seg (C := gC40) (pc1 := 95) (Lo1 := [some (.ref 29), some (.int p1), some (.int (((2 : Int32) * (r6 - (97 : Int32))) + p1))]) (st1' := [.int (3 : Int32), .ref 28]) (w1 := (wv x I6 J6)) hC40 3 rfl ?_
          refine cv_I (mj := 75) (a := 28) (as := [.int (3 : Int32)]) (r := []) rfl rfl rfl ⟨rfl, by decide, Nat.le_of_ble_eq_true rfl, Nat.le_of_ble_eq_true rfl⟩ rfl (wcI_mono k (fun r9 I9 J9 k => ?_))
          exact we_z rfl rfl k.1 k.2
    · have k := k.2 h
      refine wp_seg (C := gC40) (pc1 := 57) (Lo1 := [some (.ref 29), some (.int p1), none]) (st1' := [.int (2 : Int32), .ref 28]) (w1 := (wv x I2 J2)) hC40 3 rfl ?_
      refine cv_I (mj := 75) (a := 28) (as := [.int (2 : Int32)]) (r := []) rfl rfl rfl ⟨rfl, by decide, Nat.le_of_ble_eq_true rfl, Nat.le_of_ble_eq_true rfl⟩ rfl (wcI_mono k (fun r10 I10 J10 k => ?_))
      exact we_z rfl rfl k.1 k.2
  · have k := k.2 h
    refine wp_seg (C := gC40) (pc1 := 23) (Lo1 := [some (.ref 29), some (.int p1), none]) (st1' := [.int (1 : Int32), .ref 28]) (w1 := (wv x I1 J1)) hC40 3 rfl ?_
    refine cv_I (mj := 75) (a := 28) (as := [.int (1 : Int32)]) (r := []) rfl rfl rfl ⟨rfl, by decide, Nat.le_of_ble_eq_true rfl, Nat.le_of_ble_eq_true rfl⟩ rfl (wcI_mono k (fun r11 I11 J11 k => ?_))
    exact we_z rfl rfl k.1 k.2
set_option maxRecDepth 20000 in
theorem v44_29_0 {S : Nat × (Nat → Int32)} {d : Nat} {x : mX} {I : rI0} {J : rJ0} {Q : Int32 → rI0 → rJ0 → Prop} (k : (wcV S d 70 [.ref 28] x I J (fun I1 J1 => (wcI S d 76 [.ref 28, .int (0 : Int32), .int ((I1 16 0) - (1 : Int32))] x I1 J1 (fun r2 I2 J2 => ((r2 = (0 : Int32) → Q (0 : Int32) I2 J2) ∧ (¬ r2 = (0 : Int32) → ((((((I2 29 3).toUInt32 >>> ((I2 28 6).toUInt32 &&& Int32.toUInt32 31)).toInt32) &&& (1 : Int32)) = (0 : Int32) → (wcV S d 70 [.ref 28] x (mSet I2 29 3 ((I2 29 3) ||| ((1 : Int32) <<< (I2 28 6 &&& 31)))) J2 (fun I3 J3 => (wcI S d 77 [.ref 28, .int (0 : Int32), .int (999 : Int32)] x I3 J3 (fun r4 I4 J4 => ((r4 = (0 : Int32) → Q (0 : Int32) I4 J4) ∧ (¬ r4 = (0 : Int32) → (¬ mOut (I2 28 6) 8 ∧ Q (1 : Int32) (mSet I4 19 ((I2 28 6).toNatClampNeg) (I4 28 7)) J4)))))))) ∧ (¬ ((((I2 29 3).toUInt32 >>> ((I2 28 6).toUInt32 &&& Int32.toUInt32 31)).toInt32) &&& (1 : Int32)) = (0 : Int32) → (wcI S d 75 [.ref 28, .int (3 : Int32)] x I2 J2 (fun r5 I5 J5 => ((r5 = 0 ∨ r5 = 1) ∧ Q r5 I5 J5)))))))))))) : wp S (d + 1) 44 0 [some (.ref 29), none] [] (wv x I J) (rI x Q) := by
  refine wp_seg (C := gC44) (pc1 := 4) (Lo1 := [some (.ref 29), none]) (st1' := [.ref 28]) (w1 := (wv x I J)) hC44 2 rfl ?_
  refine cv_V (mj := 70) (a := 28) (as := []) (r := []) rfl rfl rfl ⟨rfl, by decide, Nat.le_of_ble_eq_true rfl, Nat.le_of_ble_eq_true rfl⟩ rfl (wcV_mono k (fun I1 J1 k => ?_))
  refine wp_seg (C := gC44) (pc1 := 21) (Lo1 := [some (.ref 29), none]) (st1' := [.int ((I1 16 0) - (1 : Int32)), .int (0 : Int32), .ref 28]) (w1 := (wv x I1 J1)) hC44 8 rfl ?_
  refine cv_I (mj := 76) (a := 28) (as := [.int (0 : Int32), .int ((I1 16 0) - (1 : Int32))]) (r := []) rfl rfl rfl ⟨rfl, by decide, Nat.le_of_ble_eq_true rfl, Nat.le_of_ble_eq_true rfl⟩ rfl (wcI_mono k (fun r2 I2 J2 k => ?_))
  refine wi_ne (tgt := 29) rfl rfl (fun h => ?_) (fun h => ?_)
  · have k := k.1 h
    refine wp_seg (C := gC44) (pc1 := 28) (Lo1 := [some (.ref 29), none]) (st1' := [.int (0 : Int32)]) (w1 := (wv x I2 J2)) hC44 1 rfl ?_
    exact we_z rfl rfl (Or.inl rfl) k
  · have k := k.2 h
    refine wp_seg (C := gC44) (pc1 := 45) (Lo1 := [some (.ref 29), some (.int (I2 28 6))]) (st1' := [.int ((((I2 29 3).toUInt32 >>> ((I2 28 6).toUInt32 &&& Int32.toUInt32 31)).toInt32) &&& (1 : Int32))]) (w1 := (wv x I2 J2)) hC44 10 rfl ?_
    refine wi_eq (tgt := 57) rfl rfl (fun h => ?_) (fun h => ?_)
    · have k := k.1 h
      refine wp_seg (C := gC44) (pc1 := 73) (Lo1 := [some (.ref 29), some (.int (I2 28 6))]) (st1' := [.ref 28]) (w1 := (wv x (mSet I2 29 3 ((I2 29 3) ||| ((1 : Int32) <<< (I2 28 6 &&& 31)))) J2)) hC44 10 rfl ?_
      refine cv_V (mj := 70) (a := 28) (as := []) (r := []) rfl rfl rfl ⟨rfl, by decide, Nat.le_of_ble_eq_true rfl, Nat.le_of_ble_eq_true rfl⟩ rfl (wcV_mono k (fun I3 J3 k => ?_))
      refine wp_seg (C := gC44) (pc1 := 84) (Lo1 := [some (.ref 29), some (.int (I2 28 6))]) (st1' := [.int (999 : Int32), .int (0 : Int32), .ref 28]) (w1 := (wv x I3 J3)) hC44 4 rfl ?_
      refine cv_I (mj := 77) (a := 28) (as := [.int (0 : Int32), .int (999 : Int32)]) (r := []) rfl rfl rfl ⟨rfl, by decide, Nat.le_of_ble_eq_true rfl, Nat.le_of_ble_eq_true rfl⟩ rfl (wcI_mono k (fun r4 I4 J4 k => ?_))
      refine wi_ne (tgt := 92) rfl rfl (fun h => ?_) (fun h => ?_)
      · have k := k.1 h
        refine wp_seg (C := gC44) (pc1 := 91) (Lo1 := [some (.ref 29), some (.int (I2 28 6))]) (st1' := [.int (0 : Int32)]) (w1 := (wv x I4 J4)) hC44 1 rfl ?_
        exact we_z rfl rfl (Or.inl rfl) k
      · have k := k.2 h
        refine wp_seg (C := gC44) (pc1 := 107) (Lo1 := [some (.ref 29), some (.int (I2 28 6))]) (st1' := [.int (I4 28 7), .int (I2 28 6), .ref 19]) (w1 := (wv x I4 J4)) hC44 7 rfl ?_
        refine ws_i (n := 8) rfl rfl k.1 ?_
        have k := k.2
        refine wp_seg (C := gC44) (pc1 := 109) (Lo1 := [some (.ref 29), some (.int (I2 28 6))]) (st1' := [.int (1 : Int32)]) (w1 := (wv x (mSet I4 19 ((I2 28 6).toNatClampNeg) (I4 28 7)) J4)) hC44 1 rfl ?_
        exact we_z rfl rfl (Or.inr rfl) k
    · have k := k.2 h
      refine wp_seg (C := gC44) (pc1 := 53) (Lo1 := [some (.ref 29), some (.int (I2 28 6))]) (st1' := [.int (3 : Int32), .ref 28]) (w1 := (wv x I2 J2)) hC44 3 rfl ?_
      refine cv_I (mj := 75) (a := 28) (as := [.int (3 : Int32)]) (r := []) rfl rfl rfl ⟨rfl, by decide, Nat.le_of_ble_eq_true rfl, Nat.le_of_ble_eq_true rfl⟩ rfl (wcI_mono k (fun r5 I5 J5 k => ?_))
      exact we_z rfl rfl k.1 k.2
set_option maxRecDepth 20000 in
theorem v45_29_0 {S : Nat × (Nat → Int32)} {d : Nat} {x : mX} {I : rI0} {J : rJ0} {Q : Int32 → rI0 → rJ0 → Prop} (k : (wcV S d 70 [.ref 28] x I J (fun I1 J1 => (wcI S d 76 [.ref 28, .int (0 : Int32), .int ((I1 16 0) - (1 : Int32))] x I1 J1 (fun r2 I2 J2 => ((r2 = (0 : Int32) → Q (0 : Int32) I2 J2) ∧ (¬ r2 = (0 : Int32) → (¬ mOut (I2 28 6) 8 ∧ (((I2 20 ((I2 28 6).toNatClampNeg)) = (-1 : Int32) → (wcV S d 70 [.ref 28] x I2 J2 (fun I3 J3 => (wcI S d 77 [.ref 28, .int (0 : Int32), .int (600 : Int32)] x I3 J3 (fun r4 I4 J4 => ((r4 = (0 : Int32) → Q (0 : Int32) I4 J4) ∧ (¬ r4 = (0 : Int32) → (¬ mOut (I2 28 6) 8 ∧ Q (1 : Int32) (mSet I4 20 ((I2 28 6).toNatClampNeg) (I4 28 7)) J4)))))))) ∧ (¬ (I2 20 ((I2 28 6).toNatClampNeg)) = (-1 : Int32) → (wcI S d 75 [.ref 28, .int (3 : Int32)] x I2 J2 (fun r5 I5 J5 => ((r5 = 0 ∨ r5 = 1) ∧ Q r5 I5 J5))))))))))))) : wp S (d + 1) 45 0 [some (.ref 29), none] [] (wv x I J) (rI x Q) := by
  refine wp_seg (C := gC45) (pc1 := 4) (Lo1 := [some (.ref 29), none]) (st1' := [.ref 28]) (w1 := (wv x I J)) hC45 2 rfl ?_
  refine cv_V (mj := 70) (a := 28) (as := []) (r := []) rfl rfl rfl ⟨rfl, by decide, Nat.le_of_ble_eq_true rfl, Nat.le_of_ble_eq_true rfl⟩ rfl (wcV_mono k (fun I1 J1 k => ?_))
  refine wp_seg (C := gC45) (pc1 := 21) (Lo1 := [some (.ref 29), none]) (st1' := [.int ((I1 16 0) - (1 : Int32)), .int (0 : Int32), .ref 28]) (w1 := (wv x I1 J1)) hC45 8 rfl ?_
  refine cv_I (mj := 76) (a := 28) (as := [.int (0 : Int32), .int ((I1 16 0) - (1 : Int32))]) (r := []) rfl rfl rfl ⟨rfl, by decide, Nat.le_of_ble_eq_true rfl, Nat.le_of_ble_eq_true rfl⟩ rfl (wcI_mono k (fun r2 I2 J2 k => ?_))
  refine wi_ne (tgt := 29) rfl rfl (fun h => ?_) (fun h => ?_)
  · have k := k.1 h
    refine wp_seg (C := gC45) (pc1 := 28) (Lo1 := [some (.ref 29), none]) (st1' := [.int (0 : Int32)]) (w1 := (wv x I2 J2)) hC45 1 rfl ?_
    exact we_z rfl rfl (Or.inl rfl) k
  · have k := k.2 h
    refine wp_seg (C := gC45) (pc1 := 45) (Lo1 := [some (.ref 29), some (.int (I2 28 6))]) (st1' := [.int (I2 28 6), .ref 20]) (w1 := (wv x I2 J2)) hC45 8 rfl ?_
    refine wa_i (n := 8) rfl (by decide) rfl k.1 ?_
    have k := k.2
    refine wp_seg (C := gC45) (pc1 := 47) (Lo1 := [some (.ref 29), some (.int (I2 28 6))]) (st1' := [.int (-1 : Int32), .int (I2 20 ((I2 28 6).toNatClampNeg))]) (w1 := (wv x I2 J2)) hC45 1 rfl ?_
    refine wj_eq (tgt := 59) rfl rfl (fun h => ?_) (fun h => ?_)
    · have k := k.1 h
      refine wp_seg (C := gC45) (pc1 := 63) (Lo1 := [some (.ref 29), some (.int (I2 28 6))]) (st1' := [.ref 28]) (w1 := (wv x I2 J2)) hC45 2 rfl ?_
      refine cv_V (mj := 70) (a := 28) (as := []) (r := []) rfl rfl rfl ⟨rfl, by decide, Nat.le_of_ble_eq_true rfl, Nat.le_of_ble_eq_true rfl⟩ rfl (wcV_mono k (fun I3 J3 k => ?_))
      refine wp_seg (C := gC45) (pc1 := 74) (Lo1 := [some (.ref 29), some (.int (I2 28 6))]) (st1' := [.int (600 : Int32), .int (0 : Int32), .ref 28]) (w1 := (wv x I3 J3)) hC45 4 rfl ?_
      refine cv_I (mj := 77) (a := 28) (as := [.int (0 : Int32), .int (600 : Int32)]) (r := []) rfl rfl rfl ⟨rfl, by decide, Nat.le_of_ble_eq_true rfl, Nat.le_of_ble_eq_true rfl⟩ rfl (wcI_mono k (fun r4 I4 J4 k => ?_))
      refine wi_ne (tgt := 82) rfl rfl (fun h => ?_) (fun h => ?_)
      · have k := k.1 h
        refine wp_seg (C := gC45) (pc1 := 81) (Lo1 := [some (.ref 29), some (.int (I2 28 6))]) (st1' := [.int (0 : Int32)]) (w1 := (wv x I4 J4)) hC45 1 rfl ?_
        exact we_z rfl rfl (Or.inl rfl) k
      · have k := k.2 h
        refine wp_seg (C := gC45) (pc1 := 97) (Lo1 := [some (.ref 29), some (.int (I2 28 6))]) (st1' := [.int (I4 28 7), .int (I2 28 6), .ref 20]) (w1 := (wv x I4 J4)) hC45 7 rfl ?_
        refine ws_i (n := 8) rfl rfl k.1 ?_
        have k := k.2
        refine wp_seg (C := gC45) (pc1 := 99) (Lo1 := [some (.ref 29), some (.int (I2 28 6))]) (st1' := [.int (1 : Int32)]) (w1 := (wv x (mSet I4 20 ((I2 28 6).toNatClampNeg) (I4 28 7)) J4)) hC45 1 rfl ?_
        exact we_z rfl rfl (Or.inr rfl) k
    · have k := k.2 h
      refine wp_seg (C := gC45) (pc1 := 55) (Lo1 := [some (.ref 29), some (.int (I2 28 6))]) (st1' := [.int (3 : Int32), .ref 28]) (w1 := (wv x I2 J2)) hC45 3 rfl ?_
      refine cv_I (mj := 75) (a := 28) (as := [.int (3 : Int32)]) (r := []) rfl rfl rfl ⟨rfl, by decide, Nat.le_of_ble_eq_true rfl, Nat.le_of_ble_eq_true rfl⟩ rfl (wcI_mono k (fun r5 I5 J5 k => ?_))
      exact we_z rfl rfl k.1 k.2
set_option maxRecDepth 20000 in
theorem v46_29_0 {S : Nat × (Nat → Int32)} {d : Nat} {x : mX} {I : rI0} {J : rJ0} {Q : Int32 → rI0 → rJ0 → Prop} (k : (((I 29 4) = (0 : Int32) → (wcV S d 70 [.ref 28] x (mSet I 29 4 (1 : Int32)) J (fun I1 J1 => (wcI S d 77 [.ref 28, .int (1 : Int32), .int (64 : Int32)] x I1 J1 (fun r2 I2 J2 => ((r2 = (0 : Int32) → Q (0 : Int32) I2 J2) ∧ (¬ r2 = (0 : Int32) → Q (1 : Int32) (mSet I2 16 2 (I2 28 7)) J2))))))) ∧ (¬ (I 29 4) = (0 : Int32) → (wcI S d 75 [.ref 28, .int (3 : Int32)] x I J (fun r3 I3 J3 => ((r3 = 0 ∨ r3 = 1) ∧ Q r3 I3 J3)))))) : wp S (d + 1) 46 0 [some (.ref 29)] [] (wv x I J) (rI x Q) := by
  refine wp_seg (C := gC46) (pc1 := 4) (Lo1 := [some (.ref 29)]) (st1' := [.int (I 29 4)]) (w1 := (wv x I J)) hC46 2 rfl ?_
  refine wi_eq (tgt := 16) rfl rfl (fun h => ?_) (fun h => ?_)
  · have k := k.1 h
    refine wp_seg (C := gC46) (pc1 := 25) (Lo1 := [some (.ref 29)]) (st1' := [.ref 28]) (w1 := (wv x (mSet I 29 4 (1 : Int32)) J)) hC46 5 rfl ?_
    refine cv_V (mj := 70) (a := 28) (as := []) (r := []) rfl rfl rfl ⟨rfl, by decide, Nat.le_of_ble_eq_true rfl, Nat.le_of_ble_eq_true rfl⟩ rfl (wcV_mono k (fun I1 J1 k => ?_))
    refine wp_seg (C := gC46) (pc1 := 35) (Lo1 := [some (.ref 29)]) (st1' := [.int (64 : Int32), .int (1 : Int32), .ref 28]) (w1 := (wv x I1 J1)) hC46 4 rfl ?_
    refine cv_I (mj := 77) (a := 28) (as := [.int (1 : Int32), .int (64 : Int32)]) (r := []) rfl rfl rfl ⟨rfl, by decide, Nat.le_of_ble_eq_true rfl, Nat.le_of_ble_eq_true rfl⟩ rfl (wcI_mono k (fun r2 I2 J2 k => ?_))
    refine wi_ne (tgt := 43) rfl rfl (fun h => ?_) (fun h => ?_)
    · have k := k.1 h
      refine wp_seg (C := gC46) (pc1 := 42) (Lo1 := [some (.ref 29)]) (st1' := [.int (0 : Int32)]) (w1 := (wv x I2 J2)) hC46 1 rfl ?_
      exact we_z rfl rfl (Or.inl rfl) k
    · have k := k.2 h
      refine wp_seg (C := gC46) (pc1 := 58) (Lo1 := [some (.ref 29)]) (st1' := [.int (1 : Int32)]) (w1 := (wv x (mSet I2 16 2 (I2 28 7)) J2)) hC46 7 rfl ?_
      exact we_z rfl rfl (Or.inr rfl) k
  · have k := k.2 h
    refine wp_seg (C := gC46) (pc1 := 12) (Lo1 := [some (.ref 29)]) (st1' := [.int (3 : Int32), .ref 28]) (w1 := (wv x I J)) hC46 3 rfl ?_
    refine cv_I (mj := 75) (a := 28) (as := [.int (3 : Int32)]) (r := []) rfl rfl rfl ⟨rfl, by decide, Nat.le_of_ble_eq_true rfl, Nat.le_of_ble_eq_true rfl⟩ rfl (wcI_mono k (fun r3 I3 J3 k => ?_))
    exact we_z rfl rfl k.1 k.2
set_option maxRecDepth 20000 in
theorem v47_29_0 {S : Nat × (Nat → Int32)} {d : Nat} {x : mX} {I : rI0} {J : rJ0} {Q : Int32 → rI0 → rJ0 → Prop} (k : (((I 29 5) = (0 : Int32) → (wcV S d 70 [.ref 28] x (mSet I 29 5 (1 : Int32)) J (fun I1 J1 => (wcI S d 77 [.ref 28, .int (0 : Int32), .int (600 : Int32)] x I1 J1 (fun r2 I2 J2 => ((r2 = (0 : Int32) → Q (0 : Int32) I2 J2) ∧ (¬ r2 = (0 : Int32) → Q (1 : Int32) (mSet I2 16 3 (I2 28 7)) J2))))))) ∧ (¬ (I 29 5) = (0 : Int32) → (wcI S d 75 [.ref 28, .int (3 : Int32)] x I J (fun r3 I3 J3 => ((r3 = 0 ∨ r3 = 1) ∧ Q r3 I3 J3)))))) : wp S (d + 1) 47 0 [some (.ref 29)] [] (wv x I J) (rI x Q) := by
  refine wp_seg (C := gC47) (pc1 := 4) (Lo1 := [some (.ref 29)]) (st1' := [.int (I 29 5)]) (w1 := (wv x I J)) hC47 2 rfl ?_
  refine wi_eq (tgt := 16) rfl rfl (fun h => ?_) (fun h => ?_)
  · have k := k.1 h
    refine wp_seg (C := gC47) (pc1 := 25) (Lo1 := [some (.ref 29)]) (st1' := [.ref 28]) (w1 := (wv x (mSet I 29 5 (1 : Int32)) J)) hC47 5 rfl ?_
    refine cv_V (mj := 70) (a := 28) (as := []) (r := []) rfl rfl rfl ⟨rfl, by decide, Nat.le_of_ble_eq_true rfl, Nat.le_of_ble_eq_true rfl⟩ rfl (wcV_mono k (fun I1 J1 k => ?_))
    refine wp_seg (C := gC47) (pc1 := 36) (Lo1 := [some (.ref 29)]) (st1' := [.int (600 : Int32), .int (0 : Int32), .ref 28]) (w1 := (wv x I1 J1)) hC47 4 rfl ?_
    refine cv_I (mj := 77) (a := 28) (as := [.int (0 : Int32), .int (600 : Int32)]) (r := []) rfl rfl rfl ⟨rfl, by decide, Nat.le_of_ble_eq_true rfl, Nat.le_of_ble_eq_true rfl⟩ rfl (wcI_mono k (fun r2 I2 J2 k => ?_))
    refine wi_ne (tgt := 44) rfl rfl (fun h => ?_) (fun h => ?_)
    · have k := k.1 h
      refine wp_seg (C := gC47) (pc1 := 43) (Lo1 := [some (.ref 29)]) (st1' := [.int (0 : Int32)]) (w1 := (wv x I2 J2)) hC47 1 rfl ?_
      exact we_z rfl rfl (Or.inl rfl) k
    · have k := k.2 h
      refine wp_seg (C := gC47) (pc1 := 59) (Lo1 := [some (.ref 29)]) (st1' := [.int (1 : Int32)]) (w1 := (wv x (mSet I2 16 3 (I2 28 7)) J2)) hC47 7 rfl ?_
      exact we_z rfl rfl (Or.inr rfl) k
  · have k := k.2 h
    refine wp_seg (C := gC47) (pc1 := 12) (Lo1 := [some (.ref 29)]) (st1' := [.int (3 : Int32), .ref 28]) (w1 := (wv x I J)) hC47 3 rfl ?_
    refine cv_I (mj := 75) (a := 28) (as := [.int (3 : Int32)]) (r := []) rfl rfl rfl ⟨rfl, by decide, Nat.le_of_ble_eq_true rfl, Nat.le_of_ble_eq_true rfl⟩ rfl (wcI_mono k (fun r3 I3 J3 k => ?_))
    exact we_z rfl rfl k.1 k.2
set_option maxRecDepth 20000 in
theorem v48_29_0 {S : Nat × (Nat → Int32)} {d : Nat} {x : mX} {I : rI0} {J : rJ0} {Q : Int32 → rI0 → rJ0 → Prop} (k : (((I 16 4) = (0 : Int32) → (wcV S d 70 [.ref 28] x (mSet I 16 4 (1 : Int32)) J (fun I1 J1 => Q (1 : Int32) I1 J1))) ∧ (¬ (I 16 4) = (0 : Int32) → (wcI S d 75 [.ref 28, .int (3 : Int32)] x I J (fun r2 I2 J2 => ((r2 = 0 ∨ r2 = 1) ∧ Q r2 I2 J2)))))) : wp S (d + 1) 48 0 [some (.ref 29)] [] (wv x I J) (rI x Q) := by
  refine wp_seg (C := gC48) (pc1 := 7) (Lo1 := [some (.ref 29)]) (st1' := [.int (I 16 4)]) (w1 := (wv x I J)) hC48 3 rfl ?_
  refine wi_eq (tgt := 19) rfl rfl (fun h => ?_) (fun h => ?_)
  · have k := k.1 h
    refine wp_seg (C := gC48) (pc1 := 31) (Lo1 := [some (.ref 29)]) (st1' := [.ref 28]) (w1 := (wv x (mSet I 16 4 (1 : Int32)) J)) hC48 6 rfl ?_
    refine cv_V (mj := 70) (a := 28) (as := []) (r := []) rfl rfl rfl ⟨rfl, by decide, Nat.le_of_ble_eq_true rfl, Nat.le_of_ble_eq_true rfl⟩ rfl (wcV_mono k (fun I1 J1 k => ?_))
    refine wp_seg (C := gC48) (pc1 := 35) (Lo1 := [some (.ref 29)]) (st1' := [.int (1 : Int32)]) (w1 := (wv x I1 J1)) hC48 1 rfl ?_
    exact we_z rfl rfl (Or.inr rfl) k
  · have k := k.2 h
    refine wp_seg (C := gC48) (pc1 := 15) (Lo1 := [some (.ref 29)]) (st1' := [.int (3 : Int32), .ref 28]) (w1 := (wv x I J)) hC48 3 rfl ?_
    refine cv_I (mj := 75) (a := 28) (as := [.int (3 : Int32)]) (r := []) rfl rfl rfl ⟨rfl, by decide, Nat.le_of_ble_eq_true rfl, Nat.le_of_ble_eq_true rfl⟩ rfl (wcI_mono k (fun r2 I2 J2 k => ?_))
    exact we_z rfl rfl k.1 k.2
set_option maxRecDepth 20000 in
theorem v23_16_0 {S : Nat × (Nat → Int32)} {d : Nat} {x : mX} {I : rI0} {J : rJ0} {Q : Int32 → rI0 → rJ0 → Prop} (k : Q ((I 16 0) * (I 16 1)) I J) : wp S d 23 0 [some (.ref 16)] [] (wv x I J) (rI x Q) := by
  refine wp_seg (C := gC23) (pc1 := 9) (Lo1 := [some (.ref 16)]) (st1' := [.int ((I 16 0) * (I 16 1))]) (w1 := (wv x I J)) hC23 5 rfl ?_
  exact we_i rfl rfl k
set_option maxRecDepth 20000 in
theorem v31_16_0 {S : Nat × (Nat → Int32)} {d : Nat} {x : mX} {I : rI0} {J : rJ0} {p1 : Int32} {p2 : Int32} {Q : rI0 → rJ0 → Prop} (k : wp S (d + 1) 31 2 [some (.ref 16), some (.int p1), some (.int p2), some (.int (0 : Int32))] [] (wv x I J) (rV x Q)) : wp S (d + 1) 31 0 [some (.ref 16), some (.int p1), some (.int p2), none] [] (wv x I J) (rV x Q) := by
  refine wp_seg (C := gC31) (pc1 := 2) (Lo1 := [some (.ref 16), some (.int p1), some (.int p2), some (.int (0 : Int32))]) (st1' := []) (w1 := (wv x I J)) hC31 2 rfl ?_
  exact k
set_option maxRecDepth 20000 in
theorem v31_16_2 {S : Nat × (Nat → Int32)} {d : Nat} {x : mX} {I : rI0} {J : rJ0} {l1 : Int32} {l2 : Int32} {l3 : Int32} {Q : rI0 → rJ0 → Prop} (k : ((l3 < (6 : Int32) → (¬ mOut l3 6 ∧ ((l3 = l2 → (wcJ S d 143 [.long (J 18 l3.toNatClampNeg), .int l1, .int (1 : Int32)] x I J (fun r1 I1 J1 => (¬ mOut l3 6 ∧ wp S (d + 1) 31 2 [some (.ref 16), some (.int l1), some (.int l2), some (.int (l3 + (1 : Int32)))] [] (wv x I1 (mSet J1 18 l3.toNatClampNeg r1)) (rV x Q))))) ∧ (¬ l3 = l2 → (wcJ S d 143 [.long (J 18 l3.toNatClampNeg), .int l1, .int (0 : Int32)] x I J (fun r2 I2 J2 => (¬ mOut l3 6 ∧ wp S (d + 1) 31 2 [some (.ref 16), some (.int l1), some (.int l2), some (.int (l3 + (1 : Int32)))] [] (wv x I2 (mSet J2 18 l3.toNatClampNeg r2)) (rV x Q)))))))) ∧ (¬ l3 < (6 : Int32) → (¬ mOut l1 64 ∧ Q (mSet I 17 l1.toNatClampNeg l2) J)))) : wp S (d + 1) 31 2 [some (.ref 16), some (.int l1), some (.int l2), some (.int l3)] [] (wv x I J) (rV x Q) := by
  refine wp_seg (C := gC31) (pc1 := 5) (Lo1 := [some (.ref 16), some (.int l1), some (.int l2), some (.int l3)]) (st1' := [.int (6 : Int32), .int l3]) (w1 := (wv x I J)) hC31 2 rfl ?_
  refine wj_ge (tgt := 40) rfl rfl (fun h => ?_) (fun h => ?_)
  · have k := k.1 h
    refine wp_seg (C := gC31) (pc1 := 18) (Lo1 := [some (.ref 16), some (.int l1), some (.int l2), some (.int l3)]) (st1' := [.int l3, .ref 18, .int l3, .ref 18]) (w1 := (wv x I J)) hC31 6 rfl ?_
    refine wa_l (n := 6) rfl rfl k.1 ?_
    have k := k.2
    refine wp_seg (C := gC31) (pc1 := 22) (Lo1 := [some (.ref 16), some (.int l1), some (.int l2), some (.int l3)]) (st1' := [.int l2, .int l3, .int l1, .long (J 18 l3.toNatClampNeg), .int l3, .ref 18]) (w1 := (wv x I J)) hC31 3 rfl ?_
    refine wj_ne (tgt := 29) rfl rfl (fun h => ?_) (fun h => ?_)
    · have k := k.1 h
      refine wp_seg (C := gC31) (pc1 := 30) (Lo1 := [some (.ref 16), some (.int l1), some (.int l2), some (.int l3)]) (st1' := [.int (1 : Int32), .int l1, .long (J 18 l3.toNatClampNeg), .int l3, .ref 18]) (w1 := (wv x I J)) hC31 2 rfl ?_
      refine cs_J (mj := 143) (nn := 1) (as := [.long (J 18 l3.toNatClampNeg), .int l1, .int (1 : Int32)]) (r := [.int l3, .ref 18]) rfl rfl rfl ⟨rfl, by decide, Nat.le_of_ble_eq_true rfl, Nat.le_of_ble_eq_true rfl⟩ (by decide) (wcJ_mono k (fun r1 I1 J1 k => ?_))
      refine ws_l (n := 6) rfl rfl k.1 ?_
      have k := k.2
      refine wp_seg (C := gC31) (pc1 := 2) (Lo1 := [some (.ref 16), some (.int l1), some (.int l2), some (.int (l3 + (1 : Int32)))]) (st1' := []) (w1 := (wv x I1 (mSet J1 18 l3.toNatClampNeg r1))) hC31 2 rfl ?_
      exact k
    · have k := k.2 h
      refine wp_seg (C := gC31) (pc1 := 30) (Lo1 := [some (.ref 16), some (.int l1), some (.int l2), some (.int l3)]) (st1' := [.int (0 : Int32), .int l1, .long (J 18 l3.toNatClampNeg), .int l3, .ref 18]) (w1 := (wv x I J)) hC31 1 rfl ?_
      refine cs_J (mj := 143) (nn := 1) (as := [.long (J 18 l3.toNatClampNeg), .int l1, .int (0 : Int32)]) (r := [.int l3, .ref 18]) rfl rfl rfl ⟨rfl, by decide, Nat.le_of_ble_eq_true rfl, Nat.le_of_ble_eq_true rfl⟩ (by decide) (wcJ_mono k (fun r2 I2 J2 k => ?_))
      refine ws_l (n := 6) rfl rfl k.1 ?_
      have k := k.2
      refine wp_seg (C := gC31) (pc1 := 2) (Lo1 := [some (.ref 16), some (.int l1), some (.int l2), some (.int (l3 + (1 : Int32)))]) (st1' := []) (w1 := (wv x I2 (mSet J2 18 l3.toNatClampNeg r2))) hC31 2 rfl ?_
      exact k
  · have k := k.2 h
    refine wp_seg (C := gC31) (pc1 := 46) (Lo1 := [some (.ref 16), some (.int l1), some (.int l2), some (.int l3)]) (st1' := [.int l2, .int l1, .ref 17]) (w1 := (wv x I J)) hC31 4 rfl ?_
    refine ws_i (n := 64) rfl rfl k.1 ?_
    have k := k.2
    exact we_v rfl rfl k
set_option maxRecDepth 20000 in
theorem v24_16_0 {S : Nat × (Nat → Int32)} {d : Nat} {x : mX} {I : rI0} {J : rJ0} {p1 : Int32} {Q : Int32 → rI0 → rJ0 → Prop} (k : ((p1 < (0 : Int32) → Q (0 : Int32) I J) ∧ (¬ p1 < (0 : Int32) → ((p1 < (64 : Int32) → (((lg_cmp ((((J 16 5).toUInt64 >>> (p1.toInt64.toUInt64 &&& Int64.toUInt64 63)).toInt64) &&& (1 : Int64)) (0 : Int64)) = (0 : Int32) → Q (0 : Int32) I J) ∧ (¬ (lg_cmp ((((J 16 5).toUInt64 >>> (p1.toInt64.toUInt64 &&& Int64.toUInt64 63)).toInt64) &&& (1 : Int64)) (0 : Int64)) = (0 : Int32) → Q (1 : Int32) I J))) ∧ (¬ p1 < (64 : Int32) → Q (0 : Int32) I J))))) : wp S d 24 0 [some (.ref 16), some (.int p1)] [] (wv x I J) (rI x Q) := by
  refine wp_seg (C := gC24) (pc1 := 1) (Lo1 := [some (.ref 16), some (.int p1)]) (st1' := [.int p1]) (w1 := (wv x I J)) hC24 1 rfl ?_
  refine wi_lt (tgt := 27) rfl rfl (fun h => ?_) (fun h => ?_)
  · have k := k.1 h
    refine wp_seg (C := gC24) (pc1 := 28) (Lo1 := [some (.ref 16), some (.int p1)]) (st1' := [.int (0 : Int32)]) (w1 := (wv x I J)) hC24 1 rfl ?_
    exact we_z rfl rfl (Or.inl rfl) k
  · have k := k.2 h
    refine wp_seg (C := gC24) (pc1 := 7) (Lo1 := [some (.ref 16), some (.int p1)]) (st1' := [.int (64 : Int32), .int p1]) (w1 := (wv x I J)) hC24 2 rfl ?_
    refine wj_ge (tgt := 27) rfl rfl (fun h => ?_) (fun h => ?_)
    · have k := k.1 h
      refine wp_seg (C := gC24) (pc1 := 20) (Lo1 := [some (.ref 16), some (.int p1)]) (st1' := [.int (lg_cmp ((((J 16 5).toUInt64 >>> (p1.toInt64.toUInt64 &&& Int64.toUInt64 63)).toInt64) &&& (1 : Int64)) (0 : Int64))]) (w1 := (wv x I J)) hC24 8 rfl ?_
      refine wi_eq (tgt := 27) rfl rfl (fun h => ?_) (fun h => ?_)
      · have k := k.1 h
        refine wp_seg (C := gC24) (pc1 := 28) (Lo1 := [some (.ref 16), some (.int p1)]) (st1' := [.int (0 : Int32)]) (w1 := (wv x I J)) hC24 1 rfl ?_
        exact we_z rfl rfl (Or.inl rfl) k
      · have k := k.2 h
        refine wp_seg (C := gC24) (pc1 := 28) (Lo1 := [some (.ref 16), some (.int p1)]) (st1' := [.int (1 : Int32)]) (w1 := (wv x I J)) hC24 2 rfl ?_
        exact we_z rfl rfl (Or.inr rfl) k
    · have k := k.2 h
      refine wp_seg (C := gC24) (pc1 := 28) (Lo1 := [some (.ref 16), some (.int p1)]) (st1' := [.int (0 : Int32)]) (w1 := (wv x I J)) hC24 1 rfl ?_
      exact we_z rfl rfl (Or.inl rfl) k
set_option maxRecDepth 20000 in
theorem v33_16_0 {S : Nat × (Nat → Int32)} {d : Nat} {x : mX} {I : rI0} {J : rJ0} {p1 : Int32} {Q : rI0 → rJ0 → Prop} (k : (wcI S d 25 [.ref 16, .int p1] x I J (fun r1 I1 J1 => (wcJ S d 34 [.ref 16, .int r1, .int (p1 - (r1 * (I1 16 1))), .int (1 : Int32)] x I1 J1 (fun r2 I2 J2 => (wcJ S d 34 [.ref 16, .int (r1 - (1 : Int32)), .int (p1 - (r1 * (I1 16 1))), .int (0 : Int32)] x I2 J2 (fun r3 I3 J3 => (wcJ S d 34 [.ref 16, .int (r1 - (1 : Int32)), .int (p1 - (r1 * (I1 16 1))), .int (1 : Int32)] x I3 J3 (fun r4 I4 J4 => (wcJ S d 34 [.ref 16, .int (r1 + (1 : Int32)), .int (p1 - (r1 * (I1 16 1))), .int (1 : Int32)] x I4 J4 (fun r5 I5 J5 => (¬ mOut p1 384 ∧ (¬ mOut ((64 : Int32) + p1) 384 ∧ (¬ mOut ((128 : Int32) + p1) 384 ∧ (wcJ S d 34 [.ref 16, .int (r1 + (1 : Int32)), .int (p1 - (r1 * (I1 16 1))), .int (0 : Int32)] x I5 (mSet (mSet (mSet J5 23 p1.toNatClampNeg ((r4 ||| (r2 &&& (((1 : Int64) <<< (p1.toInt64 &&& 63)) ^^^ (-1 : Int64)))) ||| r5)) 23 (((64 : Int32) + p1).toNatClampNeg) r3) 23 (((128 : Int32) + p1).toNatClampNeg) (r2 &&& (((1 : Int64) <<< (p1.toInt64 &&& 63)) ^^^ (-1 : Int64)))) (fun r6 I6 J6 => (¬ mOut ((192 : Int32) + p1) 384 ∧ (wcJ S d 34 [.ref 16, .int (r1 - (1 : Int32)), .int (p1 - (r1 * (I1 16 1))), .int (1 : Int32)] x I6 (mSet J6 23 (((192 : Int32) + p1).toNatClampNeg) r6) (fun r7 I7 J7 => (wcJ S d 34 [.ref 16, .int (r1 - (2 : Int32)), .int (p1 - (r1 * (I1 16 1))), .int (2 : Int32)] x I7 J7 (fun r8 I8 J8 => (wcJ S d 34 [.ref 16, .int (r1 - (3 : Int32)), .int (p1 - (r1 * (I1 16 1))), .int (3 : Int32)] x I8 J8 (fun r9 I9 J9 => (((lg_cmp r3 (0 : Int64)) = (0 : Int32) → (¬ mOut ((256 : Int32) + p1) 384 ∧ (¬ mOut ((320 : Int32) + p1) 384 ∧ Q I9 (mSet (mSet J9 23 (((256 : Int32) + p1).toNatClampNeg) (0 : Int64)) 23 (((320 : Int32) + p1).toNatClampNeg) ((J9 16 5) &&& (((1 : Int64) <<< (p1.toInt64 &&& 63)) ^^^ (-1 : Int64))))))) ∧ (¬ (lg_cmp r3 (0 : Int64)) = (0 : Int32) → (¬ mOut ((256 : Int32) + p1) 384 ∧ (¬ mOut ((320 : Int32) + p1) 384 ∧ Q I9 (mSet (mSet J9 23 (((256 : Int32) + p1).toNatClampNeg) ((r7 ||| r8) ||| r9)) 23 (((320 : Int32) + p1).toNatClampNeg) ((J9 16 5) &&& (((1 : Int64) <<< (p1.toInt64 &&& 63)) ^^^ (-1 : Int64))))))))))))))))))))))))))))))) : wp S (d + 1) 33 0 [some (.ref 16), some (.int p1), none, none, none, none, none, none, none, none, none, none] [] (wv x I J) (rV x Q) := by
  refine wp_seg (C := gC33) (pc1 := 2) (Lo1 := [some (.ref 16), some (.int p1), none, none, none, none, none, none, none, none, none, none]) (st1' := [.int p1, .ref 16]) (w1 := (wv x I J)) hC33 2 rfl ?_
  refine cv_I (mj := 25) (a := 16) (as := [.int p1]) (r := []) rfl rfl rfl ⟨rfl, by decide, Nat.le_of_ble_eq_true rfl, Nat.le_of_ble_eq_true rfl⟩ rfl (wcI_mono k (fun r1 I1 J1 k => ?_))
  refine wp_seg (C := gC33) (pc1 := 15) (Lo1 := [some (.ref 16), some (.int p1), some (.int r1), some (.int (p1 - (r1 * (I1 16 1)))), none, none, none, none, none, none, none, none]) (st1' := []) (w1 := (wv x I1 J1)) hC33 8 rfl ?_
  refine wp_seg (C := gC33) (pc1 := 24) (Lo1 := [some (.ref 16), some (.int p1), some (.int r1), some (.int (p1 - (r1 * (I1 16 1)))), some (.long ((1 : Int64) <<< (p1.toInt64 &&& 63))), none, none, none, none, none, none, none]) (st1' := [.int (1 : Int32), .int (p1 - (r1 * (I1 16 1))), .int r1, .ref 16]) (w1 := (wv x I1 J1)) hC33 8 rfl ?_
  refine cv_J (mj := 34) (a := 16) (as := [.int r1, .int (p1 - (r1 * (I1 16 1))), .int (1 : Int32)]) (r := []) rfl rfl rfl ⟨rfl, by decide, Nat.le_of_ble_eq_true rfl, Nat.le_of_ble_eq_true rfl⟩ rfl (wcJ_mono k (fun r2 I2 J2 k => ?_))
  refine wp_seg (C := gC33) (pc1 := 42) (Lo1 := [some (.ref 16), some (.int p1), some (.int r1), some (.int (p1 - (r1 * (I1 16 1)))), some (.long ((1 : Int64) <<< (p1.toInt64 &&& 63))), none, some (.long (r2 &&& (((1 : Int64) <<< (p1.toInt64 &&& 63)) ^^^ (-1 : Int64)))), none, none, none, none, none]) (st1' := [.int (0 : Int32), .int (p1 - (r1 * (I1 16 1))), .int (r1 - (1 : Int32)), .ref 16]) (w1 := (wv x I2 J2)) hC33 11 rfl ?_
  refine cv_J (mj := 34) (a := 16) (as := [.int (r1 - (1 : Int32)), .int (p1 - (r1 * (I1 16 1))), .int (0 : Int32)]) (r := []) rfl rfl rfl ⟨rfl, by decide, Nat.le_of_ble_eq_true rfl, Nat.le_of_ble_eq_true rfl⟩ rfl (wcJ_mono k (fun r3 I3 J3 k => ?_))
  refine wp_seg (C := gC33) (pc1 := 58) (Lo1 := [some (.ref 16), some (.int p1), some (.int r1), some (.int (p1 - (r1 * (I1 16 1)))), some (.long ((1 : Int64) <<< (p1.toInt64 &&& 63))), none, some (.long (r2 &&& (((1 : Int64) <<< (p1.toInt64 &&& 63)) ^^^ (-1 : Int64)))), none, some (.long r3), none, none, none]) (st1' := [.int (1 : Int32), .int (p1 - (r1 * (I1 16 1))), .int (r1 - (1 : Int32)), .ref 16, .int p1, .ref 23]) (w1 := (wv x I3 J3)) hC33 10 rfl ?_
  refine cv_J (mj := 34) (a := 16) (as := [.int (r1 - (1 : Int32)), .int (p1 - (r1 * (I1 16 1))), .int (1 : Int32)]) (r := [.int p1, .ref 23]) rfl rfl rfl ⟨rfl, by decide, Nat.le_of_ble_eq_true rfl, Nat.le_of_ble_eq_true rfl⟩ rfl (wcJ_mono k (fun r4 I4 J4 k => ?_))
  refine wp_seg (C := gC33) (pc1 := 70) (Lo1 := [some (.ref 16), some (.int p1), some (.int r1), some (.int (p1 - (r1 * (I1 16 1)))), some (.long ((1 : Int64) <<< (p1.toInt64 &&& 63))), none, some (.long (r2 &&& (((1 : Int64) <<< (p1.toInt64 &&& 63)) ^^^ (-1 : Int64)))), none, some (.long r3), none, none, none]) (st1' := [.int (1 : Int32), .int (p1 - (r1 * (I1 16 1))), .int (r1 + (1 : Int32)), .ref 16, .long (r4 ||| (r2 &&& (((1 : Int64) <<< (p1.toInt64 &&& 63)) ^^^ (-1 : Int64)))), .int p1, .ref 23]) (w1 := (wv x I4 J4)) hC33 8 rfl ?_
  refine cv_J (mj := 34) (a := 16) (as := [.int (r1 + (1 : Int32)), .int (p1 - (r1 * (I1 16 1))), .int (1 : Int32)]) (r := [.long (r4 ||| (r2 &&& (((1 : Int64) <<< (p1.toInt64 &&& 63)) ^^^ (-1 : Int64)))), .int p1, .ref 23]) rfl rfl rfl ⟨rfl, by decide, Nat.le_of_ble_eq_true rfl, Nat.le_of_ble_eq_true rfl⟩ rfl (wcJ_mono k (fun r5 I5 J5 k => ?_))
  refine wp_seg (C := gC33) (pc1 := 74) (Lo1 := [some (.ref 16), some (.int p1), some (.int r1), some (.int (p1 - (r1 * (I1 16 1)))), some (.long ((1 : Int64) <<< (p1.toInt64 &&& 63))), none, some (.long (r2 &&& (((1 : Int64) <<< (p1.toInt64 &&& 63)) ^^^ (-1 : Int64)))), none, some (.long r3), none, none, none]) (st1' := [.long ((r4 ||| (r2 &&& (((1 : Int64) <<< (p1.toInt64 &&& 63)) ^^^ (-1 : Int64)))) ||| r5), .int p1, .ref 23]) (w1 := (wv x I5 J5)) hC33 1 rfl ?_
  refine ws_l (n := 384) rfl rfl k.1 ?_
  have k := k.2
  refine wp_seg (C := gC33) (pc1 := 85) (Lo1 := [some (.ref 16), some (.int p1), some (.int r1), some (.int (p1 - (r1 * (I1 16 1)))), some (.long ((1 : Int64) <<< (p1.toInt64 &&& 63))), none, some (.long (r2 &&& (((1 : Int64) <<< (p1.toInt64 &&& 63)) ^^^ (-1 : Int64)))), none, some (.long r3), none, none, none]) (st1' := [.long r3, .int ((64 : Int32) + p1), .ref 23]) (w1 := (wv x I5 (mSet J5 23 p1.toNatClampNeg ((r4 ||| (r2 &&& (((1 : Int64) <<< (p1.toInt64 &&& 63)) ^^^ (-1 : Int64)))) ||| r5)))) hC33 6 rfl ?_
  refine ws_l (n := 384) rfl rfl k.1 ?_
  have k := k.2
  refine wp_seg (C := gC33) (pc1 := 97) (Lo1 := [some (.ref 16), some (.int p1), some (.int r1), some (.int (p1 - (r1 * (I1 16 1)))), some (.long ((1 : Int64) <<< (p1.toInt64 &&& 63))), none, some (.long (r2 &&& (((1 : Int64) <<< (p1.toInt64 &&& 63)) ^^^ (-1 : Int64)))), none, some (.long r3), none, none, none]) (st1' := [.long (r2 &&& (((1 : Int64) <<< (p1.toInt64 &&& 63)) ^^^ (-1 : Int64))), .int ((128 : Int32) + p1), .ref 23]) (w1 := (wv x I5 (mSet (mSet J5 23 p1.toNatClampNeg ((r4 ||| (r2 &&& (((1 : Int64) <<< (p1.toInt64 &&& 63)) ^^^ (-1 : Int64)))) ||| r5)) 23 (((64 : Int32) + p1).toNatClampNeg) r3))) hC33 6 rfl ?_
  refine ws_l (n := 384) rfl rfl k.1 ?_
  have k := k.2
  refine wp_seg (C := gC33) (pc1 := 113) (Lo1 := [some (.ref 16), some (.int p1), some (.int r1), some (.int (p1 - (r1 * (I1 16 1)))), some (.long ((1 : Int64) <<< (p1.toInt64 &&& 63))), none, some (.long (r2 &&& (((1 : Int64) <<< (p1.toInt64 &&& 63)) ^^^ (-1 : Int64)))), none, some (.long r3), none, none, none]) (st1' := [.int (0 : Int32), .int (p1 - (r1 * (I1 16 1))), .int (r1 + (1 : Int32)), .ref 16, .int ((192 : Int32) + p1), .ref 23]) (w1 := (wv x I5 (mSet (mSet (mSet J5 23 p1.toNatClampNeg ((r4 ||| (r2 &&& (((1 : Int64) <<< (p1.toInt64 &&& 63)) ^^^ (-1 : Int64)))) ||| r5)) 23 (((64 : Int32) + p1).toNatClampNeg) r3) 23 (((128 : Int32) + p1).toNatClampNeg) (r2 &&& (((1 : Int64) <<< (p1.toInt64 &&& 63)) ^^^ (-1 : Int64)))))) hC33 11 rfl ?_
  refine cv_J (mj := 34) (a := 16) (as := [.int (r1 + (1 : Int32)), .int (p1 - (r1 * (I1 16 1))), .int (0 : Int32)]) (r := [.int ((192 : Int32) + p1), .ref 23]) rfl rfl rfl ⟨rfl, by decide, Nat.le_of_ble_eq_true rfl, Nat.le_of_ble_eq_true rfl⟩ rfl (wcJ_mono k (fun r6 I6 J6 k => ?_))
  refine ws_l (n := 384) rfl rfl k.1 ?_
  have k := k.2
  refine wp_seg (C := gC33) (pc1 := 123) (Lo1 := [some (.ref 16), some (.int p1), some (.int r1), some (.int (p1 - (r1 * (I1 16 1)))), some (.long ((1 : Int64) <<< (p1.toInt64 &&& 63))), none, some (.long (r2 &&& (((1 : Int64) <<< (p1.toInt64 &&& 63)) ^^^ (-1 : Int64)))), none, some (.long r3), none, none, none]) (st1' := [.int (1 : Int32), .int (p1 - (r1 * (I1 16 1))), .int (r1 - (1 : Int32)), .ref 16]) (w1 := (wv x I6 (mSet J6 23 (((192 : Int32) + p1).toNatClampNeg) r6))) hC33 6 rfl ?_
  refine cv_J (mj := 34) (a := 16) (as := [.int (r1 - (1 : Int32)), .int (p1 - (r1 * (I1 16 1))), .int (1 : Int32)]) (r := []) rfl rfl rfl ⟨rfl, by decide, Nat.le_of_ble_eq_true rfl, Nat.le_of_ble_eq_true rfl⟩ rfl (wcJ_mono k (fun r7 I7 J7 k => ?_))
  refine wp_seg (C := gC33) (pc1 := 132) (Lo1 := [some (.ref 16), some (.int p1), some (.int r1), some (.int (p1 - (r1 * (I1 16 1)))), some (.long ((1 : Int64) <<< (p1.toInt64 &&& 63))), none, some (.long (r2 &&& (((1 : Int64) <<< (p1.toInt64 &&& 63)) ^^^ (-1 : Int64)))), none, some (.long r3), none, none, none]) (st1' := [.int (2 : Int32), .int (p1 - (r1 * (I1 16 1))), .int (r1 - (2 : Int32)), .ref 16, .long r7]) (w1 := (wv x I7 J7)) hC33 6 rfl ?_
  refine cv_J (mj := 34) (a := 16) (as := [.int (r1 - (2 : Int32)), .int (p1 - (r1 * (I1 16 1))), .int (2 : Int32)]) (r := [.long r7]) rfl rfl rfl ⟨rfl, by decide, Nat.le_of_ble_eq_true rfl, Nat.le_of_ble_eq_true rfl⟩ rfl (wcJ_mono k (fun r8 I8 J8 k => ?_))
  refine wp_seg (C := gC33) (pc1 := 142) (Lo1 := [some (.ref 16), some (.int p1), some (.int r1), some (.int (p1 - (r1 * (I1 16 1)))), some (.long ((1 : Int64) <<< (p1.toInt64 &&& 63))), none, some (.long (r2 &&& (((1 : Int64) <<< (p1.toInt64 &&& 63)) ^^^ (-1 : Int64)))), none, some (.long r3), none, none, none]) (st1' := [.int (3 : Int32), .int (p1 - (r1 * (I1 16 1))), .int (r1 - (3 : Int32)), .ref 16, .long (r7 ||| r8)]) (w1 := (wv x I8 J8)) hC33 7 rfl ?_
  refine cv_J (mj := 34) (a := 16) (as := [.int (r1 - (3 : Int32)), .int (p1 - (r1 * (I1 16 1))), .int (3 : Int32)]) (r := [.long (r7 ||| r8)]) rfl rfl rfl ⟨rfl, by decide, Nat.le_of_ble_eq_true rfl, Nat.le_of_ble_eq_true rfl⟩ rfl (wcJ_mono k (fun r9 I9 J9 k => ?_))
  refine wp_seg (C := gC33) (pc1 := 161) (Lo1 := [some (.ref 16), some (.int p1), some (.int r1), some (.int (p1 - (r1 * (I1 16 1)))), some (.long ((1 : Int64) <<< (p1.toInt64 &&& 63))), none, some (.long (r2 &&& (((1 : Int64) <<< (p1.toInt64 &&& 63)) ^^^ (-1 : Int64)))), none, some (.long r3), none, some (.long ((r7 ||| r8) ||| r9)), none]) (st1' := [.int (lg_cmp r3 (0 : Int64)), .int ((256 : Int32) + p1), .ref 23]) (w1 := (wv x I9 J9)) hC33 10 rfl ?_
  refine wi_ne (tgt := 168) rfl rfl (fun h => ?_) (fun h => ?_)
  · have k := k.1 h
    refine wp_seg (C := gC33) (pc1 := 170) (Lo1 := [some (.ref 16), some (.int p1), some (.int r1), some (.int (p1 - (r1 * (I1 16 1)))), some (.long ((1 : Int64) <<< (p1.toInt64 &&& 63))), none, some (.long (r2 &&& (((1 : Int64) <<< (p1.toInt64 &&& 63)) ^^^ (-1 : Int64)))), none, some (.long r3), none, some (.long ((r7 ||| r8) ||| r9)), none]) (st1' := [.long (0 : Int64), .int ((256 : Int32) + p1), .ref 23]) (w1 := (wv x I9 J9)) hC33 2 rfl ?_
    refine ws_l (n := 384) rfl rfl k.1 ?_
    have k := k.2
    refine wp_seg (C := gC33) (pc1 := 191) (Lo1 := [some (.ref 16), some (.int p1), some (.int r1), some (.int (p1 - (r1 * (I1 16 1)))), some (.long ((1 : Int64) <<< (p1.toInt64 &&& 63))), none, some (.long (r2 &&& (((1 : Int64) <<< (p1.toInt64 &&& 63)) ^^^ (-1 : Int64)))), none, some (.long r3), none, some (.long ((r7 ||| r8) ||| r9)), none]) (st1' := [.long ((J9 16 5) &&& (((1 : Int64) <<< (p1.toInt64 &&& 63)) ^^^ (-1 : Int64))), .int ((320 : Int32) + p1), .ref 23]) (w1 := (wv x I9 (mSet J9 23 (((256 : Int32) + p1).toNatClampNeg) (0 : Int64)))) hC33 11 rfl ?_
    refine ws_l (n := 384) rfl rfl k.1 ?_
    have k := k.2
    exact we_v rfl rfl k
  · have k := k.2 h
    refine wp_seg (C := gC33) (pc1 := 170) (Lo1 := [some (.ref 16), some (.int p1), some (.int r1), some (.int (p1 - (r1 * (I1 16 1)))), some (.long ((1 : Int64) <<< (p1.toInt64 &&& 63))), none, some (.long (r2 &&& (((1 : Int64) <<< (p1.toInt64 &&& 63)) ^^^ (-1 : Int64)))), none, some (.long r3), none, some (.long ((r7 ||| r8) ||| r9)), none]) (st1' := [.long ((r7 ||| r8) ||| r9), .int ((256 : Int32) + p1), .ref 23]) (w1 := (wv x I9 J9)) hC33 1 rfl ?_
    refine ws_l (n := 384) rfl rfl k.1 ?_
    have k := k.2
    refine wp_seg (C := gC33) (pc1 := 191) (Lo1 := [some (.ref 16), some (.int p1), some (.int r1), some (.int (p1 - (r1 * (I1 16 1)))), some (.long ((1 : Int64) <<< (p1.toInt64 &&& 63))), none, some (.long (r2 &&& (((1 : Int64) <<< (p1.toInt64 &&& 63)) ^^^ (-1 : Int64)))), none, some (.long r3), none, some (.long ((r7 ||| r8) ||| r9)), none]) (st1' := [.long ((J9 16 5) &&& (((1 : Int64) <<< (p1.toInt64 &&& 63)) ^^^ (-1 : Int64))), .int ((320 : Int32) + p1), .ref 23]) (w1 := (wv x I9 (mSet J9 23 (((256 : Int32) + p1).toNatClampNeg) ((r7 ||| r8) ||| r9)))) hC33 11 rfl ?_
    refine ws_l (n := 384) rfl rfl k.1 ?_
    have k := k.2
    exact we_v rfl rfl k
