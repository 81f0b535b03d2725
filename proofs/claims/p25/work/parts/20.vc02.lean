set_option maxRecDepth 20000 in
theorem v170_43_62 {S : Nat × (Nat → Int32)} {d : Nat} {x : mX} {I : rI0} {J : rJ0} {l1 : Int32} {l2 : Int32} {l3 : Int32} {Q : Int32 → rI0 → rJ0 → Prop} (k : ((l3 < (I 43 11) → ((l2 = (0 : Int32) → wp S (d + 1) 170 62 [some (.ref 43), some (.int l1), some (.int (0 : Int32)), some (.int (l3 + (1 : Int32))), none] [] (wv x I J) (rI x Q)) ∧ (¬ l2 = (0 : Int32) → (wcI S d 155 [.ref 43, .int ((I 43 10) + l3)] x I J (fun r1 I1 J1 => ((r1 = (120 : Int32) → wp S (d + 1) 170 62 [some (.ref 43), some (.int l1), some (.int (1 : Int32)), some (.int (l3 + (1 : Int32))), none] [] (wv x I1 J1) (rI x Q)) ∧ (¬ r1 = (120 : Int32) → (wcI S d 155 [.ref 43, .int ((I1 43 10) + l3)] x I1 J1 (fun r2 I2 J2 => (wcI S d 151 [.int r2, .int (97 : Int32), .int (102 : Int32)] x I2 J2 (fun r3 I3 J3 => ((r3 = (0 : Int32) → wp S (d + 1) 170 62 [some (.ref 43), some (.int l1), some (.int (0 : Int32)), some (.int (l3 + (1 : Int32))), none] [] (wv x I3 J3) (rI x Q)) ∧ (¬ r3 = (0 : Int32) → wp S (d + 1) 170 62 [some (.ref 43), some (.int l1), some (.int (1 : Int32)), some (.int (l3 + (1 : Int32))), none] [] (wv x I3 J3) (rI x Q)))))))))))))) ∧ (¬ l3 < (I 43 11) → ((l2 = (0 : Int32) → (wcI S d 162 [.ref 43, .int (2 : Int32)] x I J (fun r4 I4 J4 => ((r4 = 0 ∨ r4 = 1) ∧ Q r4 I4 J4)))) ∧ (¬ l2 = (0 : Int32) → (¬ mOut (1 : Int32) 590 ∧ wp S (d + 1) 170 143 [some (.ref 43), some (.int l1), some (.int l2), some (.int (0 : Int32)), none] [] (wv x (mSet I 46 ((1 : Int32).toNatClampNeg) (I 43 11)) J) (rI x Q))))))) : wp S (d + 1) 170 62 [some (.ref 43), some (.int l1), some (.int l2), some (.int l3), none] [] (wv x I J) (rI x Q) := by
  refine wp_seg (C := gC170) (pc1 := 67) (Lo1 := [some (.ref 43), some (.int l1), some (.int l2), some (.int l3), none]) (st1' := [.int (I 43 11), .int l3]) (w1 := (wv x I J)) hC170 3 rfl ?_
  refine wj_ge (tgt := 121) rfl rfl (fun h => ?_) (fun h => ?_)
  · have k := k.1 h
    refine wp_seg (C := gC170) (pc1 := 71) (Lo1 := [some (.ref 43), some (.int l1), some (.int l2), some (.int l3), none]) (st1' := [.int l2]) (w1 := (wv x I J)) hC170 1 rfl ?_
    refine wi_eq (tgt := 113) rfl rfl (fun h => ?_) (fun h => ?_)
    · have k := k.1 h
      refine wp_seg (C := gC170) (pc1 := 118) (Lo1 := [some (.ref 43), some (.int l1), some (.int (0 : Int32)), some (.int (l3 + (1 : Int32))), none]) (st1' := []) (w1 := (wv x I J)) hC170 3 rfl ?_
      refine wp_seg (C := gC170) (pc1 := 62) (Lo1 := [some (.ref 43), some (.int l1), some (.int (0 : Int32)), some (.int (l3 + (1 : Int32))), none]) (st1' := []) (w1 := (wv x I J)) hC170 1 rfl ?_
      exact k
    · have k := k.2 h
      refine wp_seg (C := gC170) (pc1 := 81) (Lo1 := [some (.ref 43), some (.int l1), some (.int l2), some (.int l3), none]) (st1' := [.int ((I 43 10) + l3), .ref 43]) (w1 := (wv x I J)) hC170 5 rfl ?_
      refine cv_I (mj := 155) (a := 43) (as := [.int ((I 43 10) + l3)]) (r := []) rfl rfl rfl ⟨rfl, by decide, Nat.le_of_ble_eq_true rfl, Nat.le_of_ble_eq_true rfl⟩ rfl (wcI_mono k (fun r1 I1 J1 k => ?_))
      refine wp_seg (C := gC170) (pc1 := 86) (Lo1 := [some (.ref 43), some (.int l1), some (.int l2), some (.int l3), none]) (st1' := [.int (120 : Int32), .int r1]) (w1 := (wv x I1 J1)) hC170 1 rfl ?_
      refine wj_eq (tgt := 109) rfl rfl (fun h => ?_) (fun h => ?_)
      · have k := k.1 h
        refine wp_seg (C := gC170) (pc1 := 118) (Lo1 := [some (.ref 43), some (.int l1), some (.int (1 : Int32)), some (.int (l3 + (1 : Int32))), none]) (st1' := []) (w1 := (wv x I1 J1)) hC170 4 rfl ?_
        refine wp_seg (C := gC170) (pc1 := 62) (Lo1 := [some (.ref 43), some (.int l1), some (.int (1 : Int32)), some (.int (l3 + (1 : Int32))), none]) (st1' := []) (w1 := (wv x I1 J1)) hC170 1 rfl ?_
        exact k
      · have k := k.2 h
        refine wp_seg (C := gC170) (pc1 := 96) (Lo1 := [some (.ref 43), some (.int l1), some (.int l2), some (.int l3), none]) (st1' := [.int ((I1 43 10) + l3), .ref 43]) (w1 := (wv x I1 J1)) hC170 5 rfl ?_
        refine cv_I (mj := 155) (a := 43) (as := [.int ((I1 43 10) + l3)]) (r := []) rfl rfl rfl ⟨rfl, by decide, Nat.le_of_ble_eq_true rfl, Nat.le_of_ble_eq_true rfl⟩ rfl (wcI_mono k (fun r2 I2 J2 k => ?_))
        refine wp_seg (C := gC170) (pc1 := 103) (Lo1 := [some (.ref 43), some (.int l1), some (.int l2), some (.int l3), none]) (st1' := [.int (102 : Int32), .int (97 : Int32), .int r2]) (w1 := (wv x I2 J2)) hC170 2 rfl ?_
        refine cs_I (mj := 151) (nn := 0) (as := [.int r2, .int (97 : Int32), .int (102 : Int32)]) (r := []) rfl rfl rfl ⟨rfl, by decide, Nat.le_of_ble_eq_true rfl, Nat.le_of_ble_eq_true rfl⟩ (by decide) (wcI_mono k (fun r3 I3 J3 k => ?_))
        refine wi_eq (tgt := 113) rfl rfl (fun h => ?_) (fun h => ?_)
        · have k := k.1 h
          refine wp_seg (C := gC170) (pc1 := 118) (Lo1 := [some (.ref 43), some (.int l1), some (.int (0 : Int32)), some (.int (l3 + (1 : Int32))), none]) (st1' := []) (w1 := (wv x I3 J3)) hC170 3 rfl ?_
          refine wp_seg (C := gC170) (pc1 := 62) (Lo1 := [some (.ref 43), some (.int l1), some (.int (0 : Int32)), some (.int (l3 + (1 : Int32))), none]) (st1' := []) (w1 := (wv x I3 J3)) hC170 1 rfl ?_
          exact k
        · have k := k.2 h
          refine wp_seg (C := gC170) (pc1 := 118) (Lo1 := [some (.ref 43), some (.int l1), some (.int (1 : Int32)), some (.int (l3 + (1 : Int32))), none]) (st1' := []) (w1 := (wv x I3 J3)) hC170 4 rfl ?_
          refine wp_seg (C := gC170) (pc1 := 62) (Lo1 := [some (.ref 43), some (.int l1), some (.int (1 : Int32)), some (.int (l3 + (1 : Int32))), none]) (st1' := []) (w1 := (wv x I3 J3)) hC170 1 rfl ?_
          exact k
  · have k := k.2 h
    refine wp_seg (C := gC170) (pc1 := 122) (Lo1 := [some (.ref 43), some (.int l1), some (.int l2), some (.int l3), none]) (st1' := [.int l2]) (w1 := (wv x I J)) hC170 1 rfl ?_
    refine wi_ne (tgt := 131) rfl rfl (fun h => ?_) (fun h => ?_)
    · have k := k.1 h
      refine wp_seg (C := gC170) (pc1 := 127) (Lo1 := [some (.ref 43), some (.int l1), some (.int l2), some (.int l3), none]) (st1' := [.int (2 : Int32), .ref 43]) (w1 := (wv x I J)) hC170 2 rfl ?_
      refine cv_I (mj := 162) (a := 43) (as := [.int (2 : Int32)]) (r := []) rfl rfl rfl ⟨rfl, by decide, Nat.le_of_ble_eq_true rfl, Nat.le_of_ble_eq_true rfl⟩ rfl (wcI_mono k (fun r4 I4 J4 k => ?_))
      exact we_z rfl rfl k.1 k.2
    · have k := k.2 h
      refine wp_seg (C := gC170) (pc1 := 140) (Lo1 := [some (.ref 43), some (.int l1), some (.int l2), some (.int l3), none]) (st1' := [.int (I 43 11), .int (1 : Int32), .ref 46]) (w1 := (wv x I J)) hC170 5 rfl ?_
      refine ws_i (n := 590) rfl rfl k.1 ?_
      have k := k.2
      refine wp_seg (C := gC170) (pc1 := 143) (Lo1 := [some (.ref 43), some (.int l1), some (.int l2), some (.int (0 : Int32)), none]) (st1' := []) (w1 := (wv x (mSet I 46 ((1 : Int32).toNatClampNeg) (I 43 11)) J)) hC170 2 rfl ?_
      exact k
set_option maxRecDepth 20000 in
theorem v170_43_143 {S : Nat × (Nat → Int32)} {d : Nat} {x : mX} {I : rI0} {J : rJ0} {l1 : Int32} {l2 : Int32} {l3 : Int32} {Q : Int32 → rI0 → rJ0 → Prop} (k : ((l3 < (I 43 11) → (wcI S d 155 [.ref 43, .int ((I 43 10) + l3)] x I J (fun r1 I1 J1 => ((r1 = (120 : Int32) → wp S (d + 1) 170 194 [some (.ref 43), some (.int l1), some (.int l2), some (.int l3), some (.int r1)] [.int (0 : Int32), .int (((6 : Int32) + ((I1 43 11) * l1)) + l3), .ref 46] (wv x I1 J1) (rI x Q)) ∧ (¬ r1 = (120 : Int32) → wp S (d + 1) 170 194 [some (.ref 43), some (.int l1), some (.int l2), some (.int l3), some (.int r1)] [.int (r1 - (96 : Int32)), .int (((6 : Int32) + ((I1 43 11) * l1)) + l3), .ref 46] (wv x I1 J1) (rI x Q)))))) ∧ (¬ l3 < (I 43 11) → (¬ mOut (0 : Int32) 590 ∧ (¬ mOut (0 : Int32) 590 ∧ (wcV S d 161 [.ref 43] x (mSet I 46 ((0 : Int32).toNatClampNeg) ((I 46 ((0 : Int32).toNatClampNeg)) + (1 : Int32))) J (fun I2 J2 => Q (1 : Int32) I2 J2))))))) : wp S (d + 1) 170 143 [some (.ref 43), some (.int l1), some (.int l2), some (.int l3), none] [] (wv x I J) (rI x Q) := by
  refine wp_seg (C := gC170) (pc1 := 148) (Lo1 := [some (.ref 43), some (.int l1), some (.int l2), some (.int l3), none]) (st1' := [.int (I 43 11), .int l3]) (w1 := (wv x I J)) hC170 3 rfl ?_
  refine wj_ge (tgt := 222) rfl rfl (fun h => ?_) (fun h => ?_)
  · have k := k.1 h
    refine wp_seg (C := gC170) (pc1 := 158) (Lo1 := [some (.ref 43), some (.int l1), some (.int l2), some (.int l3), none]) (st1' := [.int ((I 43 10) + l3), .ref 43]) (w1 := (wv x I J)) hC170 5 rfl ?_
    refine cv_I (mj := 155) (a := 43) (as := [.int ((I 43 10) + l3)]) (r := []) rfl rfl rfl ⟨rfl, by decide, Nat.le_of_ble_eq_true rfl, Nat.le_of_ble_eq_true rfl⟩ rfl (wcI_mono k (fun r1 I1 J1 k => ?_))
    refine wp_seg (C := gC170) (pc1 := 180) (Lo1 := [some (.ref 43), some (.int l1), some (.int l2), some (.int l3), some (.int r1)]) (st1' := [.int r1, .int (((6 : Int32) + ((I1 43 11) * l1)) + l3), .ref 46]) (w1 := (wv x I1 J1)) hC170 12 rfl ?_
    refine wp_seg (C := gC170) (pc1 := 182) (Lo1 := [some (.ref 43), some (.int l1), some (.int l2), some (.int l3), some (.int r1)]) (st1' := [.int (120 : Int32), .int r1, .int (((6 : Int32) + ((I1 43 11) * l1)) + l3), .ref 46]) (w1 := (wv x I1 J1)) hC170 1 rfl ?_
    refine wj_ne (tgt := 189) rfl rfl (fun h => ?_) (fun h => ?_)
    · have k := k.1 h
      refine wp_seg (C := gC170) (pc1 := 194) (Lo1 := [some (.ref 43), some (.int l1), some (.int l2), some (.int l3), some (.int r1)]) (st1' := [.int (0 : Int32), .int (((6 : Int32) + ((I1 43 11) * l1)) + l3), .ref 46]) (w1 := (wv x I1 J1)) hC170 2 rfl ?_
      exact k
    · have k := k.2 h
      refine wp_seg (C := gC170) (pc1 := 194) (Lo1 := [some (.ref 43), some (.int l1), some (.int l2), some (.int l3), some (.int r1)]) (st1' := [.int (r1 - (96 : Int32)), .int (((6 : Int32) + ((I1 43 11) * l1)) + l3), .ref 46]) (w1 := (wv x I1 J1)) hC170 3 rfl ?_
      exact k
  · have k := k.2 h
    refine wp_seg (C := gC170) (pc1 := 228) (Lo1 := [some (.ref 43), some (.int l1), some (.int l2), some (.int l3), none]) (st1' := [.int (0 : Int32), .ref 46, .int (0 : Int32), .ref 46]) (w1 := (wv x I J)) hC170 4 rfl ?_
    refine wa_i (n := 590) rfl (by decide) rfl k.1 ?_
    have k := k.2
    refine wp_seg (C := gC170) (pc1 := 231) (Lo1 := [some (.ref 43), some (.int l1), some (.int l2), some (.int l3), none]) (st1' := [.int ((I 46 ((0 : Int32).toNatClampNeg)) + (1 : Int32)), .int (0 : Int32), .ref 46]) (w1 := (wv x I J)) hC170 2 rfl ?_
    refine ws_i (n := 590) rfl rfl k.1 ?_
    have k := k.2
    refine wp_seg (C := gC170) (pc1 := 233) (Lo1 := [some (.ref 43), some (.int l1), some (.int l2), some (.int l3), none]) (st1' := [.ref 43]) (w1 := (wv x (mSet I 46 ((0 : Int32).toNatClampNeg) ((I 46 ((0 : Int32).toNatClampNeg)) + (1 : Int32))) J)) hC170 1 rfl ?_
    refine cv_V (mj := 161) (a := 43) (as := []) (r := []) rfl rfl rfl ⟨rfl, by decide, Nat.le_of_ble_eq_true rfl, Nat.le_of_ble_eq_true rfl⟩ rfl (wcV_mono k (fun I2 J2 k => ?_))
    refine wp_seg (C := gC170) (pc1 := 237) (Lo1 := [some (.ref 43), some (.int l1), some (.int l2), some (.int l3), none]) (st1' := [.int (1 : Int32)]) (w1 := (wv x I2 J2)) hC170 1 rfl ?_
    exact we_z rfl rfl (Or.inr rfl) k
set_option maxRecDepth 20000 in
theorem v170_43_194 {S : Nat × (Nat → Int32)} {d : Nat} {x : mX} {I : rI0} {J : rJ0} {l1 : Int32} {l2 : Int32} {l3 : Int32} {l4 : Int32} {s1 : Int32} {s2 : Int32} {Q : Int32 → rI0 → rJ0 → Prop} (k : (¬ mOut s1 590 ∧ (¬ mOut (2 : Int32) 590 ∧ ((l4 = (120 : Int32) → (¬ mOut (2 : Int32) 590 ∧ wp S (d + 1) 170 143 [some (.ref 43), some (.int l1), some (.int l2), some (.int (l3 + (1 : Int32))), none] [] (wv x (mSet (mSet I 46 s1.toNatClampNeg s2) 46 ((2 : Int32).toNatClampNeg) (((mSet I 46 s1.toNatClampNeg s2) 46 ((2 : Int32).toNatClampNeg)) + (0 : Int32))) J) (rI x Q))) ∧ (¬ l4 = (120 : Int32) → (¬ mOut (2 : Int32) 590 ∧ wp S (d + 1) 170 143 [some (.ref 43), some (.int l1), some (.int l2), some (.int (l3 + (1 : Int32))), none] [] (wv x (mSet (mSet I 46 s1.toNatClampNeg s2) 46 ((2 : Int32).toNatClampNeg) (((mSet I 46 s1.toNatClampNeg s2) 46 ((2 : Int32).toNatClampNeg)) + (1 : Int32))) J) (rI x Q))))))) : wp S (d + 1) 170 194 [some (.ref 43), some (.int l1), some (.int l2), some (.int l3), some (.int l4)] [.int s2, .int s1, .ref 46] (wv x I J) (rI x Q) := by
  refine ws_i (n := 590) rfl rfl k.1 ?_
  have k := k.2
  refine wp_seg (C := gC170) (pc1 := 201) (Lo1 := [some (.ref 43), some (.int l1), some (.int l2), some (.int l3), some (.int l4)]) (st1' := [.int (2 : Int32), .ref 46, .int (2 : Int32), .ref 46]) (w1 := (wv x (mSet I 46 s1.toNatClampNeg s2) J)) hC170 4 rfl ?_
  refine wa_i (n := 590) rfl (by decide) rfl k.1 ?_
  have k := k.2
  refine wp_seg (C := gC170) (pc1 := 206) (Lo1 := [some (.ref 43), some (.int l1), some (.int l2), some (.int l3), some (.int l4)]) (st1' := [.int (120 : Int32), .int l4, .int ((mSet I 46 s1.toNatClampNeg s2) 46 ((2 : Int32).toNatClampNeg)), .int (2 : Int32), .ref 46]) (w1 := (wv x (mSet I 46 s1.toNatClampNeg s2) J)) hC170 2 rfl ?_
  refine wj_ne (tgt := 213) rfl rfl (fun h => ?_) (fun h => ?_)
  · have k := k.1 h
    refine wp_seg (C := gC170) (pc1 := 215) (Lo1 := [some (.ref 43), some (.int l1), some (.int l2), some (.int l3), some (.int l4)]) (st1' := [.int (((mSet I 46 s1.toNatClampNeg s2) 46 ((2 : Int32).toNatClampNeg)) + (0 : Int32)), .int (2 : Int32), .ref 46]) (w1 := (wv x (mSet I 46 s1.toNatClampNeg s2) J)) hC170 3 rfl ?_
    refine ws_i (n := 590) rfl rfl k.1 ?_
    have k := k.2
    refine wp_seg (C := gC170) (pc1 := 143) (Lo1 := [some (.ref 43), some (.int l1), some (.int l2), some (.int (l3 + (1 : Int32))), some (.int l4)]) (st1' := []) (w1 := (wv x (mSet (mSet I 46 s1.toNatClampNeg s2) 46 ((2 : Int32).toNatClampNeg) (((mSet I 46 s1.toNatClampNeg s2) 46 ((2 : Int32).toNatClampNeg)) + (0 : Int32))) J)) hC170 2 rfl ?_
    exact wp_sub (Lo := [some (.ref 43), some (.int l1), some (.int l2), some (.int (l3 + (1 : Int32))), none]) (And.intro rfl (And.intro rfl (And.intro rfl (And.intro rfl (trivial))))) k
  · have k := k.2 h
    refine wp_seg (C := gC170) (pc1 := 215) (Lo1 := [some (.ref 43), some (.int l1), some (.int l2), some (.int l3), some (.int l4)]) (st1' := [.int (((mSet I 46 s1.toNatClampNeg s2) 46 ((2 : Int32).toNatClampNeg)) + (1 : Int32)), .int (2 : Int32), .ref 46]) (w1 := (wv x (mSet I 46 s1.toNatClampNeg s2) J)) hC170 2 rfl ?_
    refine ws_i (n := 590) rfl rfl k.1 ?_
    have k := k.2
    refine wp_seg (C := gC170) (pc1 := 143) (Lo1 := [some (.ref 43), some (.int l1), some (.int l2), some (.int (l3 + (1 : Int32))), some (.int l4)]) (st1' := []) (w1 := (wv x (mSet (mSet I 46 s1.toNatClampNeg s2) 46 ((2 : Int32).toNatClampNeg) (((mSet I 46 s1.toNatClampNeg s2) 46 ((2 : Int32).toNatClampNeg)) + (1 : Int32))) J)) hC170 2 rfl ?_
    exact wp_sub (Lo := [some (.ref 43), some (.int l1), some (.int l2), some (.int (l3 + (1 : Int32))), none]) (And.intro rfl (And.intro rfl (And.intro rfl (And.intro rfl (trivial))))) k
set_option maxRecDepth 20000 in
theorem v171_43_0 {S : Nat × (Nat → Int32)} {d : Nat} {x : mX} {I : rI0} {J : rJ0} {p1 : Int32} {Q : Int32 → rI0 → rJ0 → Prop} (k : (wcV S d 161 [.ref 43] x I J (fun I1 J1 => (((I1 43 9) = (1 : Int32) → (((I1 43 11) = (1 : Int32) → (wcI S d 151 [.int ((J1 43 15).toInt32), .int (97 : Int32), .int (102 : Int32)] x I1 J1 (fun r2 I2 J2 => ((r2 = (0 : Int32) → (wcI S d 162 [.ref 43, .int (2 : Int32)] x I2 J2 (fun r3 I3 J3 => ((r3 = 0 ∨ r3 = 1) ∧ Q r3 I3 J3)))) ∧ (¬ r2 = (0 : Int32) → (¬ mOut ((86 : Int32) + ((42 : Int32) * (((2 : Int32) * (((J2 43 15).toInt32) - (97 : Int32))) + p1))) 590 ∧ (((0 : Int32) < (I2 46 (((86 : Int32) + ((42 : Int32) * (((2 : Int32) * (((J2 43 15).toInt32) - (97 : Int32))) + p1))).toNatClampNeg)) → (wcI S d 162 [.ref 43, .int (3 : Int32)] x I2 J2 (fun r4 I4 J4 => ((r4 = 0 ∨ r4 = 1) ∧ Q r4 I4 J4)))) ∧ (¬ (0 : Int32) < (I2 46 (((86 : Int32) + ((42 : Int32) * (((2 : Int32) * (((J2 43 15).toInt32) - (97 : Int32))) + p1))).toNatClampNeg)) → (wcV S d 161 [.ref 43] x I2 J2 (fun I5 J5 => (wcI S d 177 [.ref 43] x (mSet (mSet (mSet I5 43 26 (0 : Int32)) 43 27 (0 : Int32)) 43 28 (0 : Int32)) J5 (fun r6 I6 J6 => ((r6 = (0 : Int32) → Q (0 : Int32) I6 J6) ∧ (¬ r6 = (0 : Int32) → (¬ mOut ((86 : Int32) + ((42 : Int32) * (((2 : Int32) * (((J2 43 15).toInt32) - (97 : Int32))) + p1))) 590 ∧ (¬ mOut (((86 : Int32) + ((42 : Int32) * (((2 : Int32) * (((J2 43 15).toInt32) - (97 : Int32))) + p1))) + (1 : Int32)) 590 ∧ wp S (d + 1) 171 133 [some (.ref 43), some (.int p1), some (.int ((86 : Int32) + ((42 : Int32) * (((2 : Int32) * (((J2 43 15).toInt32) - (97 : Int32))) + p1)))), some (.int (0 : Int32))] [] (wv x (mSet (mSet I6 46 (((86 : Int32) + ((42 : Int32) * (((2 : Int32) * (((J2 43 15).toInt32) - (97 : Int32))) + p1))).toNatClampNeg) (I6 43 28)) 46 ((((86 : Int32) + ((42 : Int32) * (((2 : Int32) * (((J2 43 15).toInt32) - (97 : Int32))) + p1))) + (1 : Int32)).toNatClampNeg) (I6 43 26)) J6) (rI x Q))))))))))))))))) ∧ (¬ (I1 43 11) = (1 : Int32) → (wcI S d 162 [.ref 43, .int (2 : Int32)] x I1 J1 (fun r7 I7 J7 => ((r7 = 0 ∨ r7 = 1) ∧ Q r7 I7 J7)))))) ∧ (¬ (I1 43 9) = (1 : Int32) → (wcI S d 162 [.ref 43, .int (1 : Int32)] x I1 J1 (fun r8 I8 J8 => ((r8 = 0 ∨ r8 = 1) ∧ Q r8 I8 J8)))))))) : wp S (d + 1) 171 0 [some (.ref 43), some (.int p1), none, none] [] (wv x I J) (rI x Q) := by
  refine wp_seg (C := gC171) (pc1 := 1) (Lo1 := [some (.ref 43), some (.int p1), none, none]) (st1' := [.ref 43]) (w1 := (wv x I J)) hC171 1 rfl ?_
  refine cv_V (mj := 161) (a := 43) (as := []) (r := []) rfl rfl rfl ⟨rfl, by decide, Nat.le_of_ble_eq_true rfl, Nat.le_of_ble_eq_true rfl⟩ rfl (wcV_mono k (fun I1 J1 k => ?_))
  refine wp_seg (C := gC171) (pc1 := 9) (Lo1 := [some (.ref 43), some (.int p1), none, none]) (st1' := [.int (1 : Int32), .int (I1 43 9)]) (w1 := (wv x I1 J1)) hC171 3 rfl ?_
  refine wj_eq (tgt := 18) rfl rfl (fun h => ?_) (fun h => ?_)
  · have k := k.1 h
    refine wp_seg (C := gC171) (pc1 := 23) (Lo1 := [some (.ref 43), some (.int p1), none, none]) (st1' := [.int (1 : Int32), .int (I1 43 11)]) (w1 := (wv x I1 J1)) hC171 3 rfl ?_
    refine wj_ne (tgt := 41) rfl rfl (fun h => ?_) (fun h => ?_)
    · have k := k.1 h
      refine wp_seg (C := gC171) (pc1 := 35) (Lo1 := [some (.ref 43), some (.int p1), none, none]) (st1' := [.int (102 : Int32), .int (97 : Int32), .int ((J1 43 15).toInt32)]) (w1 := (wv x I1 J1)) hC171 5 rfl ?_
      refine cs_I (mj := 151) (nn := 0) (as := [.int ((J1 43 15).toInt32), .int (97 : Int32), .int (102 : Int32)]) (r := []) rfl rfl rfl ⟨rfl, by decide, Nat.le_of_ble_eq_true rfl, Nat.le_of_ble_eq_true rfl⟩ (by decide) (wcI_mono k (fun r2 I2 J2 k => ?_))
      refine wi_ne (tgt := 47) rfl rfl (fun h => ?_) (fun h => ?_)
      · have k := k.1 h
        refine wp_seg (C := gC171) (pc1 := 43) (Lo1 := [some (.ref 43), some (.int p1), none, none]) (st1' := [.int (2 : Int32), .ref 43]) (w1 := (wv x I2 J2)) hC171 2 rfl ?_
        refine cv_I (mj := 162) (a := 43) (as := [.int (2 : Int32)]) (r := []) rfl rfl rfl ⟨rfl, by decide, Nat.le_of_ble_eq_true rfl, Nat.le_of_ble_eq_true rfl⟩ rfl (wcI_mono k (fun r3 I3 J3 k => ?_))
        exact we_z rfl rfl k.1 k.2
      · have k := k.2 h
        refine wp_seg (C := gC171) (pc1 := 64) (Lo1 := [some (.ref 43), some (.int p1), none, none]) (st1' := [.int ((42 : Int32) * (((2 : Int32) * (((J2 43 15).toInt32) - (97 : Int32))) + p1)), .int (86 : Int32)]) (w1 := (wv x I2 J2)) hC171 12 rfl ?_
        refine wp_seg (C := gC171) (pc1 := 71) (Lo1 := [some (.ref 43), some (.int p1), some (.int ((86 : Int32) + ((42 : Int32) * (((2 : Int32) * (((J2 43 15).toInt32) - (97 : Int32))) + p1)))), none]) (st1' := [.int ((86 : Int32) + ((42 : Int32) * (((2 : Int32) * (((J2 43 15).toInt32) - (97 : Int32))) + p1))), .ref 46]) (w1 := (wv x I2 J2)) hC171 5 rfl ?_
        refine wa_i (n := 590) rfl (by decide) rfl k.1 ?_
        have k := k.2
        refine wi_le (tgt := 81) rfl rfl (fun h => ?_) (fun h => ?_)
        · have k := k.1 h
          refine wp_seg (C := gC171) (pc1 := 77) (Lo1 := [some (.ref 43), some (.int p1), some (.int ((86 : Int32) + ((42 : Int32) * (((2 : Int32) * (((J2 43 15).toInt32) - (97 : Int32))) + p1)))), none]) (st1' := [.int (3 : Int32), .ref 43]) (w1 := (wv x I2 J2)) hC171 2 rfl ?_
          refine cv_I (mj := 162) (a := 43) (as := [.int (3 : Int32)]) (r := []) rfl rfl rfl ⟨rfl, by decide, Nat.le_of_ble_eq_true rfl, Nat.le_of_ble_eq_true rfl⟩ rfl (wcI_mono k (fun r4 I4 J4 k => ?_))
          exact we_z rfl rfl k.1 k.2
        · have k := k.2 h
          refine wp_seg (C := gC171) (pc1 := 82) (Lo1 := [some (.ref 43), some (.int p1), some (.int ((86 : Int32) + ((42 : Int32) * (((2 : Int32) * (((J2 43 15).toInt32) - (97 : Int32))) + p1)))), none]) (st1' := [.ref 43]) (w1 := (wv x I2 J2)) hC171 1 rfl ?_
          refine cv_V (mj := 161) (a := 43) (as := []) (r := []) rfl rfl rfl ⟨rfl, by decide, Nat.le_of_ble_eq_true rfl, Nat.le_of_ble_eq_true rfl⟩ rfl (wcV_mono k (fun I5 J5 k => ?_))
          refine wp_seg (C := gC171) (pc1 := 101) (Lo1 := [some (.ref 43), some (.int p1), some (.int ((86 : Int32) + ((42 : Int32) * (((2 : Int32) * (((J2 43 15).toInt32) - (97 : Int32))) + p1)))), none]) (st1' := [.ref 43]) (w1 := (wv x (mSet (mSet (mSet I5 43 26 (0 : Int32)) 43 27 (0 : Int32)) 43 28 (0 : Int32)) J5)) hC171 10 rfl ?_
          refine cv_I (mj := 177) (a := 43) (as := []) (r := []) rfl rfl rfl ⟨rfl, by decide, Nat.le_of_ble_eq_true rfl, Nat.le_of_ble_eq_true rfl⟩ rfl (wcI_mono k (fun r6 I6 J6 k => ?_))
          refine wi_ne (tgt := 109) rfl rfl (fun h => ?_) (fun h => ?_)
          · have k := k.1 h
            refine wp_seg (C := gC171) (pc1 := 108) (Lo1 := [some (.ref 43), some (.int p1), some (.int ((86 : Int32) + ((42 : Int32) * (((2 : Int32) * (((J2 43 15).toInt32) - (97 : Int32))) + p1)))), none]) (st1' := [.int (0 : Int32)]) (w1 := (wv x I6 J6)) hC171 1 rfl ?_
            exact we_z rfl rfl (Or.inl rfl) k
          · have k := k.2 h
            refine wp_seg (C := gC171) (pc1 := 118) (Lo1 := [some (.ref 43), some (.int p1), some (.int ((86 : Int32) + ((42 : Int32) * (((2 : Int32) * (((J2 43 15).toInt32) - (97 : Int32))) + p1)))), none]) (st1' := [.int (I6 43 28), .int ((86 : Int32) + ((42 : Int32) * (((2 : Int32) * (((J2 43 15).toInt32) - (97 : Int32))) + p1))), .ref 46]) (w1 := (wv x I6 J6)) hC171 5 rfl ?_
            refine ws_i (n := 590) rfl rfl k.1 ?_
            have k := k.2
            refine wp_seg (C := gC171) (pc1 := 130) (Lo1 := [some (.ref 43), some (.int p1), some (.int ((86 : Int32) + ((42 : Int32) * (((2 : Int32) * (((J2 43 15).toInt32) - (97 : Int32))) + p1)))), none]) (st1' := [.int (I6 43 26), .int (((86 : Int32) + ((42 : Int32) * (((2 : Int32) * (((J2 43 15).toInt32) - (97 : Int32))) + p1))) + (1 : Int32)), .ref 46]) (w1 := (wv x (mSet I6 46 (((86 : Int32) + ((42 : Int32) * (((2 : Int32) * (((J2 43 15).toInt32) - (97 : Int32))) + p1))).toNatClampNeg) (I6 43 28)) J6)) hC171 7 rfl ?_
            refine ws_i (n := 590) rfl rfl k.1 ?_
            have k := k.2
            refine wp_seg (C := gC171) (pc1 := 133) (Lo1 := [some (.ref 43), some (.int p1), some (.int ((86 : Int32) + ((42 : Int32) * (((2 : Int32) * (((J2 43 15).toInt32) - (97 : Int32))) + p1)))), some (.int (0 : Int32))]) (st1' := []) (w1 := (wv x (mSet (mSet I6 46 (((86 : Int32) + ((42 : Int32) * (((2 : Int32) * (((J2 43 15).toInt32) - (97 : Int32))) + p1))).toNatClampNeg) (I6 43 28)) 46 ((((86 : Int32) + ((42 : Int32) * (((2 : Int32) * (((J2 43 15).toInt32) - (97 : Int32))) + p1))) + (1 : Int32)).toNatClampNeg) (I6 43 26)) J6)) hC171 2 rfl ?_
            exact k
    · have k := k.2 h
      refine wp_seg (C := gC171) (pc1 := 43) (Lo1 := [some (.ref 43), some (.int p1), none, none]) (st1' := [.int (2 : Int32), .ref 43]) (w1 := (wv x I1 J1)) hC171 2 rfl ?_
      refine cv_I (mj := 162) (a := 43) (as := [.int (2 : Int32)]) (r := []) rfl rfl rfl ⟨rfl, by decide, Nat.le_of_ble_eq_true rfl, Nat.le_of_ble_eq_true rfl⟩ rfl (wcI_mono k (fun r7 I7 J7 k => ?_))
      exact we_z rfl rfl k.1 k.2
  · have k := k.2 h
    refine wp_seg (C := gC171) (pc1 := 14) (Lo1 := [some (.ref 43), some (.int p1), none, none]) (st1' := [.int (1 : Int32), .ref 43]) (w1 := (wv x I1 J1)) hC171 2 rfl ?_
    refine cv_I (mj := 162) (a := 43) (as := [.int (1 : Int32)]) (r := []) rfl rfl rfl ⟨rfl, by decide, Nat.le_of_ble_eq_true rfl, Nat.le_of_ble_eq_true rfl⟩ rfl (wcI_mono k (fun r8 I8 J8 k => ?_))
    exact we_z rfl rfl k.1 k.2
set_option maxRecDepth 20000 in
theorem v171_43_133 {S : Nat × (Nat → Int32)} {d : Nat} {x : mX} {I : rI0} {J : rJ0} {l1 : Int32} {l2 : Int32} {l3 : Int32} {Q : Int32 → rI0 → rJ0 → Prop} (k : ((l3 < (I 43 26) → (¬ mOut l3 64 ∧ (¬ mOut ((l2 + (2 : Int32)) + l3) 590 ∧ wp S (d + 1) 171 133 [some (.ref 43), some (.int l1), some (.int l2), some (.int (l3 + (1 : Int32)))] [] (wv x (mSet I 46 (((l2 + (2 : Int32)) + l3).toNatClampNeg) (I 48 l3.toNatClampNeg)) J) (rI x Q)))) ∧ (¬ l3 < (I 43 26) → Q (1 : Int32) I J))) : wp S (d + 1) 171 133 [some (.ref 43), some (.int l1), some (.int l2), some (.int l3)] [] (wv x I J) (rI x Q) := by
  refine wp_seg (C := gC171) (pc1 := 138) (Lo1 := [some (.ref 43), some (.int l1), some (.int l2), some (.int l3)]) (st1' := [.int (I 43 26), .int l3]) (w1 := (wv x I J)) hC171 3 rfl ?_
  refine wj_ge (tgt := 163) rfl rfl (fun h => ?_) (fun h => ?_)
  · have k := k.1 h
    refine wp_seg (C := gC171) (pc1 := 155) (Lo1 := [some (.ref 43), some (.int l1), some (.int l2), some (.int l3)]) (st1' := [.int l3, .ref 48, .int ((l2 + (2 : Int32)) + l3), .ref 46]) (w1 := (wv x I J)) hC171 10 rfl ?_
    refine wa_i (n := 64) rfl (by decide) rfl k.1 ?_
    have k := k.2
    refine ws_i (n := 590) rfl rfl k.1 ?_
    have k := k.2
    refine wp_seg (C := gC171) (pc1 := 133) (Lo1 := [some (.ref 43), some (.int l1), some (.int l2), some (.int (l3 + (1 : Int32)))]) (st1' := []) (w1 := (wv x (mSet I 46 (((l2 + (2 : Int32)) + l3).toNatClampNeg) (I 48 l3.toNatClampNeg)) J)) hC171 2 rfl ?_
    exact k
  · have k := k.2 h
    refine wp_seg (C := gC171) (pc1 := 164) (Lo1 := [some (.ref 43), some (.int l1), some (.int l2), some (.int l3)]) (st1' := [.int (1 : Int32)]) (w1 := (wv x I J)) hC171 1 rfl ?_
    exact we_z rfl rfl (Or.inr rfl) k
set_option maxRecDepth 20000 in
theorem v172_43_0 {S : Nat × (Nat → Int32)} {d : Nat} {x : mX} {I : rI0} {J : rJ0} {p1 : Int32} {Q : rI0 → rJ0 → Prop} (k : (¬ mOut (I 43 26) 64 ∧ Q (mSet (mSet I 48 ((I 43 26).toNatClampNeg) p1) 43 26 ((I 43 26) + (1 : Int32))) J)) : wp S d 172 0 [some (.ref 43), some (.int p1)] [] (wv x I J) (rV x Q) := by
  refine wp_seg (C := gC172) (pc1 := 9) (Lo1 := [some (.ref 43), some (.int p1)]) (st1' := [.int p1, .int (I 43 26), .ref 48]) (w1 := (wv x I J)) hC172 5 rfl ?_
  refine ws_i (n := 64) rfl rfl k.1 ?_
  have k := k.2
  refine wp_seg (C := gC172) (pc1 := 20) (Lo1 := [some (.ref 43), some (.int p1)]) (st1' := []) (w1 := (wv x (mSet (mSet I 48 ((I 43 26).toNatClampNeg) p1) 43 26 ((I 43 26) + (1 : Int32))) J)) hC172 6 rfl ?_
  exact we_v rfl rfl k
set_option maxRecDepth 20000 in
theorem v173_43_0 {S : Nat × (Nat → Int32)} {d : Nat} {x : mX} {I : rI0} {J : rJ0} {l1 : Int32} {Q : rI0 → rJ0 → Prop} (k : (((0 : Int32) < (I 43 27) → (¬ mOut ((I 43 27) - (1 : Int32)) 30 ∧ (((I 49 (((I 43 27) - (1 : Int32)).toNatClampNeg)) = (6 : Int32) → Q I J) ∧ (¬ (I 49 (((I 43 27) - (1 : Int32)).toNatClampNeg)) = (6 : Int32) → (¬ mOut ((I 43 27) - (1 : Int32)) 30 ∧ (wcI S d 174 [.int (I 49 (((I 43 27) - (1 : Int32)).toNatClampNeg))] x I J (fun r1 I1 J1 => ((r1 < l1 → Q I1 J1) ∧ (¬ r1 < l1 → (¬ mOut ((I1 43 27) - (1 : Int32)) 30 ∧ (wcV S d 172 [.ref 43, .int (I1 49 (((I1 43 27) - (1 : Int32)).toNatClampNeg))] x (mSet I1 43 27 ((I1 43 27) - (1 : Int32))) J1 (fun I2 J2 => wp S (d + 1) 173 0 [some (.ref 43), some (.int l1)] [] (wv x I2 J2) (rV x Q))))))))))))) ∧ (¬ (0 : Int32) < (I 43 27) → Q I J))) : wp S (d + 1) 173 0 [some (.ref 43), some (.int l1)] [] (wv x I J) (rV x Q) := by
  refine wp_seg (C := gC173) (pc1 := 4) (Lo1 := [some (.ref 43), some (.int l1)]) (st1' := [.int (I 43 27)]) (w1 := (wv x I J)) hC173 2 rfl ?_
  refine wi_le (tgt := 67) rfl rfl (fun h => ?_) (fun h => ?_)
  · have k := k.1 h
    refine wp_seg (C := gC173) (pc1 := 17) (Lo1 := [some (.ref 43), some (.int l1)]) (st1' := [.int ((I 43 27) - (1 : Int32)), .ref 49]) (w1 := (wv x I J)) hC173 6 rfl ?_
    refine wa_i (n := 30) rfl (by decide) rfl k.1 ?_
    have k := k.2
    refine wp_seg (C := gC173) (pc1 := 20) (Lo1 := [some (.ref 43), some (.int l1)]) (st1' := [.int (6 : Int32), .int (I 49 (((I 43 27) - (1 : Int32)).toNatClampNeg))]) (w1 := (wv x I J)) hC173 1 rfl ?_
    refine wj_eq (tgt := 67) rfl rfl (fun h => ?_) (fun h => ?_)
    · have k := k.1 h
      exact we_v rfl rfl k
    · have k := k.2 h
      refine wp_seg (C := gC173) (pc1 := 33) (Lo1 := [some (.ref 43), some (.int l1)]) (st1' := [.int ((I 43 27) - (1 : Int32)), .ref 49]) (w1 := (wv x I J)) hC173 6 rfl ?_
      refine wa_i (n := 30) rfl (by decide) rfl k.1 ?_
      have k := k.2
      refine cs_I (mj := 174) (nn := 0) (as := [.int (I 49 (((I 43 27) - (1 : Int32)).toNatClampNeg))]) (r := []) rfl rfl rfl ⟨rfl, by decide, Nat.le_of_ble_eq_true rfl, Nat.le_of_ble_eq_true rfl⟩ (by decide) (wcI_mono k (fun r1 I1 J1 k => ?_))
      refine wp_seg (C := gC173) (pc1 := 38) (Lo1 := [some (.ref 43), some (.int l1)]) (st1' := [.int l1, .int r1]) (w1 := (wv x I1 J1)) hC173 1 rfl ?_
      refine wj_lt (tgt := 67) rfl rfl (fun h => ?_) (fun h => ?_)
      · have k := k.1 h
        exact we_v rfl rfl k
      · have k := k.2 h
        refine wp_seg (C := gC173) (pc1 := 60) (Lo1 := [some (.ref 43), some (.int l1)]) (st1' := [.int ((I1 43 27) - (1 : Int32)), .ref 49, .ref 43]) (w1 := (wv x (mSet I1 43 27 ((I1 43 27) - (1 : Int32))) J1)) hC173 11 rfl ?_
        refine wa_i (n := 30) rfl (by decide) rfl k.1 ?_
        have k := k.2
        refine cv_V (mj := 172) (a := 43) (as := [.int (I1 49 (((I1 43 27) - (1 : Int32)).toNatClampNeg))]) (r := []) rfl rfl rfl ⟨rfl, by decide, Nat.le_of_ble_eq_true rfl, Nat.le_of_ble_eq_true rfl⟩ rfl (wcV_mono k (fun I2 J2 k => ?_))
        refine wp_seg (C := gC173) (pc1 := 0) (Lo1 := [some (.ref 43), some (.int l1)]) (st1' := []) (w1 := (wv x I2 J2)) hC173 1 rfl ?_
        exact k
  · have k := k.2 h
    exact we_v rfl rfl k
set_option maxRecDepth 20000 in
theorem v175_43_0 {S : Nat × (Nat → Int32)} {d : Nat} {x : mX} {I : rI0} {J : rJ0} {Q : Int32 → rI0 → rJ0 → Prop} (k : wp S d 175 4 [some (.ref 43), some (.int (0 : Int32)), some (.int (0 : Int32))] [] (wv x I J) (rI x Q)) : wp S d 175 0 [some (.ref 43), none, none] [] (wv x I J) (rI x Q) := by
  refine wp_seg (C := gC175) (pc1 := 4) (Lo1 := [some (.ref 43), some (.int (0 : Int32)), some (.int (0 : Int32))]) (st1' := []) (w1 := (wv x I J)) hC175 4 rfl ?_
  exact k
set_option maxRecDepth 20000 in
theorem v175_43_4 {S : Nat × (Nat → Int32)} {d : Nat} {x : mX} {I : rI0} {J : rJ0} {l1 : Int32} {l2 : Int32} {Q : Int32 → rI0 → rJ0 → Prop} (k : ((l2 < (I 43 27) → (¬ mOut l2 30 ∧ (((I 49 l2.toNatClampNeg) = (3 : Int32) → wp S d 175 4 [some (.ref 43), some (.int (l1 + (1 : Int32))), some (.int (l2 + (1 : Int32)))] [] (wv x I J) (rI x Q)) ∧ (¬ (I 49 l2.toNatClampNeg) = (3 : Int32) → (¬ mOut l2 30 ∧ (((I 49 l2.toNatClampNeg) = (6 : Int32) → wp S d 175 4 [some (.ref 43), some (.int (l1 + (1 : Int32))), some (.int (l2 + (1 : Int32)))] [] (wv x I J) (rI x Q)) ∧ (¬ (I 49 l2.toNatClampNeg) = (6 : Int32) → wp S d 175 4 [some (.ref 43), some (.int (l1 + (0 : Int32))), some (.int (l2 + (1 : Int32)))] [] (wv x I J) (rI x Q)))))))) ∧ (¬ l2 < (I 43 27) → Q l1 I J))) : wp S d 175 4 [some (.ref 43), some (.int l1), some (.int l2)] [] (wv x I J) (rI x Q) := by
  refine wp_seg (C := gC175) (pc1 := 9) (Lo1 := [some (.ref 43), some (.int l1), some (.int l2)]) (st1' := [.int (I 43 27), .int l2]) (w1 := (wv x I J)) hC175 3 rfl ?_
  refine wj_ge (tgt := 47) rfl rfl (fun h => ?_) (fun h => ?_)
  · have k := k.1 h
    refine wp_seg (C := gC175) (pc1 := 18) (Lo1 := [some (.ref 43), some (.int l1), some (.int l2)]) (st1' := [.int l2, .ref 49, .int l1]) (w1 := (wv x I J)) hC175 4 rfl ?_
    refine wa_i (n := 30) rfl (by decide) rfl k.1 ?_
    have k := k.2
    refine wp_seg (C := gC175) (pc1 := 20) (Lo1 := [some (.ref 43), some (.int l1), some (.int l2)]) (st1' := [.int (3 : Int32), .int (I 49 l2.toNatClampNeg), .int l1]) (w1 := (wv x I J)) hC175 1 rfl ?_
    refine wj_eq (tgt := 34) rfl rfl (fun h => ?_) (fun h => ?_)
    · have k := k.1 h
      refine wp_seg (C := gC175) (pc1 := 44) (Lo1 := [some (.ref 43), some (.int (l1 + (1 : Int32))), some (.int (l2 + (1 : Int32)))]) (st1' := []) (w1 := (wv x I J)) hC175 5 rfl ?_
      refine wp_seg (C := gC175) (pc1 := 4) (Lo1 := [some (.ref 43), some (.int (l1 + (1 : Int32))), some (.int (l2 + (1 : Int32)))]) (st1' := []) (w1 := (wv x I J)) hC175 1 rfl ?_
      exact k
    · have k := k.2 h
      refine wp_seg (C := gC175) (pc1 := 28) (Lo1 := [some (.ref 43), some (.int l1), some (.int l2)]) (st1' := [.int l2, .ref 49, .int l1]) (w1 := (wv x I J)) hC175 3 rfl ?_
      refine wa_i (n := 30) rfl (by decide) rfl k.1 ?_
      have k := k.2
      refine wp_seg (C := gC175) (pc1 := 31) (Lo1 := [some (.ref 43), some (.int l1), some (.int l2)]) (st1' := [.int (6 : Int32), .int (I 49 l2.toNatClampNeg), .int l1]) (w1 := (wv x I J)) hC175 1 rfl ?_
      refine wj_ne (tgt := 38) rfl rfl (fun h => ?_) (fun h => ?_)
      · have k := k.1 h
        refine wp_seg (C := gC175) (pc1 := 44) (Lo1 := [some (.ref 43), some (.int (l1 + (1 : Int32))), some (.int (l2 + (1 : Int32)))]) (st1' := []) (w1 := (wv x I J)) hC175 5 rfl ?_
        refine wp_seg (C := gC175) (pc1 := 4) (Lo1 := [some (.ref 43), some (.int (l1 + (1 : Int32))), some (.int (l2 + (1 : Int32)))]) (st1' := []) (w1 := (wv x I J)) hC175 1 rfl ?_
        exact k
      · have k := k.2 h
        refine wp_seg (C := gC175) (pc1 := 44) (Lo1 := [some (.ref 43), some (.int (l1 + (0 : Int32))), some (.int (l2 + (1 : Int32)))]) (st1' := []) (w1 := (wv x I J)) hC175 4 rfl ?_
        refine wp_seg (C := gC175) (pc1 := 4) (Lo1 := [some (.ref 43), some (.int (l1 + (0 : Int32))), some (.int (l2 + (1 : Int32)))]) (st1' := []) (w1 := (wv x I J)) hC175 1 rfl ?_
        exact k
  · have k := k.2 h
    refine wp_seg (C := gC175) (pc1 := 48) (Lo1 := [some (.ref 43), some (.int l1), some (.int l2)]) (st1' := [.int l1]) (w1 := (wv x I J)) hC175 1 rfl ?_
    exact we_i rfl rfl k
set_option maxRecDepth 20000 in
theorem v176_43_0 {S : Nat × (Nat → Int32)} {d : Nat} {x : mX} {I : rI0} {J : rJ0} {Q : Int32 → rI0 → rJ0 → Prop} (k : wp S d 176 2 [some (.ref 43), some (.int (0 : Int32))] [] (wv x I J) (rI x Q)) : wp S d 176 0 [some (.ref 43), none] [] (wv x I J) (rI x Q) := by
  refine wp_seg (C := gC176) (pc1 := 2) (Lo1 := [some (.ref 43), some (.int (0 : Int32))]) (st1' := []) (w1 := (wv x I J)) hC176 2 rfl ?_
  exact k
set_option maxRecDepth 20000 in
theorem v176_43_2 {S : Nat × (Nat → Int32)} {d : Nat} {x : mX} {I : rI0} {J : rJ0} {l1 : Int32} {Q : Int32 → rI0 → rJ0 → Prop} (k : ((l1 < (I 43 27) → (¬ mOut l1 30 ∧ (((I 49 l1.toNatClampNeg) = (6 : Int32) → Q (1 : Int32) I J) ∧ (¬ (I 49 l1.toNatClampNeg) = (6 : Int32) → wp S d 176 2 [some (.ref 43), some (.int (l1 + (1 : Int32)))] [] (wv x I J) (rI x Q))))) ∧ (¬ l1 < (I 43 27) → Q (0 : Int32) I J))) : wp S d 176 2 [some (.ref 43), some (.int l1)] [] (wv x I J) (rI x Q) := by
  refine wp_seg (C := gC176) (pc1 := 7) (Lo1 := [some (.ref 43), some (.int l1)]) (st1' := [.int (I 43 27), .int l1]) (w1 := (wv x I J)) hC176 3 rfl ?_
  refine wj_ge (tgt := 29) rfl rfl (fun h => ?_) (fun h => ?_)
  · have k := k.1 h
    refine wp_seg (C := gC176) (pc1 := 15) (Lo1 := [some (.ref 43), some (.int l1)]) (st1' := [.int l1, .ref 49]) (w1 := (wv x I J)) hC176 3 rfl ?_
    refine wa_i (n := 30) rfl (by decide) rfl k.1 ?_
    have k := k.2
    refine wp_seg (C := gC176) (pc1 := 18) (Lo1 := [some (.ref 43), some (.int l1)]) (st1' := [.int (6 : Int32), .int (I 49 l1.toNatClampNeg)]) (w1 := (wv x I J)) hC176 1 rfl ?_
    refine wj_ne (tgt := 23) rfl rfl (fun h => ?_) (fun h => ?_)
    · have k := k.1 h
      refine wp_seg (C := gC176) (pc1 := 22) (Lo1 := [some (.ref 43), some (.int l1)]) (st1' := [.int (1 : Int32)]) (w1 := (wv x I J)) hC176 1 rfl ?_
      exact we_z rfl rfl (Or.inr rfl) k
    · have k := k.2 h
      refine wp_seg (C := gC176) (pc1 := 2) (Lo1 := [some (.ref 43), some (.int (l1 + (1 : Int32)))]) (st1' := []) (w1 := (wv x I J)) hC176 2 rfl ?_
      exact k
  · have k := k.2 h
    refine wp_seg (C := gC176) (pc1 := 30) (Lo1 := [some (.ref 43), some (.int l1)]) (st1' := [.int (0 : Int32)]) (w1 := (wv x I J)) hC176 1 rfl ?_
    exact we_z rfl rfl (Or.inl rfl) k
set_option maxRecDepth 20000 in
theorem v177_43_0 {S : Nat × (Nat → Int32)} {d : Nat} {x : mX} {I : rI0} {J : rJ0} {Q : Int32 → rI0 → rJ0 → Prop} (k : (wcI S d 179 [.ref 43] x I J (fun r1 I1 J1 => ((r1 = (0 : Int32) → Q (0 : Int32) I1 J1) ∧ (¬ r1 = (0 : Int32) → wp S (d + 1) 177 9 [some (.ref 43), none] [] (wv x I1 J1) (rI x Q)))))) : wp S (d + 1) 177 0 [some (.ref 43), none] [] (wv x I J) (rI x Q) := by
  refine wp_seg (C := gC177) (pc1 := 1) (Lo1 := [some (.ref 43), none]) (st1' := [.ref 43]) (w1 := (wv x I J)) hC177 1 rfl ?_
  refine cv_I (mj := 179) (a := 43) (as := []) (r := []) rfl rfl rfl ⟨rfl, by decide, Nat.le_of_ble_eq_true rfl, Nat.le_of_ble_eq_true rfl⟩ rfl (wcI_mono k (fun r1 I1 J1 k => ?_))
  refine wi_ne (tgt := 9) rfl rfl (fun h => ?_) (fun h => ?_)
  · have k := k.1 h
    refine wp_seg (C := gC177) (pc1 := 8) (Lo1 := [some (.ref 43), none]) (st1' := [.int (0 : Int32)]) (w1 := (wv x I1 J1)) hC177 1 rfl ?_
    exact we_z rfl rfl (Or.inl rfl) k
  · have k := k.2 h
    exact k
set_option maxRecDepth 20000 in
theorem v177_43_9 {S : Nat × (Nat → Int32)} {d : Nat} {x : mX} {I : rI0} {J : rJ0} {Q : Int32 → rI0 → rJ0 → Prop} (k : (wcI S d 164 [.ref 43, .int (41 : Int32)] x I J (fun r1 I1 J1 => ((r1 = (0 : Int32) → wp S (d + 1) 177 52 [some (.ref 43), none] [] (wv x I1 J1) (rI x Q)) ∧ (¬ r1 = (0 : Int32) → (wcI S d 176 [.ref 43] x I1 J1 (fun r2 I2 J2 => ((r2 = (0 : Int32) → wp S (d + 1) 177 52 [some (.ref 43), none] [] (wv x I2 J2) (rI x Q)) ∧ (¬ r2 = (0 : Int32) → (wcV S d 173 [.ref 43, .int (1 : Int32)] x I2 J2 (fun I3 J3 => (wcV S d 173 [.ref 43, .int (3 : Int32)] x (mSet I3 43 27 ((I3 43 27) - (1 : Int32))) J3 (fun I4 J4 => (wcV S d 161 [.ref 43] x I4 J4 (fun I5 J5 => wp S (d + 1) 177 9 [some (.ref 43), none] [] (wv x I5 J5) (rI x Q)))))))))))))))) : wp S (d + 1) 177 9 [some (.ref 43), none] [] (wv x I J) (rI x Q) := by
  refine wp_seg (C := gC177) (pc1 := 12) (Lo1 := [some (.ref 43), none]) (st1' := [.int (41 : Int32), .ref 43]) (w1 := (wv x I J)) hC177 2 rfl ?_
  refine cv_I (mj := 164) (a := 43) (as := [.int (41 : Int32)]) (r := []) rfl rfl rfl ⟨rfl, by decide, Nat.le_of_ble_eq_true rfl, Nat.le_of_ble_eq_true rfl⟩ rfl (wcI_mono k (fun r1 I1 J1 k => ?_))
  refine wi_eq (tgt := 52) rfl rfl (fun h => ?_) (fun h => ?_)
  · have k := k.1 h
    exact k
  · have k := k.2 h
    refine wp_seg (C := gC177) (pc1 := 19) (Lo1 := [some (.ref 43), none]) (st1' := [.ref 43]) (w1 := (wv x I1 J1)) hC177 1 rfl ?_
    refine cv_I (mj := 176) (a := 43) (as := []) (r := []) rfl rfl rfl ⟨rfl, by decide, Nat.le_of_ble_eq_true rfl, Nat.le_of_ble_eq_true rfl⟩ rfl (wcI_mono k (fun r2 I2 J2 k => ?_))
    refine wi_eq (tgt := 52) rfl rfl (fun h => ?_) (fun h => ?_)
    · have k := k.1 h
      exact k
    · have k := k.2 h
      refine wp_seg (C := gC177) (pc1 := 27) (Lo1 := [some (.ref 43), none]) (st1' := [.int (1 : Int32), .ref 43]) (w1 := (wv x I2 J2)) hC177 2 rfl ?_
      refine cv_V (mj := 173) (a := 43) (as := [.int (1 : Int32)]) (r := []) rfl rfl rfl ⟨rfl, by decide, Nat.le_of_ble_eq_true rfl, Nat.le_of_ble_eq_true rfl⟩ rfl (wcV_mono k (fun I3 J3 k => ?_))
      refine wp_seg (C := gC177) (pc1 := 42) (Lo1 := [some (.ref 43), none]) (st1' := [.int (3 : Int32), .ref 43]) (w1 := (wv x (mSet I3 43 27 ((I3 43 27) - (1 : Int32))) J3)) hC177 8 rfl ?_
      refine cv_V (mj := 173) (a := 43) (as := [.int (3 : Int32)]) (r := []) rfl rfl rfl ⟨rfl, by decide, Nat.le_of_ble_eq_true rfl, Nat.le_of_ble_eq_true rfl⟩ rfl (wcV_mono k (fun I4 J4 k => ?_))
      refine wp_seg (C := gC177) (pc1 := 46) (Lo1 := [some (.ref 43), none]) (st1' := [.ref 43]) (w1 := (wv x I4 J4)) hC177 1 rfl ?_
      refine cv_V (mj := 161) (a := 43) (as := []) (r := []) rfl rfl rfl ⟨rfl, by decide, Nat.le_of_ble_eq_true rfl, Nat.le_of_ble_eq_true rfl⟩ rfl (wcV_mono k (fun I5 J5 k => ?_))
      refine wp_seg (C := gC177) (pc1 := 9) (Lo1 := [some (.ref 43), none]) (st1' := []) (w1 := (wv x I5 J5)) hC177 1 rfl ?_
      exact k
set_option maxRecDepth 20000 in
theorem v177_43_52 {S : Nat × (Nat → Int32)} {d : Nat} {x : mX} {I : rI0} {J : rJ0} {Q : Int32 → rI0 → rJ0 → Prop} (k : (wcI S d 163 [.ref 43, .long (6385252 : Int64)] x I J (fun r1 I1 J1 => ((r1 = (0 : Int32) → (wcI S d 163 [.ref 43, .long (28530 : Int64)] x I1 J1 (fun r2 I2 J2 => ((r2 = (0 : Int32) → (wcI S d 176 [.ref 43] x I2 J2 (fun r3 I3 J3 => ((r3 = (0 : Int32) → (wcV S d 173 [.ref 43, .int (1 : Int32)] x I3 J3 (fun I4 J4 => Q (1 : Int32) I4 J4))) ∧ (¬ r3 = (0 : Int32) → (wcI S d 162 [.ref 43, .int (1 : Int32)] x I3 J3 (fun r5 I5 J5 => ((r5 = 0 ∨ r5 = 1) ∧ Q r5 I5 J5)))))))) ∧ (¬ r2 = (0 : Int32) → ((r1 = (0 : Int32) → wp S (d + 1) 177 104 [some (.ref 43), some (.int r1)] [.int (1 : Int32), .ref 43] (wv x I2 J2) (rI x Q)) ∧ (¬ r1 = (0 : Int32) → wp S (d + 1) 177 104 [some (.ref 43), some (.int r1)] [.int (2 : Int32), .ref 43] (wv x I2 J2) (rI x Q)))))))) ∧ (¬ r1 = (0 : Int32) → ((r1 = (0 : Int32) → wp S (d + 1) 177 104 [some (.ref 43), some (.int r1)] [.int (1 : Int32), .ref 43] (wv x I1 J1) (rI x Q)) ∧ (¬ r1 = (0 : Int32) → wp S (d + 1) 177 104 [some (.ref 43), some (.int r1)] [.int (2 : Int32), .ref 43] (wv x I1 J1) (rI x Q)))))))) : wp S (d + 1) 177 52 [some (.ref 43), none] [] (wv x I J) (rI x Q) := by
  refine wp_seg (C := gC177) (pc1 := 56) (Lo1 := [some (.ref 43), none]) (st1' := [.long (6385252 : Int64), .ref 43]) (w1 := (wv x I J)) hC177 2 rfl ?_
  refine cv_I (mj := 163) (a := 43) (as := [.long (6385252 : Int64)]) (r := []) rfl rfl rfl ⟨rfl, by decide, Nat.le_of_ble_eq_true rfl, Nat.le_of_ble_eq_true rfl⟩ rfl (wcI_mono k (fun r1 I1 J1 k => ?_))
  refine wp_seg (C := gC177) (pc1 := 61) (Lo1 := [some (.ref 43), some (.int r1)]) (st1' := [.int r1]) (w1 := (wv x I1 J1)) hC177 2 rfl ?_
  refine wi_ne (tgt := 94) rfl rfl (fun h => ?_) (fun h => ?_)
  · have k := k.1 h
    refine wp_seg (C := gC177) (pc1 := 68) (Lo1 := [some (.ref 43), some (.int r1)]) (st1' := [.long (28530 : Int64), .ref 43]) (w1 := (wv x I1 J1)) hC177 2 rfl ?_
    refine cv_I (mj := 163) (a := 43) (as := [.long (28530 : Int64)]) (r := []) rfl rfl rfl ⟨rfl, by decide, Nat.le_of_ble_eq_true rfl, Nat.le_of_ble_eq_true rfl⟩ rfl (wcI_mono k (fun r2 I2 J2 k => ?_))
    refine wi_ne (tgt := 94) rfl rfl (fun h => ?_) (fun h => ?_)
    · have k := k.1 h
      refine wp_seg (C := gC177) (pc1 := 75) (Lo1 := [some (.ref 43), some (.int r1)]) (st1' := [.ref 43]) (w1 := (wv x I2 J2)) hC177 1 rfl ?_
      refine cv_I (mj := 176) (a := 43) (as := []) (r := []) rfl rfl rfl ⟨rfl, by decide, Nat.le_of_ble_eq_true rfl, Nat.le_of_ble_eq_true rfl⟩ rfl (wcI_mono k (fun r3 I3 J3 k => ?_))
      refine wi_eq (tgt := 87) rfl rfl (fun h => ?_) (fun h => ?_)
      · have k := k.1 h
        refine wp_seg (C := gC177) (pc1 := 89) (Lo1 := [some (.ref 43), some (.int r1)]) (st1' := [.int (1 : Int32), .ref 43]) (w1 := (wv x I3 J3)) hC177 2 rfl ?_
        refine cv_V (mj := 173) (a := 43) (as := [.int (1 : Int32)]) (r := []) rfl rfl rfl ⟨rfl, by decide, Nat.le_of_ble_eq_true rfl, Nat.le_of_ble_eq_true rfl⟩ rfl (wcV_mono k (fun I4 J4 k => ?_))
        refine wp_seg (C := gC177) (pc1 := 93) (Lo1 := [some (.ref 43), some (.int r1)]) (st1' := [.int (1 : Int32)]) (w1 := (wv x I4 J4)) hC177 1 rfl ?_
        exact we_z rfl rfl (Or.inr rfl) k
      · have k := k.2 h
        refine wp_seg (C := gC177) (pc1 := 83) (Lo1 := [some (.ref 43), some (.int r1)]) (st1' := [.int (1 : Int32), .ref 43]) (w1 := (wv x I3 J3)) hC177 2 rfl ?_
        refine cv_I (mj := 162) (a := 43) (as := [.int (1 : Int32)]) (r := []) rfl rfl rfl ⟨rfl, by decide, Nat.le_of_ble_eq_true rfl, Nat.le_of_ble_eq_true rfl⟩ rfl (wcI_mono k (fun r5 I5 J5 k => ?_))
        exact we_z rfl rfl k.1 k.2
    · have k := k.2 h
      refine wp_seg (C := gC177) (pc1 := 96) (Lo1 := [some (.ref 43), some (.int r1)]) (st1' := [.int r1, .ref 43]) (w1 := (wv x I2 J2)) hC177 2 rfl ?_
      refine wi_eq (tgt := 103) rfl rfl (fun h => ?_) (fun h => ?_)
      · have k := k.1 h
        refine wp_seg (C := gC177) (pc1 := 104) (Lo1 := [some (.ref 43), some (.int r1)]) (st1' := [.int (1 : Int32), .ref 43]) (w1 := (wv x I2 J2)) hC177 1 rfl ?_
        exact k
      · have k := k.2 h
        refine wp_seg (C := gC177) (pc1 := 104) (Lo1 := [some (.ref 43), some (.int r1)]) (st1' := [.int (2 : Int32), .ref 43]) (w1 := (wv x I2 J2)) hC177 2 rfl ?_
        exact k
  · have k := k.2 h
    refine wp_seg (C := gC177) (pc1 := 96) (Lo1 := [some (.ref 43), some (.int r1)]) (st1' := [.int r1, .ref 43]) (w1 := (wv x I1 J1)) hC177 2 rfl ?_
    refine wi_eq (tgt := 103) rfl rfl (fun h => ?_) (fun h => ?_)
    · have k := k.1 h
      refine wp_seg (C := gC177) (pc1 := 104) (Lo1 := [some (.ref 43), some (.int r1)]) (st1' := [.int (1 : Int32), .ref 43]) (w1 := (wv x I1 J1)) hC177 1 rfl ?_
      exact k
    · have k := k.2 h
      refine wp_seg (C := gC177) (pc1 := 104) (Lo1 := [some (.ref 43), some (.int r1)]) (st1' := [.int (2 : Int32), .ref 43]) (w1 := (wv x I1 J1)) hC177 2 rfl ?_
      exact k
set_option maxRecDepth 20000 in
theorem v177_43_104 {S : Nat × (Nat → Int32)} {d : Nat} {x : mX} {I : rI0} {J : rJ0} {l1 : Int32} {s1 : Int32} {Q : Int32 → rI0 → rJ0 → Prop} (k : (wcV S d 173 [.ref 43, .int s1] x I J (fun I1 J1 => ((l1 = (0 : Int32) → (¬ mOut (I1 43 27) 30 ∧ (wcV S d 161 [.ref 43] x (mSet (mSet I1 49 ((I1 43 27).toNatClampNeg) (5 : Int32)) 43 27 ((I1 43 27) + (1 : Int32))) J1 (fun I2 J2 => wp S (d + 1) 177 0 [some (.ref 43), none] [] (wv x I2 J2) (rI x Q))))) ∧ (¬ l1 = (0 : Int32) → (¬ mOut (I1 43 27) 30 ∧ (wcV S d 161 [.ref 43] x (mSet (mSet I1 49 ((I1 43 27).toNatClampNeg) (4 : Int32)) 43 27 ((I1 43 27) + (1 : Int32))) J1 (fun I3 J3 => wp S (d + 1) 177 0 [some (.ref 43), none] [] (wv x I3 J3) (rI x Q))))))))) : wp S (d + 1) 177 104 [some (.ref 43), some (.int l1)] [.int s1, .ref 43] (wv x I J) (rI x Q) := by
  refine cv_V (mj := 173) (a := 43) (as := [.int s1]) (r := []) rfl rfl rfl ⟨rfl, by decide, Nat.le_of_ble_eq_true rfl, Nat.le_of_ble_eq_true rfl⟩ rfl (wcV_mono k (fun I1 J1 k => ?_))
  refine wp_seg (C := gC177) (pc1 := 116) (Lo1 := [some (.ref 43), some (.int l1)]) (st1' := [.int l1, .int (I1 43 27), .ref 49]) (w1 := (wv x I1 J1)) hC177 5 rfl ?_
  refine wi_eq (tgt := 123) rfl rfl (fun h => ?_) (fun h => ?_)
  · have k := k.1 h
    refine wp_seg (C := gC177) (pc1 := 124) (Lo1 := [some (.ref 43), some (.int l1)]) (st1' := [.int (5 : Int32), .int (I1 43 27), .ref 49]) (w1 := (wv x I1 J1)) hC177 1 rfl ?_
    refine ws_i (n := 30) rfl rfl k.1 ?_
    have k := k.2
    refine wp_seg (C := gC177) (pc1 := 136) (Lo1 := [some (.ref 43), some (.int l1)]) (st1' := [.ref 43]) (w1 := (wv x (mSet (mSet I1 49 ((I1 43 27).toNatClampNeg) (5 : Int32)) 43 27 ((I1 43 27) + (1 : Int32))) J1)) hC177 7 rfl ?_
    refine cv_V (mj := 161) (a := 43) (as := []) (r := []) rfl rfl rfl ⟨rfl, by decide, Nat.le_of_ble_eq_true rfl, Nat.le_of_ble_eq_true rfl⟩ rfl (wcV_mono k (fun I2 J2 k => ?_))
    refine wp_seg (C := gC177) (pc1 := 0) (Lo1 := [some (.ref 43), some (.int l1)]) (st1' := []) (w1 := (wv x I2 J2)) hC177 1 rfl ?_
    exact wp_sub (Lo := [some (.ref 43), none]) (And.intro rfl (trivial)) k
  · have k := k.2 h
    refine wp_seg (C := gC177) (pc1 := 124) (Lo1 := [some (.ref 43), some (.int l1)]) (st1' := [.int (4 : Int32), .int (I1 43 27), .ref 49]) (w1 := (wv x I1 J1)) hC177 2 rfl ?_
    refine ws_i (n := 30) rfl rfl k.1 ?_
    have k := k.2
    refine wp_seg (C := gC177) (pc1 := 136) (Lo1 := [some (.ref 43), some (.int l1)]) (st1' := [.ref 43]) (w1 := (wv x (mSet (mSet I1 49 ((I1 43 27).toNatClampNeg) (4 : Int32)) 43 27 ((I1 43 27) + (1 : Int32))) J1)) hC177 7 rfl ?_
    refine cv_V (mj := 161) (a := 43) (as := []) (r := []) rfl rfl rfl ⟨rfl, by decide, Nat.le_of_ble_eq_true rfl, Nat.le_of_ble_eq_true rfl⟩ rfl (wcV_mono k (fun I3 J3 k => ?_))
    refine wp_seg (C := gC177) (pc1 := 0) (Lo1 := [some (.ref 43), some (.int l1)]) (st1' := []) (w1 := (wv x I3 J3)) hC177 1 rfl ?_
    exact wp_sub (Lo := [some (.ref 43), none]) (And.intro rfl (trivial)) k
set_option maxRecDepth 20000 in
theorem v178_43_0 {S : Nat × (Nat → Int32)} {d : Nat} {x : mX} {I : rI0} {J : rJ0} {Q : Int32 → rI0 → rJ0 → Prop} (k : (wcI S d 163 [.ref 43, .long (1852137842 : Int64)] x I J (fun r1 I1 J1 => ((r1 = (0 : Int32) → (wcI S d 163 [.ref 43, .long (418363302244 : Int64)] x I1 J1 (fun r2 I2 J2 => ((r2 = (0 : Int32) → (wcI S d 163 [.ref 43, .long (108187867505765 : Int64)] x I2 J2 (fun r3 I3 J3 => ((r3 = (0 : Int32) → (wcI S d 163 [.ref 43, .long (108187682958948 : Int64)] x I3 J3 (fun r4 I4 J4 => ((r4 = (0 : Int32) → (wcI S d 163 [.ref 43, .long (1936024942 : Int64)] x I4 J4 (fun r5 I5 J5 => ((r5 = (0 : Int32) → (wcI S d 163 [.ref 43, .long (448546567013 : Int64)] x I5 J5 (fun r6 I6 J6 => ((r6 = (0 : Int32) → (wcI S d 163 [.ref 43, .long (1936026726 : Int64)] x I6 J6 (fun r7 I7 J7 => ((r7 = (0 : Int32) → (wcI S d 163 [.ref 43, .long (1751477348 : Int64)] x I7 J7 (fun r8 I8 J8 => ((r8 = (0 : Int32) → Q (-1 : Int32) I8 J8) ∧ (¬ r8 = (0 : Int32) → Q (7 : Int32) I8 J8))))) ∧ (¬ r7 = (0 : Int32) → Q (6 : Int32) I7 J7))))) ∧ (¬ r6 = (0 : Int32) → Q (5 : Int32) I6 J6))))) ∧ (¬ r5 = (0 : Int32) → Q (4 : Int32) I5 J5))))) ∧ (¬ r4 = (0 : Int32) → Q (3 : Int32) I4 J4))))) ∧ (¬ r3 = (0 : Int32) → Q (2 : Int32) I3 J3))))) ∧ (¬ r2 = (0 : Int32) → Q (1 : Int32) I2 J2))))) ∧ (¬ r1 = (0 : Int32) → Q (0 : Int32) I1 J1))))) : wp S (d + 1) 178 0 [some (.ref 43)] [] (wv x I J) (rI x Q) := by
  refine wp_seg (C := gC178) (pc1 := 4) (Lo1 := [some (.ref 43)]) (st1' := [.long (1852137842 : Int64), .ref 43]) (w1 := (wv x I J)) hC178 2 rfl ?_
  refine cv_I (mj := 163) (a := 43) (as := [.long (1852137842 : Int64)]) (r := []) rfl rfl rfl ⟨rfl, by decide, Nat.le_of_ble_eq_true rfl, Nat.le_of_ble_eq_true rfl⟩ rfl (wcI_mono k (fun r1 I1 J1 k => ?_))
  refine wi_eq (tgt := 14) rfl rfl (fun h => ?_) (fun h => ?_)
  · have k := k.1 h
    refine wp_seg (C := gC178) (pc1 := 18) (Lo1 := [some (.ref 43)]) (st1' := [.long (418363302244 : Int64), .ref 43]) (w1 := (wv x I1 J1)) hC178 2 rfl ?_
    refine cv_I (mj := 163) (a := 43) (as := [.long (418363302244 : Int64)]) (r := []) rfl rfl rfl ⟨rfl, by decide, Nat.le_of_ble_eq_true rfl, Nat.le_of_ble_eq_true rfl⟩ rfl (wcI_mono k (fun r2 I2 J2 k => ?_))
    refine wi_eq (tgt := 28) rfl rfl (fun h => ?_) (fun h => ?_)
    · have k := k.1 h
      refine wp_seg (C := gC178) (pc1 := 32) (Lo1 := [some (.ref 43)]) (st1' := [.long (108187867505765 : Int64), .ref 43]) (w1 := (wv x I2 J2)) hC178 2 rfl ?_
      refine cv_I (mj := 163) (a := 43) (as := [.long (108187867505765 : Int64)]) (r := []) rfl rfl rfl ⟨rfl, by decide, Nat.le_of_ble_eq_true rfl, Nat.le_of_ble_eq_true rfl⟩ rfl (wcI_mono k (fun r3 I3 J3 k => ?_))
      refine wi_eq (tgt := 42) rfl rfl (fun h => ?_) (fun h => ?_)
      · have k := k.1 h
        refine wp_seg (C := gC178) (pc1 := 46) (Lo1 := [some (.ref 43)]) (st1' := [.long (108187682958948 : Int64), .ref 43]) (w1 := (wv x I3 J3)) hC178 2 rfl ?_
        refine cv_I (mj := 163) (a := 43) (as := [.long (108187682958948 : Int64)]) (r := []) rfl rfl rfl ⟨rfl, by decide, Nat.le_of_ble_eq_true rfl, Nat.le_of_ble_eq_true rfl⟩ rfl (wcI_mono k (fun r4 I4 J4 k => ?_))
        refine wi_eq (tgt := 56) rfl rfl (fun h => ?_) (fun h => ?_)
        · have k := k.1 h
          refine wp_seg (C := gC178) (pc1 := 60) (Lo1 := [some (.ref 43)]) (st1' := [.long (1936024942 : Int64), .ref 43]) (w1 := (wv x I4 J4)) hC178 2 rfl ?_
          refine cv_I (mj := 163) (a := 43) (as := [.long (1936024942 : Int64)]) (r := []) rfl rfl rfl ⟨rfl, by decide, Nat.le_of_ble_eq_true rfl, Nat.le_of_ble_eq_true rfl⟩ rfl (wcI_mono k (fun r5 I5 J5 k => ?_))
          refine wi_eq (tgt := 70) rfl rfl (fun h => ?_) (fun h => ?_)
          · have k := k.1 h
            refine wp_seg (C := gC178) (pc1 := 74) (Lo1 := [some (.ref 43)]) (st1' := [.long (448546567013 : Int64), .ref 43]) (w1 := (wv x I5 J5)) hC178 2 rfl ?_
            refine cv_I (mj := 163) (a := 43) (as := [.long (448546567013 : Int64)]) (r := []) rfl rfl rfl ⟨rfl, by decide, Nat.le_of_ble_eq_true rfl, Nat.le_of_ble_eq_true rfl⟩ rfl (wcI_mono k (fun r6 I6 J6 k => ?_))
            refine wi_eq (tgt := 84) rfl rfl (fun h => ?_) (fun h => ?_)
            · have k := k.1 h
              refine wp_seg (C := gC178) (pc1 := 88) (Lo1 := [some (.ref 43)]) (st1' := [.long (1936026726 : Int64), .ref 43]) (w1 := (wv x I6 J6)) hC178 2 rfl ?_
              refine cv_I (mj := 163) (a := 43) (as := [.long (1936026726 : Int64)]) (r := []) rfl rfl rfl ⟨rfl, by decide, Nat.le_of_ble_eq_true rfl, Nat.le_of_ble_eq_true rfl⟩ rfl (wcI_mono k (fun r7 I7 J7 k => ?_))
              refine wi_eq (tgt := 99) rfl rfl (fun h => ?_) (fun h => ?_)
              · have k := k.1 h
                refine wp_seg (C := gC178) (pc1 := 103) (Lo1 := [some (.ref 43)]) (st1' := [.long (1751477348 : Int64), .ref 43]) (w1 := (wv x I7 J7)) hC178 2 rfl ?_
                refine cv_I (mj := 163) (a := 43) (as := [.long (1751477348 : Int64)]) (r := []) rfl rfl rfl ⟨rfl, by decide, Nat.le_of_ble_eq_true rfl, Nat.le_of_ble_eq_true rfl⟩ rfl (wcI_mono k (fun r8 I8 J8 k => ?_))
                refine wi_eq (tgt := 114) rfl rfl (fun h => ?_) (fun h => ?_)
                · have k := k.1 h
                  refine wp_seg (C := gC178) (pc1 := 115) (Lo1 := [some (.ref 43)]) (st1' := [.int (-1 : Int32)]) (w1 := (wv x I8 J8)) hC178 1 rfl ?_
                  exact we_i rfl rfl k
                · have k := k.2 h
                  refine wp_seg (C := gC178) (pc1 := 115) (Lo1 := [some (.ref 43)]) (st1' := [.int (7 : Int32)]) (w1 := (wv x I8 J8)) hC178 2 rfl ?_
                  exact we_i rfl rfl k
              · have k := k.2 h
                refine wp_seg (C := gC178) (pc1 := 115) (Lo1 := [some (.ref 43)]) (st1' := [.int (6 : Int32)]) (w1 := (wv x I7 J7)) hC178 2 rfl ?_
                exact we_i rfl rfl k
            · have k := k.2 h
              refine wp_seg (C := gC178) (pc1 := 115) (Lo1 := [some (.ref 43)]) (st1' := [.int (5 : Int32)]) (w1 := (wv x I6 J6)) hC178 2 rfl ?_
              exact we_i rfl rfl k
          · have k := k.2 h
            refine wp_seg (C := gC178) (pc1 := 115) (Lo1 := [some (.ref 43)]) (st1' := [.int (4 : Int32)]) (w1 := (wv x I5 J5)) hC178 2 rfl ?_
            exact we_i rfl rfl k
        · have k := k.2 h
          refine wp_seg (C := gC178) (pc1 := 115) (Lo1 := [some (.ref 43)]) (st1' := [.int (3 : Int32)]) (w1 := (wv x I4 J4)) hC178 2 rfl ?_
          exact we_i rfl rfl k
      · have k := k.2 h
        refine wp_seg (C := gC178) (pc1 := 115) (Lo1 := [some (.ref 43)]) (st1' := [.int (2 : Int32)]) (w1 := (wv x I3 J3)) hC178 2 rfl ?_
        exact we_i rfl rfl k
    · have k := k.2 h
      refine wp_seg (C := gC178) (pc1 := 115) (Lo1 := [some (.ref 43)]) (st1' := [.int (1 : Int32)]) (w1 := (wv x I2 J2)) hC178 2 rfl ?_
      exact we_i rfl rfl k
  · have k := k.2 h
    refine wp_seg (C := gC178) (pc1 := 115) (Lo1 := [some (.ref 43)]) (st1' := [.int (0 : Int32)]) (w1 := (wv x I1 J1)) hC178 2 rfl ?_
    exact we_i rfl rfl k
set_option maxRecDepth 20000 in
theorem v179_43_0 {S : Nat × (Nat → Int32)} {d : Nat} {x : mX} {I : rI0} {J : rJ0} {Q : Int32 → rI0 → rJ0 → Prop} (k : (wcI S d 163 [.ref 43, .long (7237492 : Int64)] x I J (fun r1 I1 J1 => (wcI S d 178 [.ref 43] x I1 J1 (fun r2 I2 J2 => ((r1 = (0 : Int32) → ((r2 < (0 : Int32) → (wcI S d 164 [.ref 43, .int (40 : Int32)] x I2 J2 (fun r3 I3 J3 => ((r3 = (0 : Int32) → (wcI S d 162 [.ref 43, .int (1 : Int32)] x I3 J3 (fun r4 I4 J4 => ((r4 = 0 ∨ r4 = 1) ∧ Q r4 I4 J4)))) ∧ (¬ r3 = (0 : Int32) → wp S (d + 1) 179 36 [some (.ref 43), some (.int r1), some (.int r2)] [] (wv x I3 J3) (rI x Q)))))) ∧ (¬ r2 < (0 : Int32) → wp S (d + 1) 179 36 [some (.ref 43), some (.int r1), some (.int r2)] [] (wv x I2 J2) (rI x Q)))) ∧ (¬ r1 = (0 : Int32) → wp S (d + 1) 179 36 [some (.ref 43), some (.int r1), some (.int r2)] [] (wv x I2 J2) (rI x Q)))))))) : wp S (d + 1) 179 0 [some (.ref 43), none, none] [] (wv x I J) (rI x Q) := by
  refine wp_seg (C := gC179) (pc1 := 4) (Lo1 := [some (.ref 43), none, none]) (st1' := [.long (7237492 : Int64), .ref 43]) (w1 := (wv x I J)) hC179 2 rfl ?_
  refine cv_I (mj := 163) (a := 43) (as := [.long (7237492 : Int64)]) (r := []) rfl rfl rfl ⟨rfl, by decide, Nat.le_of_ble_eq_true rfl, Nat.le_of_ble_eq_true rfl⟩ rfl (wcI_mono k (fun r1 I1 J1 k => ?_))
  refine wp_seg (C := gC179) (pc1 := 9) (Lo1 := [some (.ref 43), some (.int r1), none]) (st1' := [.ref 43]) (w1 := (wv x I1 J1)) hC179 2 rfl ?_
  refine cv_I (mj := 178) (a := 43) (as := []) (r := []) rfl rfl rfl ⟨rfl, by decide, Nat.le_of_ble_eq_true rfl, Nat.le_of_ble_eq_true rfl⟩ rfl (wcI_mono k (fun r2 I2 J2 k => ?_))
  refine wp_seg (C := gC179) (pc1 := 14) (Lo1 := [some (.ref 43), some (.int r1), some (.int r2)]) (st1' := [.int r1]) (w1 := (wv x I2 J2)) hC179 2 rfl ?_
  refine wi_ne (tgt := 36) rfl rfl (fun h => ?_) (fun h => ?_)
  · have k := k.1 h
    refine wp_seg (C := gC179) (pc1 := 18) (Lo1 := [some (.ref 43), some (.int r1), some (.int r2)]) (st1' := [.int r2]) (w1 := (wv x I2 J2)) hC179 1 rfl ?_
    refine wi_ge (tgt := 36) rfl rfl (fun h => ?_) (fun h => ?_)
    · have k := k.1 h
      refine wp_seg (C := gC179) (pc1 := 24) (Lo1 := [some (.ref 43), some (.int r1), some (.int r2)]) (st1' := [.int (40 : Int32), .ref 43]) (w1 := (wv x I2 J2)) hC179 2 rfl ?_
      refine cv_I (mj := 164) (a := 43) (as := [.int (40 : Int32)]) (r := []) rfl rfl rfl ⟨rfl, by decide, Nat.le_of_ble_eq_true rfl, Nat.le_of_ble_eq_true rfl⟩ rfl (wcI_mono k (fun r3 I3 J3 k => ?_))
      refine wi_ne (tgt := 36) rfl rfl (fun h => ?_) (fun h => ?_)
      · have k := k.1 h
        refine wp_seg (C := gC179) (pc1 := 32) (Lo1 := [some (.ref 43), some (.int r1), some (.int r2)]) (st1' := [.int (1 : Int32), .ref 43]) (w1 := (wv x I3 J3)) hC179 2 rfl ?_
        refine cv_I (mj := 162) (a := 43) (as := [.int (1 : Int32)]) (r := []) rfl rfl rfl ⟨rfl, by decide, Nat.le_of_ble_eq_true rfl, Nat.le_of_ble_eq_true rfl⟩ rfl (wcI_mono k (fun r4 I4 J4 k => ?_))
        exact we_z rfl rfl k.1 k.2
      · have k := k.2 h
        exact k
    · have k := k.2 h
      exact k
  · have k := k.2 h
    exact k
set_option maxRecDepth 20000 in
theorem v179_43_36 {S : Nat × (Nat → Int32)} {d : Nat} {x : mX} {I : rI0} {J : rJ0} {l1 : Int32} {l2 : Int32} {Q : Int32 → rI0 → rJ0 → Prop} (k : (((I 43 28) = (20 : Int32) → (wcI S d 162 [.ref 43, .int (4 : Int32)] x I J (fun r1 I1 J1 => ((r1 = 0 ∨ r1 = 1) ∧ Q r1 I1 J1)))) ∧ (¬ (I 43 28) = (20 : Int32) → (wcI S d 175 [.ref 43] x I J (fun r2 I2 J2 => ((r2 = (8 : Int32) → (wcI S d 162 [.ref 43, .int (4 : Int32)] x I2 J2 (fun r3 I3 J3 => ((r3 = 0 ∨ r3 = 1) ∧ Q r3 I3 J3)))) ∧ (¬ r2 = (8 : Int32) → (wcV S d 161 [.ref 43] x (mSet I2 43 28 ((I2 43 28) + (1 : Int32))) J2 (fun I4 J4 => ((l2 < (0 : Int32) → ((l1 = (0 : Int32) → (¬ mOut (I4 43 27) 30 ∧ wp S (d + 1) 179 0 [some (.ref 43), none, none] [] (wv x (mSet (mSet I4 49 ((I4 43 27).toNatClampNeg) (6 : Int32)) 43 27 ((I4 43 27) + (1 : Int32))) J4) (rI x Q))) ∧ (¬ l1 = (0 : Int32) → (¬ mOut (I4 43 27) 30 ∧ wp S (d + 1) 179 0 [some (.ref 43), none, none] [] (wv x (mSet (mSet I4 49 ((I4 43 27).toNatClampNeg) (3 : Int32)) 43 27 ((I4 43 27) + (1 : Int32))) J4) (rI x Q))))) ∧ (¬ l2 < (0 : Int32) → (wcI S d 180 [.ref 43, .int l2] x I4 J4 (fun r5 I5 J5 => ((r5 = 0 ∨ r5 = 1) ∧ Q r5 I5 J5)))))))))))))) : wp S (d + 1) 179 36 [some (.ref 43), some (.int l1), some (.int l2)] [] (wv x I J) (rI x Q) := by
  refine wp_seg (C := gC179) (pc1 := 42) (Lo1 := [some (.ref 43), some (.int l1), some (.int l2)]) (st1' := [.int (20 : Int32), .int (I 43 28)]) (w1 := (wv x I J)) hC179 3 rfl ?_
  refine wj_eq (tgt := 54) rfl rfl (fun h => ?_) (fun h => ?_)
  · have k := k.1 h
    refine wp_seg (C := gC179) (pc1 := 56) (Lo1 := [some (.ref 43), some (.int l1), some (.int l2)]) (st1' := [.int (4 : Int32), .ref 43]) (w1 := (wv x I J)) hC179 2 rfl ?_
    refine cv_I (mj := 162) (a := 43) (as := [.int (4 : Int32)]) (r := []) rfl rfl rfl ⟨rfl, by decide, Nat.le_of_ble_eq_true rfl, Nat.le_of_ble_eq_true rfl⟩ rfl (wcI_mono k (fun r1 I1 J1 k => ?_))
    exact we_z rfl rfl k.1 k.2
  · have k := k.2 h
    refine wp_seg (C := gC179) (pc1 := 46) (Lo1 := [some (.ref 43), some (.int l1), some (.int l2)]) (st1' := [.ref 43]) (w1 := (wv x I J)) hC179 1 rfl ?_
    refine cv_I (mj := 175) (a := 43) (as := []) (r := []) rfl rfl rfl ⟨rfl, by decide, Nat.le_of_ble_eq_true rfl, Nat.le_of_ble_eq_true rfl⟩ rfl (wcI_mono k (fun r2 I2 J2 k => ?_))
    refine wp_seg (C := gC179) (pc1 := 51) (Lo1 := [some (.ref 43), some (.int l1), some (.int l2)]) (st1' := [.int (8 : Int32), .int r2]) (w1 := (wv x I2 J2)) hC179 1 rfl ?_
    refine wj_ne (tgt := 60) rfl rfl (fun h => ?_) (fun h => ?_)
    · have k := k.1 h
      refine wp_seg (C := gC179) (pc1 := 56) (Lo1 := [some (.ref 43), some (.int l1), some (.int l2)]) (st1' := [.int (4 : Int32), .ref 43]) (w1 := (wv x I2 J2)) hC179 2 rfl ?_
      refine cv_I (mj := 162) (a := 43) (as := [.int (4 : Int32)]) (r := []) rfl rfl rfl ⟨rfl, by decide, Nat.le_of_ble_eq_true rfl, Nat.le_of_ble_eq_true rfl⟩ rfl (wcI_mono k (fun r3 I3 J3 k => ?_))
      exact we_z rfl rfl k.1 k.2
    · have k := k.2 h
      refine wp_seg (C := gC179) (pc1 := 71) (Lo1 := [some (.ref 43), some (.int l1), some (.int l2)]) (st1' := [.ref 43]) (w1 := (wv x (mSet I2 43 28 ((I2 43 28) + (1 : Int32))) J2)) hC179 7 rfl ?_
      refine cv_V (mj := 161) (a := 43) (as := []) (r := []) rfl rfl rfl ⟨rfl, by decide, Nat.le_of_ble_eq_true rfl, Nat.le_of_ble_eq_true rfl⟩ rfl (wcV_mono k (fun I4 J4 k => ?_))
      refine wp_seg (C := gC179) (pc1 := 75) (Lo1 := [some (.ref 43), some (.int l1), some (.int l2)]) (st1' := [.int l2]) (w1 := (wv x I4 J4)) hC179 1 rfl ?_
      refine wi_ge (tgt := 110) rfl rfl (fun h => ?_) (fun h => ?_)
      · have k := k.1 h
        refine wp_seg (C := gC179) (pc1 := 87) (Lo1 := [some (.ref 43), some (.int l1), some (.int l2)]) (st1' := [.int l1, .int (I4 43 27), .ref 49]) (w1 := (wv x I4 J4)) hC179 5 rfl ?_
        refine wi_eq (tgt := 94) rfl rfl (fun h => ?_) (fun h => ?_)
        · have k := k.1 h
          refine wp_seg (C := gC179) (pc1 := 96) (Lo1 := [some (.ref 43), some (.int l1), some (.int l2)]) (st1' := [.int (6 : Int32), .int (I4 43 27), .ref 49]) (w1 := (wv x I4 J4)) hC179 1 rfl ?_
          refine ws_i (n := 30) rfl rfl k.1 ?_
          have k := k.2
          refine wp_seg (C := gC179) (pc1 := 0) (Lo1 := [some (.ref 43), some (.int l1), some (.int l2)]) (st1' := []) (w1 := (wv x (mSet (mSet I4 49 ((I4 43 27).toNatClampNeg) (6 : Int32)) 43 27 ((I4 43 27) + (1 : Int32))) J4)) hC179 7 rfl ?_
          exact wp_sub (Lo := [some (.ref 43), none, none]) (And.intro rfl (trivial)) k
        · have k := k.2 h
          refine wp_seg (C := gC179) (pc1 := 96) (Lo1 := [some (.ref 43), some (.int l1), some (.int l2)]) (st1' := [.int (3 : Int32), .int (I4 43 27), .ref 49]) (w1 := (wv x I4 J4)) hC179 2 rfl ?_
          refine ws_i (n := 30) rfl rfl k.1 ?_
          have k := k.2
          refine wp_seg (C := gC179) (pc1 := 0) (Lo1 := [some (.ref 43), some (.int l1), some (.int l2)]) (st1' := []) (w1 := (wv x (mSet (mSet I4 49 ((I4 43 27).toNatClampNeg) (3 : Int32)) 43 27 ((I4 43 27) + (1 : Int32))) J4)) hC179 7 rfl ?_
          exact wp_sub (Lo := [some (.ref 43), none, none]) (And.intro rfl (trivial)) k
      · have k := k.2 h
        refine wp_seg (C := gC179) (pc1 := 112) (Lo1 := [some (.ref 43), some (.int l1), some (.int l2)]) (st1' := [.int l2, .ref 43]) (w1 := (wv x I4 J4)) hC179 2 rfl ?_
        refine cv_I (mj := 180) (a := 43) (as := [.int l2]) (r := []) rfl rfl rfl ⟨rfl, by decide, Nat.le_of_ble_eq_true rfl, Nat.le_of_ble_eq_true rfl⟩ rfl (wcI_mono k (fun r5 I5 J5 k => ?_))
        exact we_z rfl rfl k.1 k.2
set_option maxRecDepth 20000 in
theorem v180_43_0 {S : Nat × (Nat → Int32)} {d : Nat} {x : mX} {I : rI0} {J : rJ0} {p1 : Int32} {Q : Int32 → rI0 → rJ0 → Prop} (k : ((p1 < (6 : Int32) → (wcI S d 166 [.ref 43, .int (1 : Int32), .int (2 : Int32)] x I J (fun r1 I1 J1 => ((r1 = (0 : Int32) → Q (0 : Int32) I1 J1) ∧ (¬ r1 = (0 : Int32) → wp S (d + 1) 180 24 [some (.ref 43), some (.int p1), some (.int (I1 43 18)), none, none] [] (wv x I1 J1) (rI x Q)))))) ∧ (¬ p1 < (6 : Int32) → wp S (d + 1) 180 24 [some (.ref 43), some (.int p1), some (.int (0 : Int32)), none, none] [] (wv x I J) (rI x Q)))) : wp S (d + 1) 180 0 [some (.ref 43), some (.int p1), none, none, none] [] (wv x I J) (rI x Q) := by
  refine wp_seg (C := gC180) (pc1 := 5) (Lo1 := [some (.ref 43), some (.int p1), some (.int (0 : Int32)), none, none]) (st1' := [.int (6 : Int32), .int p1]) (w1 := (wv x I J)) hC180 4 rfl ?_
  refine wj_ge (tgt := 24) rfl rfl (fun h => ?_) (fun h => ?_)
  · have k := k.1 h
    refine wp_seg (C := gC180) (pc1 := 11) (Lo1 := [some (.ref 43), some (.int p1), some (.int (0 : Int32)), none, none]) (st1' := [.int (2 : Int32), .int (1 : Int32), .ref 43]) (w1 := (wv x I J)) hC180 3 rfl ?_
    refine cv_I (mj := 166) (a := 43) (as := [.int (1 : Int32), .int (2 : Int32)]) (r := []) rfl rfl rfl ⟨rfl, by decide, Nat.le_of_ble_eq_true rfl, Nat.le_of_ble_eq_true rfl⟩ rfl (wcI_mono k (fun r1 I1 J1 k => ?_))
    refine wi_ne (tgt := 19) rfl rfl (fun h => ?_) (fun h => ?_)
    · have k := k.1 h
      refine wp_seg (C := gC180) (pc1 := 18) (Lo1 := [some (.ref 43), some (.int p1), some (.int (0 : Int32)), none, none]) (st1' := [.int (0 : Int32)]) (w1 := (wv x I1 J1)) hC180 1 rfl ?_
      exact we_z rfl rfl (Or.inl rfl) k
    · have k := k.2 h
      refine wp_seg (C := gC180) (pc1 := 24) (Lo1 := [some (.ref 43), some (.int p1), some (.int (I1 43 18)), none, none]) (st1' := []) (w1 := (wv x I1 J1)) hC180 3 rfl ?_
      exact k
  · have k := k.2 h
    exact k
set_option maxRecDepth 20000 in
theorem v180_43_24 {S : Nat × (Nat → Int32)} {d : Nat} {x : mX} {I : rI0} {J : rJ0} {l1 : Int32} {l2 : Int32} {Q : Int32 → rI0 → rJ0 → Prop} (k : (wcI S d 164 [.ref 43, .int (60 : Int32)] x I J (fun r1 I1 J1 => ((r1 = (0 : Int32) → (wcI S d 164 [.ref 43, .int (61 : Int32)] x I1 J1 (fun r2 I2 J2 => ((r2 = (0 : Int32) → (wcI S d 164 [.ref 43, .int (62 : Int32)] x I2 J2 (fun r3 I3 J3 => ((r3 = (0 : Int32) → (wcI S d 162 [.ref 43, .int (1 : Int32)] x I3 J3 (fun r4 I4 J4 => ((r4 = 0 ∨ r4 = 1) ∧ Q r4 I4 J4)))) ∧ (¬ r3 = (0 : Int32) → wp S (d + 1) 180 57 [some (.ref 43), some (.int l1), some (.int l2), none, none] [] (wv x I3 J3) (rI x Q)))))) ∧ (¬ r2 = (0 : Int32) → wp S (d + 1) 180 57 [some (.ref 43), some (.int l1), some (.int l2), none, none] [] (wv x I2 J2) (rI x Q)))))) ∧ (¬ r1 = (0 : Int32) → wp S (d + 1) 180 57 [some (.ref 43), some (.int l1), some (.int l2), none, none] [] (wv x I1 J1) (rI x Q)))))) : wp S (d + 1) 180 24 [some (.ref 43), some (.int l1), some (.int l2), none, none] [] (wv x I J) (rI x Q) := by
  refine wp_seg (C := gC180) (pc1 := 27) (Lo1 := [some (.ref 43), some (.int l1), some (.int l2), none, none]) (st1' := [.int (60 : Int32), .ref 43]) (w1 := (wv x I J)) hC180 2 rfl ?_
  refine cv_I (mj := 164) (a := 43) (as := [.int (60 : Int32)]) (r := []) rfl rfl rfl ⟨rfl, by decide, Nat.le_of_ble_eq_true rfl, Nat.le_of_ble_eq_true rfl⟩ rfl (wcI_mono k (fun r1 I1 J1 k => ?_))
  refine wi_ne (tgt := 57) rfl rfl (fun h => ?_) (fun h => ?_)
  · have k := k.1 h
    refine wp_seg (C := gC180) (pc1 := 36) (Lo1 := [some (.ref 43), some (.int l1), some (.int l2), none, none]) (st1' := [.int (61 : Int32), .ref 43]) (w1 := (wv x I1 J1)) hC180 2 rfl ?_
    refine cv_I (mj := 164) (a := 43) (as := [.int (61 : Int32)]) (r := []) rfl rfl rfl ⟨rfl, by decide, Nat.le_of_ble_eq_true rfl, Nat.le_of_ble_eq_true rfl⟩ rfl (wcI_mono k (fun r2 I2 J2 k => ?_))
    refine wi_ne (tgt := 57) rfl rfl (fun h => ?_) (fun h => ?_)
    · have k := k.1 h
      refine wp_seg (C := gC180) (pc1 := 45) (Lo1 := [some (.ref 43), some (.int l1), some (.int l2), none, none]) (st1' := [.int (62 : Int32), .ref 43]) (w1 := (wv x I2 J2)) hC180 2 rfl ?_
      refine cv_I (mj := 164) (a := 43) (as := [.int (62 : Int32)]) (r := []) rfl rfl rfl ⟨rfl, by decide, Nat.le_of_ble_eq_true rfl, Nat.le_of_ble_eq_true rfl⟩ rfl (wcI_mono k (fun r3 I3 J3 k => ?_))
      refine wi_ne (tgt := 57) rfl rfl (fun h => ?_) (fun h => ?_)
      · have k := k.1 h
        refine wp_seg (C := gC180) (pc1 := 53) (Lo1 := [some (.ref 43), some (.int l1), some (.int l2), none, none]) (st1' := [.int (1 : Int32), .ref 43]) (w1 := (wv x I3 J3)) hC180 2 rfl ?_
        refine cv_I (mj := 162) (a := 43) (as := [.int (1 : Int32)]) (r := []) rfl rfl rfl ⟨rfl, by decide, Nat.le_of_ble_eq_true rfl, Nat.le_of_ble_eq_true rfl⟩ rfl (wcI_mono k (fun r4 I4 J4 k => ?_))
        exact we_z rfl rfl k.1 k.2
      · have k := k.2 h
        exact k
    · have k := k.2 h
      exact k
  · have k := k.2 h
    exact k
set_option maxRecDepth 20000 in
theorem v180_43_57 {S : Nat × (Nat → Int32)} {d : Nat} {x : mX} {I : rI0} {J : rJ0} {l1 : Int32} {l2 : Int32} {Q : Int32 → rI0 → rJ0 → Prop} (k : (wcV S d 161 [.ref 43] x I J (fun I1 J1 => (((I1 43 9) = (2 : Int32) → ((l1 = (6 : Int32) → ((l1 < (6 : Int32) → wp S (d + 1) 180 120 [some (.ref 43), some (.int l1), some (.int l2), some (.int ((I 43 12) - (60 : Int32))), some (.int (1 : Int32))] [.int l1, .int (1 : Int32), .ref 43] (wv x I1 J1) (rI x Q)) ∧ (¬ l1 < (6 : Int32) → wp S (d + 1) 180 120 [some (.ref 43), some (.int l1), some (.int l2), some (.int ((I 43 12) - (60 : Int32))), some (.int (1 : Int32))] [.int (0 : Int32), .int (1 : Int32), .ref 43] (wv x I1 J1) (rI x Q)))) ∧ (¬ l1 = (6 : Int32) → ((l1 = (7 : Int32) → ((l1 < (6 : Int32) → wp S (d + 1) 180 120 [some (.ref 43), some (.int l1), some (.int l2), some (.int ((I 43 12) - (60 : Int32))), some (.int (2 : Int32))] [.int l1, .int (2 : Int32), .ref 43] (wv x I1 J1) (rI x Q)) ∧ (¬ l1 < (6 : Int32) → wp S (d + 1) 180 120 [some (.ref 43), some (.int l1), some (.int l2), some (.int ((I 43 12) - (60 : Int32))), some (.int (2 : Int32))] [.int (0 : Int32), .int (2 : Int32), .ref 43] (wv x I1 J1) (rI x Q)))) ∧ (¬ l1 = (7 : Int32) → ((l1 < (6 : Int32) → wp S (d + 1) 180 120 [some (.ref 43), some (.int l1), some (.int l2), some (.int ((I 43 12) - (60 : Int32))), some (.int (0 : Int32))] [.int l1, .int (0 : Int32), .ref 43] (wv x I1 J1) (rI x Q)) ∧ (¬ l1 < (6 : Int32) → wp S (d + 1) 180 120 [some (.ref 43), some (.int l1), some (.int l2), some (.int ((I 43 12) - (60 : Int32))), some (.int (0 : Int32))] [.int (0 : Int32), .int (0 : Int32), .ref 43] (wv x I1 J1) (rI x Q)))))))) ∧ (¬ (I1 43 9) = (2 : Int32) → (wcI S d 162 [.ref 43, .int (1 : Int32)] x I1 J1 (fun r2 I2 J2 => ((r2 = 0 ∨ r2 = 1) ∧ Q r2 I2 J2)))))))) : wp S (d + 1) 180 57 [some (.ref 43), some (.int l1), some (.int l2), none, none] [] (wv x I J) (rI x Q) := by
  refine wp_seg (C := gC180) (pc1 := 66) (Lo1 := [some (.ref 43), some (.int l1), some (.int l2), some (.int ((I 43 12) - (60 : Int32))), none]) (st1' := [.ref 43]) (w1 := (wv x I J)) hC180 6 rfl ?_
  refine cv_V (mj := 161) (a := 43) (as := []) (r := []) rfl rfl rfl ⟨rfl, by decide, Nat.le_of_ble_eq_true rfl, Nat.le_of_ble_eq_true rfl⟩ rfl (wcV_mono k (fun I1 J1 k => ?_))
  refine wp_seg (C := gC180) (pc1 := 74) (Lo1 := [some (.ref 43), some (.int l1), some (.int l2), some (.int ((I 43 12) - (60 : Int32))), none]) (st1' := [.int (2 : Int32), .int (I1 43 9)]) (w1 := (wv x I1 J1)) hC180 3 rfl ?_
  refine wj_eq (tgt := 83) rfl rfl (fun h => ?_) (fun h => ?_)
  · have k := k.1 h
    refine wp_seg (C := gC180) (pc1 := 86) (Lo1 := [some (.ref 43), some (.int l1), some (.int l2), some (.int ((I 43 12) - (60 : Int32))), none]) (st1' := [.int (6 : Int32), .int l1]) (w1 := (wv x I1 J1)) hC180 2 rfl ?_
    refine wj_ne (tgt := 93) rfl rfl (fun h => ?_) (fun h => ?_)
    · have k := k.1 h
      refine wp_seg (C := gC180) (pc1 := 112) (Lo1 := [some (.ref 43), some (.int l1), some (.int l2), some (.int ((I 43 12) - (60 : Int32))), some (.int (1 : Int32))]) (st1' := [.int (6 : Int32), .int l1, .int (1 : Int32), .ref 43]) (w1 := (wv x I1 J1)) hC180 7 rfl ?_
      refine wj_ge (tgt := 119) rfl rfl (fun h => ?_) (fun h => ?_)
      · have k := k.1 h
        refine wp_seg (C := gC180) (pc1 := 120) (Lo1 := [some (.ref 43), some (.int l1), some (.int l2), some (.int ((I 43 12) - (60 : Int32))), some (.int (1 : Int32))]) (st1' := [.int l1, .int (1 : Int32), .ref 43]) (w1 := (wv x I1 J1)) hC180 2 rfl ?_
        exact k
      · have k := k.2 h
        refine wp_seg (C := gC180) (pc1 := 120) (Lo1 := [some (.ref 43), some (.int l1), some (.int l2), some (.int ((I 43 12) - (60 : Int32))), some (.int (1 : Int32))]) (st1' := [.int (0 : Int32), .int (1 : Int32), .ref 43]) (w1 := (wv x I1 J1)) hC180 1 rfl ?_
        exact k
    · have k := k.2 h
      refine wp_seg (C := gC180) (pc1 := 96) (Lo1 := [some (.ref 43), some (.int l1), some (.int l2), some (.int ((I 43 12) - (60 : Int32))), none]) (st1' := [.int (7 : Int32), .int l1]) (w1 := (wv x I1 J1)) hC180 2 rfl ?_
      refine wj_ne (tgt := 103) rfl rfl (fun h => ?_) (fun h => ?_)
      · have k := k.1 h
        refine wp_seg (C := gC180) (pc1 := 112) (Lo1 := [some (.ref 43), some (.int l1), some (.int l2), some (.int ((I 43 12) - (60 : Int32))), some (.int (2 : Int32))]) (st1' := [.int (6 : Int32), .int l1, .int (2 : Int32), .ref 43]) (w1 := (wv x I1 J1)) hC180 7 rfl ?_
        refine wj_ge (tgt := 119) rfl rfl (fun h => ?_) (fun h => ?_)
        · have k := k.1 h
          refine wp_seg (C := gC180) (pc1 := 120) (Lo1 := [some (.ref 43), some (.int l1), some (.int l2), some (.int ((I 43 12) - (60 : Int32))), some (.int (2 : Int32))]) (st1' := [.int l1, .int (2 : Int32), .ref 43]) (w1 := (wv x I1 J1)) hC180 2 rfl ?_
          exact k
        · have k := k.2 h
          refine wp_seg (C := gC180) (pc1 := 120) (Lo1 := [some (.ref 43), some (.int l1), some (.int l2), some (.int ((I 43 12) - (60 : Int32))), some (.int (2 : Int32))]) (st1' := [.int (0 : Int32), .int (2 : Int32), .ref 43]) (w1 := (wv x I1 J1)) hC180 1 rfl ?_
          exact k
      · have k := k.2 h
        refine wp_seg (C := gC180) (pc1 := 112) (Lo1 := [some (.ref 43), some (.int l1), some (.int l2), some (.int ((I 43 12) - (60 : Int32))), some (.int (0 : Int32))]) (st1' := [.int (6 : Int32), .int l1, .int (0 : Int32), .ref 43]) (w1 := (wv x I1 J1)) hC180 6 rfl ?_
        refine wj_ge (tgt := 119) rfl rfl (fun h => ?_) (fun h => ?_)
        · have k := k.1 h
          refine wp_seg (C := gC180) (pc1 := 120) (Lo1 := [some (.ref 43), some (.int l1), some (.int l2), some (.int ((I 43 12) - (60 : Int32))), some (.int (0 : Int32))]) (st1' := [.int l1, .int (0 : Int32), .ref 43]) (w1 := (wv x I1 J1)) hC180 2 rfl ?_
          exact k
        · have k := k.2 h
          refine wp_seg (C := gC180) (pc1 := 120) (Lo1 := [some (.ref 43), some (.int l1), some (.int l2), some (.int ((I 43 12) - (60 : Int32))), some (.int (0 : Int32))]) (st1' := [.int (0 : Int32), .int (0 : Int32), .ref 43]) (w1 := (wv x I1 J1)) hC180 1 rfl ?_
          exact k
  · have k := k.2 h
    refine wp_seg (C := gC180) (pc1 := 79) (Lo1 := [some (.ref 43), some (.int l1), some (.int l2), some (.int ((I 43 12) - (60 : Int32))), none]) (st1' := [.int (1 : Int32), .ref 43]) (w1 := (wv x I1 J1)) hC180 2 rfl ?_
    refine cv_I (mj := 162) (a := 43) (as := [.int (1 : Int32)]) (r := []) rfl rfl rfl ⟨rfl, by decide, Nat.le_of_ble_eq_true rfl, Nat.le_of_ble_eq_true rfl⟩ rfl (wcI_mono k (fun r2 I2 J2 k => ?_))
    exact we_z rfl rfl k.1 k.2
set_option maxRecDepth 20000 in
theorem v180_43_120 {S : Nat × (Nat → Int32)} {d : Nat} {x : mX} {I : rI0} {J : rJ0} {l1 : Int32} {l2 : Int32} {l3 : Int32} {l4 : Int32} {s1 : Int32} {s2 : Int32} {Q : Int32 → rI0 → rJ0 → Prop} (k : (wcV S d 172 [.ref 43, .int ((((s1 ||| (s2 <<< ((3 : Int32) &&& 31))) ||| (l2 <<< ((6 : Int32) &&& 31))) ||| (l3 <<< ((8 : Int32) &&& 31))) ||| ((I 43 12) <<< ((10 : Int32) &&& 31)))] x I J (fun I1 J1 => (wcV S d 161 [.ref 43] x I1 J1 (fun I2 J2 => (wcV S d 173 [.ref 43, .int (3 : Int32)] x I2 J2 (fun I3 J3 => Q (1 : Int32) I3 J3))))))) : wp S (d + 1) 180 120 [some (.ref 43), some (.int l1), some (.int l2), some (.int l3), some (.int l4)] [.int s2, .int s1, .ref 43] (wv x I J) (rI x Q) := by
  refine wp_seg (C := gC180) (pc1 := 134) (Lo1 := [some (.ref 43), some (.int l1), some (.int l2), some (.int l3), some (.int l4)]) (st1' := [.ref 43, .int (((s1 ||| (s2 <<< ((3 : Int32) &&& 31))) ||| (l2 <<< ((6 : Int32) &&& 31))) ||| (l3 <<< ((8 : Int32) &&& 31))), .ref 43]) (w1 := (wv x I J)) hC180 12 rfl ?_
  refine wp_seg (C := gC180) (pc1 := 141) (Lo1 := [some (.ref 43), some (.int l1), some (.int l2), some (.int l3), some (.int l4)]) (st1' := [.int ((((s1 ||| (s2 <<< ((3 : Int32) &&& 31))) ||| (l2 <<< ((6 : Int32) &&& 31))) ||| (l3 <<< ((8 : Int32) &&& 31))) ||| ((I 43 12) <<< ((10 : Int32) &&& 31))), .ref 43]) (w1 := (wv x I J)) hC180 4 rfl ?_
  refine cv_V (mj := 172) (a := 43) (as := [.int ((((s1 ||| (s2 <<< ((3 : Int32) &&& 31))) ||| (l2 <<< ((6 : Int32) &&& 31))) ||| (l3 <<< ((8 : Int32) &&& 31))) ||| ((I 43 12) <<< ((10 : Int32) &&& 31)))]) (r := []) rfl rfl rfl ⟨rfl, by decide, Nat.le_of_ble_eq_true rfl, Nat.le_of_ble_eq_true rfl⟩ rfl (wcV_mono k (fun I1 J1 k => ?_))
  refine wp_seg (C := gC180) (pc1 := 145) (Lo1 := [some (.ref 43), some (.int l1), some (.int l2), some (.int l3), some (.int l4)]) (st1' := [.ref 43]) (w1 := (wv x I1 J1)) hC180 1 rfl ?_
  refine cv_V (mj := 161) (a := 43) (as := []) (r := []) rfl rfl rfl ⟨rfl, by decide, Nat.le_of_ble_eq_true rfl, Nat.le_of_ble_eq_true rfl⟩ rfl (wcV_mono k (fun I2 J2 k => ?_))
  refine wp_seg (C := gC180) (pc1 := 150) (Lo1 := [some (.ref 43), some (.int l1), some (.int l2), some (.int l3), some (.int l4)]) (st1' := [.int (3 : Int32), .ref 43]) (w1 := (wv x I2 J2)) hC180 2 rfl ?_
  refine cv_V (mj := 173) (a := 43) (as := [.int (3 : Int32)]) (r := []) rfl rfl rfl ⟨rfl, by decide, Nat.le_of_ble_eq_true rfl, Nat.le_of_ble_eq_true rfl⟩ rfl (wcV_mono k (fun I3 J3 k => ?_))
  refine wp_seg (C := gC180) (pc1 := 154) (Lo1 := [some (.ref 43), some (.int l1), some (.int l2), some (.int l3), some (.int l4)]) (st1' := [.int (1 : Int32)]) (w1 := (wv x I3 J3)) hC180 1 rfl ?_
  exact we_z rfl rfl (Or.inr rfl) k
set_option maxRecDepth 20000 in
theorem v181_43_0 {S : Nat × (Nat → Int32)} {d : Nat} {x : mX} {I : rI0} {J : rJ0} {Q : Int32 → rI0 → rJ0 → Prop} (k : (wcV S d 150 [.ref 43, .int (900 : Int32)] x (mSet I 43 0 (0 : Int32)) J (fun I1 J1 => (wcV S d 157 [.ref 43] x (mSet (mSet (mSet (mSet (mSet I1 43 13 (0 : Int32)) 43 19 (0 : Int32)) 43 20 (0 : Int32)) 43 21 (0 : Int32)) 43 22 (0 : Int32)) J1 (fun I2 J2 => (wcV S d 161 [.ref 43] x I2 J2 (fun I3 J3 => wp S (d + 1) 181 45 [some (.ref 43), none] [] (wv x I3 J3) (rI x Q)))))))) : wp S (d + 1) 181 0 [some (.ref 43), none] [] (wv x I J) (rI x Q) := by
  refine wp_seg (C := gC181) (pc1 := 9) (Lo1 := [some (.ref 43), none]) (st1' := [.int (900 : Int32), .ref 43]) (w1 := (wv x (mSet I 43 0 (0 : Int32)) J)) hC181 5 rfl ?_
  refine cv_V (mj := 150) (a := 43) (as := [.int (900 : Int32)]) (r := []) rfl rfl rfl ⟨rfl, by decide, Nat.le_of_ble_eq_true rfl, Nat.le_of_ble_eq_true rfl⟩ rfl (wcV_mono k (fun I1 J1 k => ?_))
  refine wp_seg (C := gC181) (pc1 := 32) (Lo1 := [some (.ref 43), none]) (st1' := []) (w1 := (wv x (mSet (mSet (mSet (mSet I1 43 13 (0 : Int32)) 43 19 (0 : Int32)) 43 20 (0 : Int32)) 43 21 (0 : Int32)) J1)) hC181 12 rfl ?_
  refine wp_seg (C := gC181) (pc1 := 38) (Lo1 := [some (.ref 43), none]) (st1' := [.ref 43]) (w1 := (wv x (mSet (mSet (mSet (mSet (mSet I1 43 13 (0 : Int32)) 43 19 (0 : Int32)) 43 20 (0 : Int32)) 43 21 (0 : Int32)) 43 22 (0 : Int32)) J1)) hC181 4 rfl ?_
  refine cv_V (mj := 157) (a := 43) (as := []) (r := []) rfl rfl rfl ⟨rfl, by decide, Nat.le_of_ble_eq_true rfl, Nat.le_of_ble_eq_true rfl⟩ rfl (wcV_mono k (fun I2 J2 k => ?_))
  refine wp_seg (C := gC181) (pc1 := 42) (Lo1 := [some (.ref 43), none]) (st1' := [.ref 43]) (w1 := (wv x I2 J2)) hC181 1 rfl ?_
  refine cv_V (mj := 161) (a := 43) (as := []) (r := []) rfl rfl rfl ⟨rfl, by decide, Nat.le_of_ble_eq_true rfl, Nat.le_of_ble_eq_true rfl⟩ rfl (wcV_mono k (fun I3 J3 k => ?_))
  exact k
set_option maxRecDepth 20000 in
theorem v181_43_45 {S : Nat × (Nat → Int32)} {d : Nat} {x : mX} {I : rI0} {J : rJ0} {Q : Int32 → rI0 → rJ0 → Prop} (k : (((I 43 9) = (0 : Int32) → wp S (d + 1) 181 90 [some (.ref 43), some (.int (0 : Int32))] [] (wv x I J) (rI x Q)) ∧ (¬ (I 43 9) = (0 : Int32) → (wcI S d 167 [.ref 43] x I J (fun r1 I1 J1 => ((r1 = (0 : Int32) → Q ((-1 : Int32) - (I1 43 14)) I1 J1) ∧ (¬ r1 = (0 : Int32) → (wcI S d 165 [.ref 43, .int (59 : Int32)] x I1 J1 (fun r2 I2 J2 => ((r2 = (0 : Int32) → Q ((-1 : Int32) - (I2 43 14)) I2 J2) ∧ (¬ r2 = (0 : Int32) → wp S (d + 1) 181 45 [some (.ref 43), none] [] (wv x (mSet I2 43 19 ((I2 43 19) + (1 : Int32))) J2) (rI x Q)))))))))))) : wp S (d + 1) 181 45 [some (.ref 43), none] [] (wv x I J) (rI x Q) := by
  refine wp_seg (C := gC181) (pc1 := 49) (Lo1 := [some (.ref 43), none]) (st1' := [.int (I 43 9)]) (w1 := (wv x I J)) hC181 2 rfl ?_
  refine wi_eq (tgt := 88) rfl rfl (fun h => ?_) (fun h => ?_)
  · have k := k.1 h
    refine wp_seg (C := gC181) (pc1 := 90) (Lo1 := [some (.ref 43), some (.int (0 : Int32))]) (st1' := []) (w1 := (wv x I J)) hC181 2 rfl ?_
    exact k
  · have k := k.2 h
    refine wp_seg (C := gC181) (pc1 := 53) (Lo1 := [some (.ref 43), none]) (st1' := [.ref 43]) (w1 := (wv x I J)) hC181 1 rfl ?_
    refine cv_I (mj := 167) (a := 43) (as := []) (r := []) rfl rfl rfl ⟨rfl, by decide, Nat.le_of_ble_eq_true rfl, Nat.le_of_ble_eq_true rfl⟩ rfl (wcI_mono k (fun r1 I1 J1 k => ?_))
    refine wi_eq (tgt := 68) rfl rfl (fun h => ?_) (fun h => ?_)
    · have k := k.1 h
      refine wp_seg (C := gC181) (pc1 := 74) (Lo1 := [some (.ref 43), none]) (st1' := [.int ((-1 : Int32) - (I1 43 14))]) (w1 := (wv x I1 J1)) hC181 4 rfl ?_
      exact we_i rfl rfl k
    · have k := k.2 h
      refine wp_seg (C := gC181) (pc1 := 62) (Lo1 := [some (.ref 43), none]) (st1' := [.int (59 : Int32), .ref 43]) (w1 := (wv x I1 J1)) hC181 2 rfl ?_
      refine cv_I (mj := 165) (a := 43) (as := [.int (59 : Int32)]) (r := []) rfl rfl rfl ⟨rfl, by decide, Nat.le_of_ble_eq_true rfl, Nat.le_of_ble_eq_true rfl⟩ rfl (wcI_mono k (fun r2 I2 J2 k => ?_))
      refine wi_ne (tgt := 75) rfl rfl (fun h => ?_) (fun h => ?_)
      · have k := k.1 h
        refine wp_seg (C := gC181) (pc1 := 74) (Lo1 := [some (.ref 43), none]) (st1' := [.int ((-1 : Int32) - (I2 43 14))]) (w1 := (wv x I2 J2)) hC181 4 rfl ?_
        exact we_i rfl rfl k
      · have k := k.2 h
        refine wp_seg (C := gC181) (pc1 := 45) (Lo1 := [some (.ref 43), none]) (st1' := []) (w1 := (wv x (mSet I2 43 19 ((I2 43 19) + (1 : Int32))) J2)) hC181 7 rfl ?_
        exact k
set_option maxRecDepth 20000 in
theorem v181_43_90 {S : Nat × (Nat → Int32)} {d : Nat} {x : mX} {I : rI0} {J : rJ0} {l1 : Int32} {Q : Int32 → rI0 → rJ0 → Prop} (k : ((l1 < (681 : Int32) → ((l1 < (590 : Int32) → (¬ mOut l1 590 ∧ (¬ mOut l1 681 ∧ wp S (d + 1) 181 90 [some (.ref 43), some (.int (l1 + (1 : Int32)))] [] (wv x (mSet I 45 l1.toNatClampNeg (I 46 l1.toNatClampNeg)) J) (rI x Q)))) ∧ (¬ l1 < (590 : Int32) → (¬ mOut l1 681 ∧ wp S (d + 1) 181 90 [some (.ref 43), some (.int (l1 + (1 : Int32)))] [] (wv x (mSet I 45 l1.toNatClampNeg (0 : Int32)) J) (rI x Q))))) ∧ (¬ l1 < (681 : Int32) → Q (I 43 19) (mSet I 43 30 (1 : Int32)) (mSet (mSet J 43 16 (0 : Int64)) 43 17 (0 : Int64))))) : wp S (d + 1) 181 90 [some (.ref 43), some (.int l1)] [] (wv x I J) (rI x Q) := by
  refine wp_seg (C := gC181) (pc1 := 94) (Lo1 := [some (.ref 43), some (.int l1)]) (st1' := [.int (681 : Int32), .int l1]) (w1 := (wv x I J)) hC181 2 rfl ?_
  refine wj_ge (tgt := 126) rfl rfl (fun h => ?_) (fun h => ?_)
  · have k := k.1 h
    refine wp_seg (C := gC181) (pc1 := 106) (Lo1 := [some (.ref 43), some (.int l1)]) (st1' := [.int (590 : Int32), .int l1, .int l1, .ref 45]) (w1 := (wv x I J)) hC181 5 rfl ?_
    refine wj_ge (tgt := 118) rfl rfl (fun h => ?_) (fun h => ?_)
    · have k := k.1 h
      refine wp_seg (C := gC181) (pc1 := 114) (Lo1 := [some (.ref 43), some (.int l1)]) (st1' := [.int l1, .ref 46, .int l1, .ref 45]) (w1 := (wv x I J)) hC181 3 rfl ?_
      refine wa_i (n := 590) rfl (by decide) rfl k.1 ?_
      have k := k.2
      refine wp_seg (C := gC181) (pc1 := 119) (Lo1 := [some (.ref 43), some (.int l1)]) (st1' := [.int (I 46 l1.toNatClampNeg), .int l1, .ref 45]) (w1 := (wv x I J)) hC181 1 rfl ?_
      refine ws_i (n := 681) rfl rfl k.1 ?_
      have k := k.2
      refine wp_seg (C := gC181) (pc1 := 90) (Lo1 := [some (.ref 43), some (.int (l1 + (1 : Int32)))]) (st1' := []) (w1 := (wv x (mSet I 45 l1.toNatClampNeg (I 46 l1.toNatClampNeg)) J)) hC181 2 rfl ?_
      exact k
    · have k := k.2 h
      refine wp_seg (C := gC181) (pc1 := 119) (Lo1 := [some (.ref 43), some (.int l1)]) (st1' := [.int (0 : Int32), .int l1, .ref 45]) (w1 := (wv x I J)) hC181 1 rfl ?_
      refine ws_i (n := 681) rfl rfl k.1 ?_
      have k := k.2
      refine wp_seg (C := gC181) (pc1 := 90) (Lo1 := [some (.ref 43), some (.int (l1 + (1 : Int32)))]) (st1' := []) (w1 := (wv x (mSet I 45 l1.toNatClampNeg (0 : Int32)) J)) hC181 2 rfl ?_
      exact k
  · have k := k.2 h
    refine wp_seg (C := gC181) (pc1 := 145) (Lo1 := [some (.ref 43), some (.int l1)]) (st1' := [.int (I 43 19)]) (w1 := (wv x (mSet I 43 30 (1 : Int32)) (mSet (mSet J 43 16 (0 : Int64)) 43 17 (0 : Int64)))) hC181 11 rfl ?_
    exact we_i rfl rfl k
set_option maxRecDepth 20000 in
theorem v182_43_0 {S : Nat × (Nat → Int32)} {d : Nat} {x : mX} {I : rI0} {J : rJ0} {Q : Int32 → rI0 → rJ0 → Prop} (k : Q (I 43 13) (mSet I 43 0 (0 : Int32)) J) : wp S d 182 0 [some (.ref 43)] [] (wv x I J) (rI x Q) := by
  refine wp_seg (C := gC182) (pc1 := 9) (Lo1 := [some (.ref 43)]) (st1' := [.int (I 43 13)]) (w1 := (wv x (mSet I 43 0 (0 : Int32)) J)) hC182 5 rfl ?_
  exact we_i rfl rfl k
set_option maxRecDepth 20000 in
theorem v183_43_0 {S : Nat × (Nat → Int32)} {d : Nat} {x : mX} {I : rI0} {J : rJ0} {p1 : Int32} {Q : Int32 → rI0 → rJ0 → Prop} (k : (¬ mOut (0 : Int32) 681 ∧ (¬ mOut (1 : Int32) 681 ∧ (wcI S d 151 [.int p1, .int (0 : Int32), .int (((I 45 ((0 : Int32).toNatClampNeg)) * (I 45 ((1 : Int32).toNatClampNeg))) - (1 : Int32))] x I J (fun r1 I1 J1 => ((r1 = (0 : Int32) → Q (0 : Int32) I1 J1) ∧ (¬ r1 = (0 : Int32) → (¬ mOut ((6 : Int32) + p1) 681 ∧ (((0 : Int32) < (I1 45 (((6 : Int32) + p1).toNatClampNeg)) → Q (1 : Int32) I1 J1) ∧ (¬ (0 : Int32) < (I1 45 (((6 : Int32) + p1).toNatClampNeg)) → Q (0 : Int32) I1 J1)))))))))) : wp S (d + 1) 183 0 [some (.ref 43), some (.int p1)] [] (wv x I J) (rI x Q) := by
  refine wp_seg (C := gC183) (pc1 := 7) (Lo1 := [some (.ref 43), some (.int p1)]) (st1' := [.int (0 : Int32), .ref 45, .int (0 : Int32), .int p1]) (w1 := (wv x I J)) hC183 5 rfl ?_
  refine wa_i (n := 681) rfl (by decide) rfl k.1 ?_
  have k := k.2
  refine wp_seg (C := gC183) (pc1 := 13) (Lo1 := [some (.ref 43), some (.int p1)]) (st1' := [.int (1 : Int32), .ref 45, .int (I 45 ((0 : Int32).toNatClampNeg)), .int (0 : Int32), .int p1]) (w1 := (wv x I J)) hC183 3 rfl ?_
  refine wa_i (n := 681) rfl (by decide) rfl k.1 ?_
  have k := k.2
  refine wp_seg (C := gC183) (pc1 := 17) (Lo1 := [some (.ref 43), some (.int p1)]) (st1' := [.int (((I 45 ((0 : Int32).toNatClampNeg)) * (I 45 ((1 : Int32).toNatClampNeg))) - (1 : Int32)), .int (0 : Int32), .int p1]) (w1 := (wv x I J)) hC183 3 rfl ?_
  refine cs_I (mj := 151) (nn := 0) (as := [.int p1, .int (0 : Int32), .int (((I 45 ((0 : Int32).toNatClampNeg)) * (I 45 ((1 : Int32).toNatClampNeg))) - (1 : Int32))]) (r := []) rfl rfl rfl ⟨rfl, by decide, Nat.le_of_ble_eq_true rfl, Nat.le_of_ble_eq_true rfl⟩ (by decide) (wcI_mono k (fun r1 I1 J1 k => ?_))
  refine wi_eq (tgt := 39) rfl rfl (fun h => ?_) (fun h => ?_)
  · have k := k.1 h
    refine wp_seg (C := gC183) (pc1 := 40) (Lo1 := [some (.ref 43), some (.int p1)]) (st1' := [.int (0 : Int32)]) (w1 := (wv x I1 J1)) hC183 1 rfl ?_
    exact we_z rfl rfl (Or.inl rfl) k
  · have k := k.2 h
    refine wp_seg (C := gC183) (pc1 := 31) (Lo1 := [some (.ref 43), some (.int p1)]) (st1' := [.int ((6 : Int32) + p1), .ref 45]) (w1 := (wv x I1 J1)) hC183 5 rfl ?_
    refine wa_i (n := 681) rfl (by decide) rfl k.1 ?_
    have k := k.2
    refine wi_le (tgt := 39) rfl rfl (fun h => ?_) (fun h => ?_)
    · have k := k.1 h
      refine wp_seg (C := gC183) (pc1 := 40) (Lo1 := [some (.ref 43), some (.int p1)]) (st1' := [.int (1 : Int32)]) (w1 := (wv x I1 J1)) hC183 2 rfl ?_
      exact we_z rfl rfl (Or.inr rfl) k
    · have k := k.2 h
      refine wp_seg (C := gC183) (pc1 := 40) (Lo1 := [some (.ref 43), some (.int p1)]) (st1' := [.int (0 : Int32)]) (w1 := (wv x I1 J1)) hC183 1 rfl ?_
      exact we_z rfl rfl (Or.inl rfl) k
set_option maxRecDepth 20000 in
theorem v184_43_0 {S : Nat × (Nat → Int32)} {d : Nat} {x : mX} {I : rI0} {J : rJ0} {p1 : Int32} {p2 : Int32} {Q : Int32 → rI0 → rJ0 → Prop} (k : (¬ mOut (0 : Int32) 681 ∧ (wcI S d 151 [.int p1, .int (0 : Int32), .int ((I 45 ((0 : Int32).toNatClampNeg)) - (1 : Int32))] x I J (fun r1 I1 J1 => ((r1 = (0 : Int32) → Q (0 : Int32) I1 J1) ∧ (¬ r1 = (0 : Int32) → (¬ mOut (1 : Int32) 681 ∧ (wcI S d 151 [.int p2, .int (0 : Int32), .int ((I1 45 ((1 : Int32).toNatClampNeg)) - (1 : Int32))] x I1 J1 (fun r2 I2 J2 => ((r2 = (0 : Int32) → Q (0 : Int32) I2 J2) ∧ (¬ r2 = (0 : Int32) → (¬ mOut (1 : Int32) 681 ∧ (¬ mOut (((6 : Int32) + ((I2 45 ((1 : Int32).toNatClampNeg)) * p1)) + p2) 681 ∧ (((0 : Int32) < (I2 45 ((((6 : Int32) + ((I2 45 ((1 : Int32).toNatClampNeg)) * p1)) + p2).toNatClampNeg)) → Q (1 : Int32) I2 J2) ∧ (¬ (0 : Int32) < (I2 45 ((((6 : Int32) + ((I2 45 ((1 : Int32).toNatClampNeg)) * p1)) + p2).toNatClampNeg)) → Q (0 : Int32) I2 J2))))))))))))))) : wp S (d + 1) 184 0 [some (.ref 43), some (.int p1), some (.int p2)] [] (wv x I J) (rI x Q) := by
  refine wp_seg (C := gC184) (pc1 := 7) (Lo1 := [some (.ref 43), some (.int p1), some (.int p2)]) (st1' := [.int (0 : Int32), .ref 45, .int (0 : Int32), .int p1]) (w1 := (wv x I J)) hC184 5 rfl ?_
  refine wa_i (n := 681) rfl (by decide) rfl k.1 ?_
  have k := k.2
  refine wp_seg (C := gC184) (pc1 := 10) (Lo1 := [some (.ref 43), some (.int p1), some (.int p2)]) (st1' := [.int ((I 45 ((0 : Int32).toNatClampNeg)) - (1 : Int32)), .int (0 : Int32), .int p1]) (w1 := (wv x I J)) hC184 2 rfl ?_
  refine cs_I (mj := 151) (nn := 0) (as := [.int p1, .int (0 : Int32), .int ((I 45 ((0 : Int32).toNatClampNeg)) - (1 : Int32))]) (r := []) rfl rfl rfl ⟨rfl, by decide, Nat.le_of_ble_eq_true rfl, Nat.le_of_ble_eq_true rfl⟩ (by decide) (wcI_mono k (fun r1 I1 J1 k => ?_))
  refine wi_eq (tgt := 57) rfl rfl (fun h => ?_) (fun h => ?_)
  · have k := k.1 h
    refine wp_seg (C := gC184) (pc1 := 58) (Lo1 := [some (.ref 43), some (.int p1), some (.int p2)]) (st1' := [.int (0 : Int32)]) (w1 := (wv x I1 J1)) hC184 1 rfl ?_
    exact we_z rfl rfl (Or.inl rfl) k
  · have k := k.2 h
    refine wp_seg (C := gC184) (pc1 := 23) (Lo1 := [some (.ref 43), some (.int p1), some (.int p2)]) (st1' := [.int (1 : Int32), .ref 45, .int (0 : Int32), .int p2]) (w1 := (wv x I1 J1)) hC184 5 rfl ?_
    refine wa_i (n := 681) rfl (by decide) rfl k.1 ?_
    have k := k.2
    refine wp_seg (C := gC184) (pc1 := 26) (Lo1 := [some (.ref 43), some (.int p1), some (.int p2)]) (st1' := [.int ((I1 45 ((1 : Int32).toNatClampNeg)) - (1 : Int32)), .int (0 : Int32), .int p2]) (w1 := (wv x I1 J1)) hC184 2 rfl ?_
    refine cs_I (mj := 151) (nn := 0) (as := [.int p2, .int (0 : Int32), .int ((I1 45 ((1 : Int32).toNatClampNeg)) - (1 : Int32))]) (r := []) rfl rfl rfl ⟨rfl, by decide, Nat.le_of_ble_eq_true rfl, Nat.le_of_ble_eq_true rfl⟩ (by decide) (wcI_mono k (fun r2 I2 J2 k => ?_))
    refine wi_eq (tgt := 57) rfl rfl (fun h => ?_) (fun h => ?_)
    · have k := k.1 h
      refine wp_seg (C := gC184) (pc1 := 58) (Lo1 := [some (.ref 43), some (.int p1), some (.int p2)]) (st1' := [.int (0 : Int32)]) (w1 := (wv x I2 J2)) hC184 1 rfl ?_
      exact we_z rfl rfl (Or.inl rfl) k
    · have k := k.2 h
      refine wp_seg (C := gC184) (pc1 := 43) (Lo1 := [some (.ref 43), some (.int p1), some (.int p2)]) (st1' := [.int (1 : Int32), .ref 45, .int (6 : Int32), .ref 45]) (w1 := (wv x I2 J2)) hC184 6 rfl ?_
      refine wa_i (n := 681) rfl (by decide) rfl k.1 ?_
      have k := k.2
      refine wp_seg (C := gC184) (pc1 := 49) (Lo1 := [some (.ref 43), some (.int p1), some (.int p2)]) (st1' := [.int (((6 : Int32) + ((I2 45 ((1 : Int32).toNatClampNeg)) * p1)) + p2), .ref 45]) (w1 := (wv x I2 J2)) hC184 5 rfl ?_
      refine wa_i (n := 681) rfl (by decide) rfl k.1 ?_
      have k := k.2
      refine wi_le (tgt := 57) rfl rfl (fun h => ?_) (fun h => ?_)
      · have k := k.1 h
        refine wp_seg (C := gC184) (pc1 := 58) (Lo1 := [some (.ref 43), some (.int p1), some (.int p2)]) (st1' := [.int (1 : Int32)]) (w1 := (wv x I2 J2)) hC184 2 rfl ?_
        exact we_z rfl rfl (Or.inr rfl) k
      · have k := k.2 h
        refine wp_seg (C := gC184) (pc1 := 58) (Lo1 := [some (.ref 43), some (.int p1), some (.int p2)]) (st1' := [.int (0 : Int32)]) (w1 := (wv x I2 J2)) hC184 1 rfl ?_
        exact we_z rfl rfl (Or.inl rfl) k
set_option maxRecDepth 20000 in
theorem v185_43_0 {S : Nat × (Nat → Int32)} {d : Nat} {x : mX} {I : rI0} {J : rJ0} {p1 : Int32} {p2 : Int32} {Q : Int64 → rI0 → rJ0 → Prop} (k : (wcI S d 184 [.ref 43, .int p1, .int p2] x I J (fun r1 I1 J1 => ((r1 = (0 : Int32) → Q (0 : Int64) I1 J1) ∧ (¬ r1 = (0 : Int32) → (¬ mOut (1 : Int32) 681 ∧ Q ((1 : Int64) <<< ((((I1 45 ((1 : Int32).toNatClampNeg)) * p1) + p2).toInt64 &&& 63)) I1 J1)))))) : wp S (d + 1) 185 0 [some (.ref 43), some (.int p1), some (.int p2)] [] (wv x I J) (rJ x Q) := by
  refine wp_seg (C := gC185) (pc1 := 3) (Lo1 := [some (.ref 43), some (.int p1), some (.int p2)]) (st1' := [.int p2, .int p1, .ref 43]) (w1 := (wv x I J)) hC185 3 rfl ?_
  refine cv_I (mj := 184) (a := 43) (as := [.int p1, .int p2]) (r := []) rfl rfl rfl ⟨rfl, by decide, Nat.le_of_ble_eq_true rfl, Nat.le_of_ble_eq_true rfl⟩ rfl (wcI_mono k (fun r1 I1 J1 k => ?_))
  refine wi_eq (tgt := 24) rfl rfl (fun h => ?_) (fun h => ?_)
  · have k := k.1 h
    refine wp_seg (C := gC185) (pc1 := 25) (Lo1 := [some (.ref 43), some (.int p1), some (.int p2)]) (st1' := [.long (0 : Int64)]) (w1 := (wv x I1 J1)) hC185 1 rfl ?_
    exact we_l rfl rfl k
  · have k := k.2 h
    refine wp_seg (C := gC185) (pc1 := 15) (Lo1 := [some (.ref 43), some (.int p1), some (.int p2)]) (st1' := [.int (1 : Int32), .ref 45, .long (1 : Int64)]) (w1 := (wv x I1 J1)) hC185 4 rfl ?_
    refine wa_i (n := 681) rfl (by decide) rfl k.1 ?_
    have k := k.2
    refine wp_seg (C := gC185) (pc1 := 25) (Lo1 := [some (.ref 43), some (.int p1), some (.int p2)]) (st1' := [.long ((1 : Int64) <<< ((((I1 45 ((1 : Int32).toNatClampNeg)) * p1) + p2).toInt64 &&& 63))]) (w1 := (wv x I1 J1)) hC185 6 rfl ?_
    exact we_l rfl rfl k
set_option maxRecDepth 20000 in
theorem v186_43_0 {S : Nat × (Nat → Int32)} {d : Nat} {x : mX} {I : rI0} {J : rJ0} {Q : rI0 → rJ0 → Prop} (k : (((I 43 30) = (0 : Int32) → Q I J) ∧ (¬ (I 43 30) = (0 : Int32) → wp S (d + 1) 186 17 [some (.ref 43), some (.long (0 : Int64)), none, some (.int (0 : Int32)), none, none, none, none, none, none, none, none, none] [] (wv x (mSet I 43 30 (0 : Int32)) J) (rV x Q)))) : wp S (d + 1) 186 0 [some (.ref 43), none, none, none, none, none, none, none, none, none, none, none, none] [] (wv x I J) (rV x Q) := by
  refine wp_seg (C := gC186) (pc1 := 4) (Lo1 := [some (.ref 43), none, none, none, none, none, none, none, none, none, none, none, none]) (st1' := [.int (I 43 30)]) (w1 := (wv x I J)) hC186 2 rfl ?_
  refine wi_ne (tgt := 8) rfl rfl (fun h => ?_) (fun h => ?_)
  · have k := k.1 h
    exact we_v rfl rfl k
  · have k := k.2 h
    refine wp_seg (C := gC186) (pc1 := 17) (Lo1 := [some (.ref 43), some (.long (0 : Int64)), none, some (.int (0 : Int32)), none, none, none, none, none, none, none, none, none]) (st1' := []) (w1 := (wv x (mSet I 43 30 (0 : Int32)) J)) hC186 7 rfl ?_
    exact k
set_option maxRecDepth 20000 in
theorem v186_43_17 {S : Nat × (Nat → Int32)} {d : Nat} {x : mX} {I : rI0} {J : rJ0} {l1 : Int64} {l3 : Int32} {Q : rI0 → rJ0 → Prop} (k : (¬ mOut (0 : Int32) 681 ∧ (¬ mOut (1 : Int32) 681 ∧ ((l3 < ((I 45 ((0 : Int32).toNatClampNeg)) * (I 45 ((1 : Int32).toNatClampNeg))) → (¬ mOut ((6 : Int32) + l3) 681 ∧ (((0 : Int32) < (I 45 (((6 : Int32) + l3).toNatClampNeg)) → wp S (d + 1) 186 17 [some (.ref 43), some (.long (l1 ||| ((1 : Int64) <<< (l3.toInt64 &&& 63)))), none, some (.int (l3 + (1 : Int32))), none, none, none, none, none, none, none, none, none] [] (wv x I J) (rV x Q)) ∧ (¬ (0 : Int32) < (I 45 (((6 : Int32) + l3).toNatClampNeg)) → wp S (d + 1) 186 17 [some (.ref 43), some (.long (l1 ||| (0 : Int64))), none, some (.int (l3 + (1 : Int32))), none, none, none, none, none, none, none, none, none] [] (wv x I J) (rV x Q))))) ∧ (¬ l3 < ((I 45 ((0 : Int32).toNatClampNeg)) * (I 45 ((1 : Int32).toNatClampNeg))) → wp S (d + 1) 186 64 [some (.ref 43), some (.long l1), none, some (.int (0 : Int32)), none, none, none, none, none, none, none, none, none] [] (wv x I J) (rV x Q)))))) : wp S (d + 1) 186 17 [some (.ref 43), some (.long l1), none, some (.int l3), none, none, none, none, none, none, none, none, none] [] (wv x I J) (rV x Q) := by
  refine wp_seg (C := gC186) (pc1 := 23) (Lo1 := [some (.ref 43), some (.long l1), none, some (.int l3), none, none, none, none, none, none, none, none, none]) (st1' := [.int (0 : Int32), .ref 45, .int l3]) (w1 := (wv x I J)) hC186 4 rfl ?_
  refine wa_i (n := 681) rfl (by decide) rfl k.1 ?_
  have k := k.2
  refine wp_seg (C := gC186) (pc1 := 29) (Lo1 := [some (.ref 43), some (.long l1), none, some (.int l3), none, none, none, none, none, none, none, none, none]) (st1' := [.int (1 : Int32), .ref 45, .int (I 45 ((0 : Int32).toNatClampNeg)), .int l3]) (w1 := (wv x I J)) hC186 3 rfl ?_
  refine wa_i (n := 681) rfl (by decide) rfl k.1 ?_
  have k := k.2
  refine wp_seg (C := gC186) (pc1 := 31) (Lo1 := [some (.ref 43), some (.long l1), none, some (.int l3), none, none, none, none, none, none, none, none, none]) (st1' := [.int ((I 45 ((0 : Int32).toNatClampNeg)) * (I 45 ((1 : Int32).toNatClampNeg))), .int l3]) (w1 := (wv x I J)) hC186 1 rfl ?_
  refine wj_ge (tgt := 62) rfl rfl (fun h => ?_) (fun h => ?_)
  · have k := k.1 h
    refine wp_seg (C := gC186) (pc1 := 43) (Lo1 := [some (.ref 43), some (.long l1), none, some (.int l3), none, none, none, none, none, none, none, none, none]) (st1' := [.int ((6 : Int32) + l3), .ref 45, .long l1]) (w1 := (wv x I J)) hC186 6 rfl ?_
    refine wa_i (n := 681) rfl (by decide) rfl k.1 ?_
    have k := k.2
    refine wi_le (tgt := 53) rfl rfl (fun h => ?_) (fun h => ?_)
    · have k := k.1 h
      refine wp_seg (C := gC186) (pc1 := 59) (Lo1 := [some (.ref 43), some (.long (l1 ||| ((1 : Int64) <<< (l3.toInt64 &&& 63)))), none, some (.int (l3 + (1 : Int32))), none, none, none, none, none, none, none, none, none]) (st1' := []) (w1 := (wv x I J)) hC186 7 rfl ?_
      refine wp_seg (C := gC186) (pc1 := 17) (Lo1 := [some (.ref 43), some (.long (l1 ||| ((1 : Int64) <<< (l3.toInt64 &&& 63)))), none, some (.int (l3 + (1 : Int32))), none, none, none, none, none, none, none, none, none]) (st1' := []) (w1 := (wv x I J)) hC186 1 rfl ?_
      exact k
    · have k := k.2 h
      refine wp_seg (C := gC186) (pc1 := 59) (Lo1 := [some (.ref 43), some (.long (l1 ||| (0 : Int64))), none, some (.int (l3 + (1 : Int32))), none, none, none, none, none, none, none, none, none]) (st1' := []) (w1 := (wv x I J)) hC186 4 rfl ?_
      refine wp_seg (C := gC186) (pc1 := 17) (Lo1 := [some (.ref 43), some (.long (l1 ||| (0 : Int64))), none, some (.int (l3 + (1 : Int32))), none, none, none, none, none, none, none, none, none]) (st1' := []) (w1 := (wv x I J)) hC186 1 rfl ?_
      exact k
  · have k := k.2 h
    refine wp_seg (C := gC186) (pc1 := 64) (Lo1 := [some (.ref 43), some (.long l1), none, some (.int (0 : Int32)), none, none, none, none, none, none, none, none, none]) (st1' := []) (w1 := (wv x I J)) hC186 2 rfl ?_
    exact k
set_option maxRecDepth 20000 in
theorem v186_43_64 {S : Nat × (Nat → Int32)} {d : Nat} {x : mX} {I : rI0} {J : rJ0} {l1 : Int64} {l3 : Int32} {Q : rI0 → rJ0 → Prop} (k : (¬ mOut (0 : Int32) 681 ∧ (¬ mOut (1 : Int32) 681 ∧ ((l3 < ((I 45 ((0 : Int32).toNatClampNeg)) * (I 45 ((1 : Int32).toNatClampNeg))) → (¬ mOut (1 : Int32) 681 ∧ (¬ (I 45 ((1 : Int32).toNatClampNeg)) = 0 ∧ (¬ mOut (1 : Int32) 681 ∧ (¬ (I 45 ((1 : Int32).toNatClampNeg)) = 0 ∧ wp S (d + 1) 186 107 [some (.ref 43), some (.long l1), none, some (.int l3), some (.int (l3 / (I 45 ((1 : Int32).toNatClampNeg)))), some (.int (l3 - l3 / (I 45 ((1 : Int32).toNatClampNeg)) * (I 45 ((1 : Int32).toNatClampNeg)))), some (.long (0 : Int64)), none, some (.int (0 : Int32)), none, none, none, none] [] (wv x I J) (rV x Q)))))) ∧ (¬ l3 < ((I 45 ((0 : Int32).toNatClampNeg)) * (I 45 ((1 : Int32).toNatClampNeg))) → Q I J))))) : wp S (d + 1) 186 64 [some (.ref 43), some (.long l1), none, some (.int l3), none, none, none, none, none, none, none, none, none] [] (wv x I J) (rV x Q) := by
  refine wp_seg (C := gC186) (pc1 := 70) (Lo1 := [some (.ref 43), some (.long l1), none, some (.int l3), none, none, none, none, none, none, none, none, none]) (st1' := [.int (0 : Int32), .ref 45, .int l3]) (w1 := (wv x I J)) hC186 4 rfl ?_
  refine wa_i (n := 681) rfl (by decide) rfl k.1 ?_
  have k := k.2
  refine wp_seg (C := gC186) (pc1 := 76) (Lo1 := [some (.ref 43), some (.long l1), none, some (.int l3), none, none, none, none, none, none, none, none, none]) (st1' := [.int (1 : Int32), .ref 45, .int (I 45 ((0 : Int32).toNatClampNeg)), .int l3]) (w1 := (wv x I J)) hC186 3 rfl ?_
  refine wa_i (n := 681) rfl (by decide) rfl k.1 ?_
  have k := k.2
  refine wp_seg (C := gC186) (pc1 := 78) (Lo1 := [some (.ref 43), some (.long l1), none, some (.int l3), none, none, none, none, none, none, none, none, none]) (st1' := [.int ((I 45 ((0 : Int32).toNatClampNeg)) * (I 45 ((1 : Int32).toNatClampNeg))), .int l3]) (w1 := (wv x I J)) hC186 1 rfl ?_
  refine wj_ge (tgt := 368) rfl rfl (fun h => ?_) (fun h => ?_)
  · have k := k.1 h
    refine wp_seg (C := gC186) (pc1 := 87) (Lo1 := [some (.ref 43), some (.long l1), none, some (.int l3), none, none, none, none, none, none, none, none, none]) (st1' := [.int (1 : Int32), .ref 45, .int l3]) (w1 := (wv x I J)) hC186 4 rfl ?_
    refine wa_i (n := 681) rfl (by decide) rfl k.1 ?_
    have k := k.2
    refine wd_i rfl k.1 ?_
    have k := k.2
    refine wp_seg (C := gC186) (pc1 := 97) (Lo1 := [some (.ref 43), some (.long l1), none, some (.int l3), some (.int (l3 / (I 45 ((1 : Int32).toNatClampNeg)))), none, none, none, none, none, none, none, none]) (st1' := [.int (1 : Int32), .ref 45, .int l3]) (w1 := (wv x I J)) hC186 5 rfl ?_
    refine wa_i (n := 681) rfl (by decide) rfl k.1 ?_
    have k := k.2
    refine wd_r rfl k.1 ?_
    have k := k.2
    refine wp_seg (C := gC186) (pc1 := 104) (Lo1 := [some (.ref 43), some (.long l1), none, some (.int l3), some (.int (l3 / (I 45 ((1 : Int32).toNatClampNeg)))), some (.int (l3 - l3 / (I 45 ((1 : Int32).toNatClampNeg)) * (I 45 ((1 : Int32).toNatClampNeg)))), some (.long (0 : Int64)), none, none, none, none, none, none]) (st1' := []) (w1 := (wv x I J)) hC186 3 rfl ?_
    refine wp_seg (C := gC186) (pc1 := 107) (Lo1 := [some (.ref 43), some (.long l1), none, some (.int l3), some (.int (l3 / (I 45 ((1 : Int32).toNatClampNeg)))), some (.int (l3 - l3 / (I 45 ((1 : Int32).toNatClampNeg)) * (I 45 ((1 : Int32).toNatClampNeg)))), some (.long (0 : Int64)), none, some (.int (0 : Int32)), none, none, none, none]) (st1' := []) (w1 := (wv x I J)) hC186 2 rfl ?_
    exact k
  · have k := k.2 h
    exact we_v rfl rfl k
set_option maxRecDepth 20000 in
theorem v186_43_107 {S : Nat × (Nat → Int32)} {d : Nat} {x : mX} {I : rI0} {J : rJ0} {l1 : Int64} {l3 : Int32} {l4 : Int32} {l5 : Int32} {l6 : Int64} {l8 : Int32} {Q : rI0 → rJ0 → Prop} (k : ((l8 < (9 : Int32) → ((l8 = (4 : Int32) → wp S (d + 1) 186 107 [some (.ref 43), some (.long l1), none, some (.int l3), some (.int l4), some (.int l5), some (.long l6), none, some (.int (l8 + (1 : Int32))), none, none, none, none] [] (wv x I J) (rV x Q)) ∧ (¬ l8 = (4 : Int32) → (¬ (3 : Int32) = 0 ∧ (¬ (3 : Int32) = 0 ∧ (wcJ S d 185 [.ref 43, .int ((l4 + (l8 / (3 : Int32))) - (1 : Int32)), .int ((l5 + (l8 - l8 / (3 : Int32) * (3 : Int32))) - (1 : Int32))] x I J (fun r1 I1 J1 => wp S (d + 1) 186 107 [some (.ref 43), some (.long l1), none, some (.int l3), some (.int l4), some (.int l5), some (.long (l6 ||| r1)), none, some (.int (l8 + (1 : Int32))), none, none, none, none] [] (wv x I1 J1) (rV x Q)))))))) ∧ (¬ l8 < (9 : Int32) → (((0 : Int32) < l4 → (¬ mOut (1 : Int32) 681 ∧ (¬ mOut (((6 : Int32) + l3) - (I 45 ((1 : Int32).toNatClampNeg))) 681 ∧ (((I 45 ((((6 : Int32) + l3) - (I 45 ((1 : Int32).toNatClampNeg))).toNatClampNeg)) = (0 : Int32) → wp S (d + 1) 186 190 [some (.ref 43), some (.long l1), none, some (.int l3), some (.int l4), some (.int l5), some (.long l6), none, some (.long (0 : Int64)), none, some (.int (1 : Int32)), some (.int (1 : Int32)), none] [] (wv x I J) (rV x Q)) ∧ (¬ (I 45 ((((6 : Int32) + l3) - (I 45 ((1 : Int32).toNatClampNeg))).toNatClampNeg)) = (0 : Int32) → wp S (d + 1) 186 190 [some (.ref 43), some (.long l1), none, some (.int l3), some (.int l4), some (.int l5), some (.long l6), none, some (.long (0 : Int64)), none, some (.int (0 : Int32)), some (.int (1 : Int32)), none] [] (wv x I J) (rV x Q)))))) ∧ (¬ (0 : Int32) < l4 → wp S (d + 1) 186 190 [some (.ref 43), some (.long l1), none, some (.int l3), some (.int l4), some (.int l5), some (.long l6), none, some (.long (0 : Int64)), none, some (.int (0 : Int32)), some (.int (1 : Int32)), none] [] (wv x I J) (rV x Q)))))) : wp S (d + 1) 186 107 [some (.ref 43), some (.long l1), none, some (.int l3), some (.int l4), some (.int l5), some (.long l6), none, some (.int l8), none, none, none, none] [] (wv x I J) (rV x Q) := by
  refine wp_seg (C := gC186) (pc1 := 111) (Lo1 := [some (.ref 43), some (.long l1), none, some (.int l3), some (.int l4), some (.int l5), some (.long l6), none, some (.int l8), none, none, none, none]) (st1' := [.int (9 : Int32), .int l8]) (w1 := (wv x I J)) hC186 2 rfl ?_
  refine wj_ge (tgt := 153) rfl rfl (fun h => ?_) (fun h => ?_)
  · have k := k.1 h
    refine wp_seg (C := gC186) (pc1 := 117) (Lo1 := [some (.ref 43), some (.long l1), none, some (.int l3), some (.int l4), some (.int l5), some (.long l6), none, some (.int l8), none, none, none, none]) (st1' := [.int (4 : Int32), .int l8]) (w1 := (wv x I J)) hC186 2 rfl ?_
    refine wj_eq (tgt := 147) rfl rfl (fun h => ?_) (fun h => ?_)
    · have k := k.1 h
      refine wp_seg (C := gC186) (pc1 := 107) (Lo1 := [some (.ref 43), some (.long l1), none, some (.int l3), some (.int l4), some (.int l5), some (.long l6), none, some (.int (l8 + (1 : Int32))), none, none, none, none]) (st1' := []) (w1 := (wv x I J)) hC186 2 rfl ?_
      exact k
    · have k := k.2 h
      refine wp_seg (C := gC186) (pc1 := 128) (Lo1 := [some (.ref 43), some (.long l1), none, some (.int l3), some (.int l4), some (.int l5), some (.long l6), none, some (.int l8), none, none, none, none]) (st1' := [.int (3 : Int32), .int l8, .int l4, .ref 43, .long l6]) (w1 := (wv x I J)) hC186 5 rfl ?_
      refine wd_i rfl k.1 ?_
      have k := k.2
      refine wp_seg (C := gC186) (pc1 := 137) (Lo1 := [some (.ref 43), some (.long l1), none, some (.int l3), some (.int l4), some (.int l5), some (.long l6), none, some (.int l8), none, none, none, none]) (st1' := [.int (3 : Int32), .int l8, .int l5, .int ((l4 + (l8 / (3 : Int32))) - (1 : Int32)), .ref 43, .long l6]) (w1 := (wv x I J)) hC186 6 rfl ?_
      refine wd_r rfl k.1 ?_
      have k := k.2
      refine wp_seg (C := gC186) (pc1 := 141) (Lo1 := [some (.ref 43), some (.long l1), none, some (.int l3), some (.int l4), some (.int l5), some (.long l6), none, some (.int l8), none, none, none, none]) (st1' := [.int ((l5 + (l8 - l8 / (3 : Int32) * (3 : Int32))) - (1 : Int32)), .int ((l4 + (l8 / (3 : Int32))) - (1 : Int32)), .ref 43, .long l6]) (w1 := (wv x I J)) hC186 3 rfl ?_
      refine cv_J (mj := 185) (a := 43) (as := [.int ((l4 + (l8 / (3 : Int32))) - (1 : Int32)), .int ((l5 + (l8 - l8 / (3 : Int32) * (3 : Int32))) - (1 : Int32))]) (r := [.long l6]) rfl rfl rfl ⟨rfl, by decide, Nat.le_of_ble_eq_true rfl, Nat.le_of_ble_eq_true rfl⟩ rfl (wcJ_mono k (fun r1 I1 J1 k => ?_))
      refine wp_seg (C := gC186) (pc1 := 150) (Lo1 := [some (.ref 43), some (.long l1), none, some (.int l3), some (.int l4), some (.int l5), some (.long (l6 ||| r1)), none, some (.int (l8 + (1 : Int32))), none, none, none, none]) (st1' := []) (w1 := (wv x I1 J1)) hC186 3 rfl ?_
      refine wp_seg (C := gC186) (pc1 := 107) (Lo1 := [some (.ref 43), some (.long l1), none, some (.int l3), some (.int l4), some (.int l5), some (.long (l6 ||| r1)), none, some (.int (l8 + (1 : Int32))), none, none, none, none]) (st1' := []) (w1 := (wv x I1 J1)) hC186 1 rfl ?_
      exact k
  · have k := k.2 h
    refine wp_seg (C := gC186) (pc1 := 158) (Lo1 := [some (.ref 43), some (.long l1), none, some (.int l3), some (.int l4), some (.int l5), some (.long l6), none, some (.long (0 : Int64)), none, none, none, none]) (st1' := [.int l4]) (w1 := (wv x I J)) hC186 3 rfl ?_
    refine wi_le (tgt := 184) rfl rfl (fun h => ?_) (fun h => ?_)
    · have k := k.1 h
      refine wp_seg (C := gC186) (pc1 := 174) (Lo1 := [some (.ref 43), some (.long l1), none, some (.int l3), some (.int l4), some (.int l5), some (.long l6), none, some (.long (0 : Int64)), none, none, none, none]) (st1' := [.int (1 : Int32), .ref 45, .int ((6 : Int32) + l3), .ref 45]) (w1 := (wv x I J)) hC186 8 rfl ?_
      refine wa_i (n := 681) rfl (by decide) rfl k.1 ?_
      have k := k.2
      refine wp_seg (C := gC186) (pc1 := 176) (Lo1 := [some (.ref 43), some (.long l1), none, some (.int l3), some (.int l4), some (.int l5), some (.long l6), none, some (.long (0 : Int64)), none, none, none, none]) (st1' := [.int (((6 : Int32) + l3) - (I 45 ((1 : Int32).toNatClampNeg))), .ref 45]) (w1 := (wv x I J)) hC186 1 rfl ?_
      refine wa_i (n := 681) rfl (by decide) rfl k.1 ?_
      have k := k.2
      refine wi_ne (tgt := 184) rfl rfl (fun h => ?_) (fun h => ?_)
      · have k := k.1 h
        refine wp_seg (C := gC186) (pc1 := 190) (Lo1 := [some (.ref 43), some (.long l1), none, some (.int l3), some (.int l4), some (.int l5), some (.long l6), none, some (.long (0 : Int64)), none, some (.int (1 : Int32)), some (.int (1 : Int32)), none]) (st1' := []) (w1 := (wv x I J)) hC186 5 rfl ?_
        exact k
      · have k := k.2 h
        refine wp_seg (C := gC186) (pc1 := 190) (Lo1 := [some (.ref 43), some (.long l1), none, some (.int l3), some (.int l4), some (.int l5), some (.long l6), none, some (.long (0 : Int64)), none, some (.int (0 : Int32)), some (.int (1 : Int32)), none]) (st1' := []) (w1 := (wv x I J)) hC186 4 rfl ?_
        exact k
    · have k := k.2 h
      refine wp_seg (C := gC186) (pc1 := 190) (Lo1 := [some (.ref 43), some (.long l1), none, some (.int l3), some (.int l4), some (.int l5), some (.long l6), none, some (.long (0 : Int64)), none, some (.int (0 : Int32)), some (.int (1 : Int32)), none]) (st1' := []) (w1 := (wv x I J)) hC186 4 rfl ?_
      exact k
