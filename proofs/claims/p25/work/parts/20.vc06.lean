set_option maxRecDepth 20000 in
theorem v224_43_53 {S : Nat × (Nat → Int32)} {d : Nat} {x : mX} {I : rI0} {J : rJ0} {l1 : Int32} {Q : Int32 → rI0 → rJ0 → Prop} (k : ((l1 < (I 43 47) → (¬ mOut l1 8 ∧ wp S (d + 1) 224 70 [some (.ref 43), some (.int l1), some (.int (0 : Int32)), none] [] (wv x I (mSet J 59 l1.toNatClampNeg (0 : Int64))) (rI x Q))) ∧ (¬ l1 < (I 43 47) → (wcJ S d 223 [.int (I 43 47)] x (mSet I 43 52 (I 43 47)) J (fun r1 I1 J1 => (¬ mOut (((1 : Int32) <<< (I1 43 47 &&& 31)) - (1 : Int32)) 256 ∧ Q (I1 58 ((((1 : Int32) <<< (I1 43 47 &&& 31)) - (1 : Int32)).toNatClampNeg)) I1 (mSet J1 43 53 r1))))))) : wp S (d + 1) 224 53 [some (.ref 43), some (.int l1), none, none] [] (wv x I J) (rI x Q) := by
  refine wp_seg (C := gC224) (pc1 := 58) (Lo1 := [some (.ref 43), some (.int l1), none, none]) (st1' := [.int (I 43 47), .int l1]) (w1 := (wv x I J)) hC224 3 rfl ?_
  refine wj_ge (tgt := 153) rfl rfl (fun h => ?_) (fun h => ?_)
  · have k := k.1 h
    refine wp_seg (C := gC224) (pc1 := 67) (Lo1 := [some (.ref 43), some (.int l1), none, none]) (st1' := [.long (0 : Int64), .int l1, .ref 59]) (w1 := (wv x I J)) hC224 4 rfl ?_
    refine ws_l (n := 8) rfl rfl k.1 ?_
    have k := k.2
    refine wp_seg (C := gC224) (pc1 := 70) (Lo1 := [some (.ref 43), some (.int l1), some (.int (0 : Int32)), none]) (st1' := []) (w1 := (wv x I (mSet J 59 l1.toNatClampNeg (0 : Int64)))) hC224 2 rfl ?_
    exact k
  · have k := k.2 h
    refine wp_seg (C := gC224) (pc1 := 166) (Lo1 := [some (.ref 43), some (.int l1), none, none]) (st1' := [.int (I 43 47), .ref 43]) (w1 := (wv x (mSet I 43 52 (I 43 47)) J)) hC224 7 rfl ?_
    refine cs_J (mj := 223) (nn := 0) (as := [.int (I 43 47)]) (r := [.ref 43]) rfl rfl rfl ⟨rfl, by decide, Nat.le_of_ble_eq_true rfl, Nat.le_of_ble_eq_true rfl⟩ (by decide) (wcJ_mono k (fun r1 I1 J1 k => ?_))
    refine wp_seg (C := gC224) (pc1 := 184) (Lo1 := [some (.ref 43), some (.int l1), none, none]) (st1' := [.int (((1 : Int32) <<< (I1 43 47 &&& 31)) - (1 : Int32)), .ref 58]) (w1 := (wv x I1 (mSet J1 43 53 r1))) hC224 9 rfl ?_
    refine wa_i (n := 256) rfl (by decide) rfl k.1 ?_
    have k := k.2
    exact we_i rfl rfl k
set_option maxRecDepth 20000 in
theorem v224_43_70 {S : Nat × (Nat → Int32)} {d : Nat} {x : mX} {I : rI0} {J : rJ0} {l1 : Int32} {l2 : Int32} {Q : Int32 → rI0 → rJ0 → Prop} (k : ((l2 < ((1 : Int32) <<< (I 43 47 &&& 31)) → (wcI S d 152 [.int l2, .int l1] x I J (fun r1 I1 J1 => ((r1 = (0 : Int32) → (wcI S d 154 [.long l2.toInt64] x I1 J1 (fun r2 I2 J2 => (¬ mOut l1 8 ∧ (wcJ S d 223 [.int r2] x I2 J2 (fun r3 I3 J3 => (wcJ S d 223 [.int (((I3 43 47) - (1 : Int32)) - r2)] x I3 J3 (fun r4 I4 J4 => (¬ mOut (l2 ||| ((1 : Int32) <<< (l1 &&& 31))) 256 ∧ (¬ mOut l2 256 ∧ (¬ mOut l1 8 ∧ wp S (d + 1) 224 70 [some (.ref 43), some (.int l1), some (.int (l2 + (1 : Int32))), none] [] (wv x I4 (mSet J4 59 l1.toNatClampNeg ((J2 59 l1.toNatClampNeg) + ((r3 * r4) * (((I4 58 ((l2 ||| ((1 : Int32) <<< (l1 &&& 31))).toNatClampNeg)) - (I4 58 l2.toNatClampNeg)).toInt64))))) (rI x Q)))))))))))) ∧ (¬ r1 = (0 : Int32) → wp S (d + 1) 224 70 [some (.ref 43), some (.int l1), some (.int (l2 + (1 : Int32))), none] [] (wv x I1 J1) (rI x Q)))))) ∧ (¬ l2 < ((1 : Int32) <<< (I 43 47 &&& 31)) → wp S (d + 1) 224 53 [some (.ref 43), some (.int (l1 + (1 : Int32))), none, none] [] (wv x I J) (rI x Q)))) : wp S (d + 1) 224 70 [some (.ref 43), some (.int l1), some (.int l2), none] [] (wv x I J) (rI x Q) := by
  refine wp_seg (C := gC224) (pc1 := 77) (Lo1 := [some (.ref 43), some (.int l1), some (.int l2), none]) (st1' := [.int ((1 : Int32) <<< (I 43 47 &&& 31)), .int l2]) (w1 := (wv x I J)) hC224 5 rfl ?_
  refine wj_ge (tgt := 147) rfl rfl (fun h => ?_) (fun h => ?_)
  · have k := k.1 h
    refine wp_seg (C := gC224) (pc1 := 82) (Lo1 := [some (.ref 43), some (.int l1), some (.int l2), none]) (st1' := [.int l1, .int l2]) (w1 := (wv x I J)) hC224 2 rfl ?_
    refine cs_I (mj := 152) (nn := 0) (as := [.int l2, .int l1]) (r := []) rfl rfl rfl ⟨rfl, by decide, Nat.le_of_ble_eq_true rfl, Nat.le_of_ble_eq_true rfl⟩ (by decide) (wcI_mono k (fun r1 I1 J1 k => ?_))
    refine wi_eq (tgt := 91) rfl rfl (fun h => ?_) (fun h => ?_)
    · have k := k.1 h
      refine wp_seg (C := gC224) (pc1 := 93) (Lo1 := [some (.ref 43), some (.int l1), some (.int l2), none]) (st1' := [.long l2.toInt64]) (w1 := (wv x I1 J1)) hC224 2 rfl ?_
      refine cs_I (mj := 154) (nn := 0) (as := [.long l2.toInt64]) (r := []) rfl rfl rfl ⟨rfl, by decide, Nat.le_of_ble_eq_true rfl, Nat.le_of_ble_eq_true rfl⟩ (by decide) (wcI_mono k (fun r2 I2 J2 k => ?_))
      refine wp_seg (C := gC224) (pc1 := 103) (Lo1 := [some (.ref 43), some (.int l1), some (.int l2), some (.int r2)]) (st1' := [.int l1, .ref 59, .int l1, .ref 59]) (w1 := (wv x I2 J2)) hC224 5 rfl ?_
      refine wa_l (n := 8) rfl rfl k.1 ?_
      have k := k.2
      refine wp_seg (C := gC224) (pc1 := 105) (Lo1 := [some (.ref 43), some (.int l1), some (.int l2), some (.int r2)]) (st1' := [.int r2, .long (J2 59 l1.toNatClampNeg), .int l1, .ref 59]) (w1 := (wv x I2 J2)) hC224 1 rfl ?_
      refine cs_J (mj := 223) (nn := 0) (as := [.int r2]) (r := [.long (J2 59 l1.toNatClampNeg), .int l1, .ref 59]) rfl rfl rfl ⟨rfl, by decide, Nat.le_of_ble_eq_true rfl, Nat.le_of_ble_eq_true rfl⟩ (by decide) (wcJ_mono k (fun r3 I3 J3 k => ?_))
      refine wp_seg (C := gC224) (pc1 := 116) (Lo1 := [some (.ref 43), some (.int l1), some (.int l2), some (.int r2)]) (st1' := [.int (((I3 43 47) - (1 : Int32)) - r2), .long r3, .long (J2 59 l1.toNatClampNeg), .int l1, .ref 59]) (w1 := (wv x I3 J3)) hC224 6 rfl ?_
      refine cs_J (mj := 223) (nn := 0) (as := [.int (((I3 43 47) - (1 : Int32)) - r2)]) (r := [.long r3, .long (J2 59 l1.toNatClampNeg), .int l1, .ref 59]) rfl rfl rfl ⟨rfl, by decide, Nat.le_of_ble_eq_true rfl, Nat.le_of_ble_eq_true rfl⟩ (by decide) (wcJ_mono k (fun r4 I4 J4 k => ?_))
      refine wp_seg (C := gC224) (pc1 := 129) (Lo1 := [some (.ref 43), some (.int l1), some (.int l2), some (.int r2)]) (st1' := [.int (l2 ||| ((1 : Int32) <<< (l1 &&& 31))), .ref 58, .long (r3 * r4), .long (J2 59 l1.toNatClampNeg), .int l1, .ref 59]) (w1 := (wv x I4 J4)) hC224 8 rfl ?_
      refine wa_i (n := 256) rfl (by decide) rfl k.1 ?_
      have k := k.2
      refine wp_seg (C := gC224) (pc1 := 135) (Lo1 := [some (.ref 43), some (.int l1), some (.int l2), some (.int r2)]) (st1' := [.int l2, .ref 58, .int (I4 58 ((l2 ||| ((1 : Int32) <<< (l1 &&& 31))).toNatClampNeg)), .long (r3 * r4), .long (J2 59 l1.toNatClampNeg), .int l1, .ref 59]) (w1 := (wv x I4 J4)) hC224 3 rfl ?_
      refine wa_i (n := 256) rfl (by decide) rfl k.1 ?_
      have k := k.2
      refine wp_seg (C := gC224) (pc1 := 140) (Lo1 := [some (.ref 43), some (.int l1), some (.int l2), some (.int r2)]) (st1' := [.long ((J2 59 l1.toNatClampNeg) + ((r3 * r4) * (((I4 58 ((l2 ||| ((1 : Int32) <<< (l1 &&& 31))).toNatClampNeg)) - (I4 58 l2.toNatClampNeg)).toInt64))), .int l1, .ref 59]) (w1 := (wv x I4 J4)) hC224 4 rfl ?_
      refine ws_l (n := 8) rfl rfl k.1 ?_
      have k := k.2
      refine wp_seg (C := gC224) (pc1 := 70) (Lo1 := [some (.ref 43), some (.int l1), some (.int (l2 + (1 : Int32))), some (.int r2)]) (st1' := []) (w1 := (wv x I4 (mSet J4 59 l1.toNatClampNeg ((J2 59 l1.toNatClampNeg) + ((r3 * r4) * (((I4 58 ((l2 ||| ((1 : Int32) <<< (l1 &&& 31))).toNatClampNeg)) - (I4 58 l2.toNatClampNeg)).toInt64)))))) hC224 2 rfl ?_
      exact wp_sub (Lo := [some (.ref 43), some (.int l1), some (.int (l2 + (1 : Int32))), none]) (And.intro rfl (And.intro rfl (And.intro rfl (trivial)))) k
    · have k := k.2 h
      refine wp_seg (C := gC224) (pc1 := 70) (Lo1 := [some (.ref 43), some (.int l1), some (.int (l2 + (1 : Int32))), none]) (st1' := []) (w1 := (wv x I1 J1)) hC224 3 rfl ?_
      exact k
  · have k := k.2 h
    refine wp_seg (C := gC224) (pc1 := 53) (Lo1 := [some (.ref 43), some (.int (l1 + (1 : Int32))), some (.int l2), none]) (st1' := []) (w1 := (wv x I J)) hC224 2 rfl ?_
    exact wp_sub (Lo := [some (.ref 43), some (.int (l1 + (1 : Int32))), none, none]) (And.intro rfl (And.intro rfl (trivial))) k
set_option maxRecDepth 20000 in
theorem v225_43_0 {S : Nat × (Nat → Int32)} {d : Nat} {x : mX} {I : rI0} {J : rJ0} {p1 : Int32} {p2 : Int32} {Q : Int32 → rI0 → rJ0 → Prop} (k : (wcI S d 151 [.int p1, .int (0 : Int32), .int ((I 43 52) - (1 : Int32))] x I J (fun r1 I1 J1 => ((r1 = (0 : Int32) → wp S (d + 1) 225 29 [some (.ref 43), some (.int p1), some (.int p2), none, none, none, none, none, none] [.int (1 : Int32), .ref 43] (wv x I1 J1) (rI x Q)) ∧ (¬ r1 = (0 : Int32) → (wcI S d 151 [.int p2, .int (0 : Int32), .int (1 : Int32)] x I1 J1 (fun r2 I2 J2 => ((r2 = (0 : Int32) → wp S (d + 1) 225 29 [some (.ref 43), some (.int p1), some (.int p2), none, none, none, none, none, none] [.int (1 : Int32), .ref 43] (wv x I2 J2) (rI x Q)) ∧ (¬ r2 = (0 : Int32) → wp S (d + 1) 225 29 [some (.ref 43), some (.int p1), some (.int p2), none, none, none, none, none, none] [.int (0 : Int32), .ref 43] (wv x I2 J2) (rI x Q)))))))))) : wp S (d + 1) 225 0 [some (.ref 43), some (.int p1), some (.int p2), none, none, none, none, none, none] [] (wv x I J) (rI x Q) := by
  refine wp_seg (C := gC225) (pc1 := 9) (Lo1 := [some (.ref 43), some (.int p1), some (.int p2), none, none, none, none, none, none]) (st1' := [.int ((I 43 52) - (1 : Int32)), .int (0 : Int32), .int p1, .ref 43]) (w1 := (wv x I J)) hC225 7 rfl ?_
  refine cs_I (mj := 151) (nn := 0) (as := [.int p1, .int (0 : Int32), .int ((I 43 52) - (1 : Int32))]) (r := [.ref 43]) rfl rfl rfl ⟨rfl, by decide, Nat.le_of_ble_eq_true rfl, Nat.le_of_ble_eq_true rfl⟩ (by decide) (wcI_mono k (fun r1 I1 J1 k => ?_))
  refine wi_eq (tgt := 24) rfl rfl (fun h => ?_) (fun h => ?_)
  · have k := k.1 h
    refine wp_seg (C := gC225) (pc1 := 29) (Lo1 := [some (.ref 43), some (.int p1), some (.int p2), none, none, none, none, none, none]) (st1' := [.int (1 : Int32), .ref 43]) (w1 := (wv x I1 J1)) hC225 2 rfl ?_
    exact k
  · have k := k.2 h
    refine wp_seg (C := gC225) (pc1 := 18) (Lo1 := [some (.ref 43), some (.int p1), some (.int p2), none, none, none, none, none, none]) (st1' := [.int (1 : Int32), .int (0 : Int32), .int p2, .ref 43]) (w1 := (wv x I1 J1)) hC225 3 rfl ?_
    refine cs_I (mj := 151) (nn := 0) (as := [.int p2, .int (0 : Int32), .int (1 : Int32)]) (r := [.ref 43]) rfl rfl rfl ⟨rfl, by decide, Nat.le_of_ble_eq_true rfl, Nat.le_of_ble_eq_true rfl⟩ (by decide) (wcI_mono k (fun r2 I2 J2 k => ?_))
    refine wi_ne (tgt := 28) rfl rfl (fun h => ?_) (fun h => ?_)
    · have k := k.1 h
      refine wp_seg (C := gC225) (pc1 := 29) (Lo1 := [some (.ref 43), some (.int p1), some (.int p2), none, none, none, none, none, none]) (st1' := [.int (1 : Int32), .ref 43]) (w1 := (wv x I2 J2)) hC225 2 rfl ?_
      exact k
    · have k := k.2 h
      refine wp_seg (C := gC225) (pc1 := 29) (Lo1 := [some (.ref 43), some (.int p1), some (.int p2), none, none, none, none, none, none]) (st1' := [.int (0 : Int32), .ref 43]) (w1 := (wv x I2 J2)) hC225 1 rfl ?_
      exact k
set_option maxRecDepth 20000 in
theorem v225_43_29 {S : Nat × (Nat → Int32)} {d : Nat} {x : mX} {I : rI0} {J : rJ0} {l1 : Int32} {l2 : Int32} {s1 : Int32} {Q : Int32 → rI0 → rJ0 → Prop} (k : (wcI S d 146 [.ref 43, .int s1] x I J (fun r1 I1 J1 => ((r1 = (0 : Int32) → (¬ mOut l1 8 ∧ (((lg_cmp (J1 59 l1.toNatClampNeg) (0 : Int64)) < (0 : Int32) → (¬ mOut l1 8 ∧ wp S (d + 1) 225 71 [some (.ref 43), some (.int l1), some (.int l2), some (.long (-(J1 59 l1.toNatClampNeg))), none, some (.long (J1 43 53)), none, none, none] [] (wv x I1 J1) (rI x Q))) ∧ (¬ (lg_cmp (J1 59 l1.toNatClampNeg) (0 : Int64)) < (0 : Int32) → (¬ mOut l1 8 ∧ wp S (d + 1) 225 71 [some (.ref 43), some (.int l1), some (.int l2), some (.long (J1 59 l1.toNatClampNeg)), none, some (.long (J1 43 53)), none, none, none] [] (wv x I1 J1) (rI x Q)))))) ∧ (¬ r1 = (0 : Int32) → Q (0 : Int32) I1 J1))))) : wp S (d + 1) 225 29 [some (.ref 43), some (.int l1), some (.int l2), none, none, none, none, none, none] [.int s1, .ref 43] (wv x I J) (rI x Q) := by
  refine cv_I (mj := 146) (a := 43) (as := [.int s1]) (r := []) rfl rfl rfl ⟨rfl, by decide, Nat.le_of_ble_eq_true rfl, Nat.le_of_ble_eq_true rfl⟩ rfl (wcI_mono k (fun r1 I1 J1 k => ?_))
  refine wi_eq (tgt := 37) rfl rfl (fun h => ?_) (fun h => ?_)
  · have k := k.1 h
    refine wp_seg (C := gC225) (pc1 := 42) (Lo1 := [some (.ref 43), some (.int l1), some (.int l2), none, none, none, none, none, none]) (st1' := [.int l1, .ref 59]) (w1 := (wv x I1 J1)) hC225 3 rfl ?_
    refine wa_l (n := 8) rfl rfl k.1 ?_
    have k := k.2
    refine wp_seg (C := gC225) (pc1 := 45) (Lo1 := [some (.ref 43), some (.int l1), some (.int l2), none, none, none, none, none, none]) (st1' := [.int (lg_cmp (J1 59 l1.toNatClampNeg) (0 : Int64))]) (w1 := (wv x I1 J1)) hC225 2 rfl ?_
    refine wi_ge (tgt := 58) rfl rfl (fun h => ?_) (fun h => ?_)
    · have k := k.1 h
      refine wp_seg (C := gC225) (pc1 := 53) (Lo1 := [some (.ref 43), some (.int l1), some (.int l2), none, none, none, none, none, none]) (st1' := [.int l1, .ref 59]) (w1 := (wv x I1 J1)) hC225 3 rfl ?_
      refine wa_l (n := 8) rfl rfl k.1 ?_
      have k := k.2
      refine wp_seg (C := gC225) (pc1 := 71) (Lo1 := [some (.ref 43), some (.int l1), some (.int l2), some (.long (-(J1 59 l1.toNatClampNeg))), none, some (.long (J1 43 53)), none, none, none]) (st1' := []) (w1 := (wv x I1 J1)) hC225 6 rfl ?_
      exact k
    · have k := k.2 h
      refine wp_seg (C := gC225) (pc1 := 63) (Lo1 := [some (.ref 43), some (.int l1), some (.int l2), none, none, none, none, none, none]) (st1' := [.int l1, .ref 59]) (w1 := (wv x I1 J1)) hC225 3 rfl ?_
      refine wa_l (n := 8) rfl rfl k.1 ?_
      have k := k.2
      refine wp_seg (C := gC225) (pc1 := 71) (Lo1 := [some (.ref 43), some (.int l1), some (.int l2), some (.long (J1 59 l1.toNatClampNeg)), none, some (.long (J1 43 53)), none, none, none]) (st1' := []) (w1 := (wv x I1 J1)) hC225 4 rfl ?_
      exact k
  · have k := k.2 h
    refine wp_seg (C := gC225) (pc1 := 36) (Lo1 := [some (.ref 43), some (.int l1), some (.int l2), none, none, none, none, none, none]) (st1' := [.int (0 : Int32)]) (w1 := (wv x I1 J1)) hC225 1 rfl ?_
    exact we_i rfl rfl k
set_option maxRecDepth 20000 in
theorem v225_43_71 {S : Nat × (Nat → Int32)} {d : Nat} {x : mX} {I : rI0} {J : rJ0} {l1 : Int32} {l2 : Int32} {l3 : Int64} {l5 : Int64} {Q : Int32 → rI0 → rJ0 → Prop} (k : (((lg_cmp l3 (0 : Int64)) = (0 : Int32) → ((l2 = (0 : Int32) → (¬ mOut l1 8 ∧ (¬ l5 = 0 ∧ Q (((J 59 l1.toNatClampNeg) / l5).toInt32) I J))) ∧ (¬ l2 = (0 : Int32) → (¬ l5 = 0 ∧ Q (((J 43 53) / l5).toInt32) I J)))) ∧ (¬ (lg_cmp l3 (0 : Int64)) = (0 : Int32) → (¬ l3 = 0 ∧ wp S (d + 1) 225 71 [some (.ref 43), some (.int l1), some (.int l2), some (.long (l5 - l5 / l3 * l3)), none, some (.long l3), none, none, none] [] (wv x I J) (rI x Q))))) : wp S (d + 1) 225 71 [some (.ref 43), some (.int l1), some (.int l2), some (.long l3), none, some (.long l5), none, none, none] [] (wv x I J) (rI x Q) := by
  refine wp_seg (C := gC225) (pc1 := 74) (Lo1 := [some (.ref 43), some (.int l1), some (.int l2), some (.long l3), none, some (.long l5), none, none, none]) (st1' := [.int (lg_cmp l3 (0 : Int64))]) (w1 := (wv x I J)) hC225 3 rfl ?_
  refine wi_eq (tgt := 92) rfl rfl (fun h => ?_) (fun h => ?_)
  · have k := k.1 h
    refine wp_seg (C := gC225) (pc1 := 93) (Lo1 := [some (.ref 43), some (.int l1), some (.int l2), some (.long l3), none, some (.long l5), none, none, none]) (st1' := [.int l2]) (w1 := (wv x I J)) hC225 1 rfl ?_
    refine wi_ne (tgt := 105) rfl rfl (fun h => ?_) (fun h => ?_)
    · have k := k.1 h
      refine wp_seg (C := gC225) (pc1 := 101) (Lo1 := [some (.ref 43), some (.int l1), some (.int l2), some (.long l3), none, some (.long l5), none, none, none]) (st1' := [.int l1, .ref 59]) (w1 := (wv x I J)) hC225 3 rfl ?_
      refine wa_l (n := 8) rfl rfl k.1 ?_
      have k := k.2
      refine wp_seg (C := gC225) (pc1 := 111) (Lo1 := [some (.ref 43), some (.int l1), some (.int l2), some (.long l3), none, some (.long l5), none, none, none]) (st1' := [.long l5, .long (J 59 l1.toNatClampNeg)]) (w1 := (wv x I J)) hC225 2 rfl ?_
      refine wd_l rfl k.1 ?_
      have k := k.2
      refine wp_seg (C := gC225) (pc1 := 113) (Lo1 := [some (.ref 43), some (.int l1), some (.int l2), some (.long l3), none, some (.long l5), none, none, none]) (st1' := [.int (((J 59 l1.toNatClampNeg) / l5).toInt32)]) (w1 := (wv x I J)) hC225 1 rfl ?_
      exact we_i rfl rfl k
    · have k := k.2 h
      refine wp_seg (C := gC225) (pc1 := 111) (Lo1 := [some (.ref 43), some (.int l1), some (.int l2), some (.long l3), none, some (.long l5), none, none, none]) (st1' := [.long l5, .long (J 43 53)]) (w1 := (wv x I J)) hC225 3 rfl ?_
      refine wd_l rfl k.1 ?_
      have k := k.2
      refine wp_seg (C := gC225) (pc1 := 113) (Lo1 := [some (.ref 43), some (.int l1), some (.int l2), some (.long l3), none, some (.long l5), none, none, none]) (st1' := [.int (((J 43 53) / l5).toInt32)]) (w1 := (wv x I J)) hC225 1 rfl ?_
      exact we_i rfl rfl k
  · have k := k.2 h
    refine wp_seg (C := gC225) (pc1 := 80) (Lo1 := [some (.ref 43), some (.int l1), some (.int l2), some (.long l3), none, some (.long l5), none, none, none]) (st1' := [.long l3, .long l5]) (w1 := (wv x I J)) hC225 2 rfl ?_
    refine wd_m rfl k.1 ?_
    have k := k.2
    refine wp_seg (C := gC225) (pc1 := 86) (Lo1 := [some (.ref 43), some (.int l1), some (.int l2), some (.long l3), none, some (.long l3), none, some (.long (l5 - l5 / l3 * l3)), none]) (st1' := []) (w1 := (wv x I J)) hC225 3 rfl ?_
    refine wp_seg (C := gC225) (pc1 := 71) (Lo1 := [some (.ref 43), some (.int l1), some (.int l2), some (.long (l5 - l5 / l3 * l3)), none, some (.long l3), none, some (.long (l5 - l5 / l3 * l3)), none]) (st1' := []) (w1 := (wv x I J)) hC225 3 rfl ?_
    exact wp_sub (Lo := [some (.ref 43), some (.int l1), some (.int l2), some (.long (l5 - l5 / l3 * l3)), none, some (.long l3), none, none, none]) (And.intro rfl (And.intro rfl (And.intro rfl (And.intro rfl (And.intro rfl (trivial)))))) k
set_option maxRecDepth 20000 in
theorem v226_43_0 {S : Nat × (Nat → Int32)} {d : Nat} {x : mX} {I : rI0} {J : rJ0} {Q : Int32 → rI0 → rJ0 → Prop} (k : (wcV S d 150 [.ref 43, .int (940 : Int32)] x (mSet I 43 0 (0 : Int32)) J (fun I1 J1 => (((I1 43 3) = (0 : Int32) → wp S (d + 1) 226 28 [some (.ref 43), none, none, none, none, none, none, none, none] [.int (0 : Int32)] (wv x I1 J1) (rI x Q)) ∧ (¬ (I1 43 3) = (0 : Int32) → (wcI S d 155 [.ref 43, .int (0 : Int32)] x I1 J1 (fun r2 I2 J2 => wp S (d + 1) 226 28 [some (.ref 43), none, none, none, none, none, none, none, none] [.int r2] (wv x I2 J2) (rI x Q)))))))) : wp S (d + 1) 226 0 [some (.ref 43), none, none, none, none, none, none, none, none] [] (wv x I J) (rI x Q) := by
  refine wp_seg (C := gC226) (pc1 := 9) (Lo1 := [some (.ref 43), none, none, none, none, none, none, none, none]) (st1' := [.int (940 : Int32), .ref 43]) (w1 := (wv x (mSet I 43 0 (0 : Int32)) J)) hC226 5 rfl ?_
  refine cv_V (mj := 150) (a := 43) (as := [.int (940 : Int32)]) (r := []) rfl rfl rfl ⟨rfl, by decide, Nat.le_of_ble_eq_true rfl, Nat.le_of_ble_eq_true rfl⟩ rfl (wcV_mono k (fun I1 J1 k => ?_))
  refine wp_seg (C := gC226) (pc1 := 16) (Lo1 := [some (.ref 43), none, none, none, none, none, none, none, none]) (st1' := [.int (I1 43 3)]) (w1 := (wv x I1 J1)) hC226 2 rfl ?_
  refine wi_ne (tgt := 23) rfl rfl (fun h => ?_) (fun h => ?_)
  · have k := k.1 h
    refine wp_seg (C := gC226) (pc1 := 28) (Lo1 := [some (.ref 43), none, none, none, none, none, none, none, none]) (st1' := [.int (0 : Int32)]) (w1 := (wv x I1 J1)) hC226 2 rfl ?_
    exact k
  · have k := k.2 h
    refine wp_seg (C := gC226) (pc1 := 25) (Lo1 := [some (.ref 43), none, none, none, none, none, none, none, none]) (st1' := [.int (0 : Int32), .ref 43]) (w1 := (wv x I1 J1)) hC226 2 rfl ?_
    refine cv_I (mj := 155) (a := 43) (as := [.int (0 : Int32)]) (r := []) rfl rfl rfl ⟨rfl, by decide, Nat.le_of_ble_eq_true rfl, Nat.le_of_ble_eq_true rfl⟩ rfl (wcI_mono k (fun r2 I2 J2 k => ?_))
    exact k
set_option maxRecDepth 20000 in
theorem v226_43_28 {S : Nat × (Nat → Int32)} {d : Nat} {x : mX} {I : rI0} {J : rJ0} {s0 : Int32} {Q : Int32 → rI0 → rJ0 → Prop} (k : (wcI S d 151 [.int s0, .int (1 : Int32), .int (6 : Int32)] x I J (fun r1 I1 J1 => ((r1 = (0 : Int32) → Q (-1 : Int32) I1 J1) ∧ (¬ r1 = (0 : Int32) → (wcI S d 151 [.int (((I1 43 3) - (1 : Int32)) - s0), .int (1 : Int32), .int (6 : Int32)] x I1 J1 (fun r2 I2 J2 => ((r2 = (0 : Int32) → Q (-1 : Int32) I2 J2) ∧ (¬ r2 = (0 : Int32) → (wcI S d 216 [.ref 43, .int (1 : Int32), .int (I2 43 3)] x I2 J2 (fun r3 I3 J3 => ((r3 = (0 : Int32) → Q (-1 : Int32) I3 J3) ∧ (¬ r3 = (0 : Int32) → wp S (d + 1) 226 87 [some (.ref 43), some (.int s0), some (.int ((I3 43 47) - s0)), some (.int (-1 : Int32)), some (.int (1000000000 : Int32)), some (.int (0 : Int32)), none, none, none] [] (wv x I3 J3) (rI x Q)))))))))))))) : wp S (d + 1) 226 28 [some (.ref 43), none, none, none, none, none, none, none, none] [.int s0] (wv x I J) (rI x Q) := by
  refine wp_seg (C := gC226) (pc1 := 33) (Lo1 := [some (.ref 43), some (.int s0), none, none, none, none, none, none, none]) (st1' := [.int (6 : Int32), .int (1 : Int32), .int s0]) (w1 := (wv x I J)) hC226 4 rfl ?_
  refine cs_I (mj := 151) (nn := 0) (as := [.int s0, .int (1 : Int32), .int (6 : Int32)]) (r := []) rfl rfl rfl ⟨rfl, by decide, Nat.le_of_ble_eq_true rfl, Nat.le_of_ble_eq_true rfl⟩ (by decide) (wcI_mono k (fun r1 I1 J1 k => ?_))
  refine wi_eq (tgt := 68) rfl rfl (fun h => ?_) (fun h => ?_)
  · have k := k.1 h
    refine wp_seg (C := gC226) (pc1 := 69) (Lo1 := [some (.ref 43), some (.int s0), none, none, none, none, none, none, none]) (st1' := [.int (-1 : Int32)]) (w1 := (wv x I1 J1)) hC226 1 rfl ?_
    exact we_i rfl rfl k
  · have k := k.2 h
    refine wp_seg (C := gC226) (pc1 := 50) (Lo1 := [some (.ref 43), some (.int s0), none, none, none, none, none, none, none]) (st1' := [.int (6 : Int32), .int (1 : Int32), .int (((I1 43 3) - (1 : Int32)) - s0)]) (w1 := (wv x I1 J1)) hC226 8 rfl ?_
    refine cs_I (mj := 151) (nn := 0) (as := [.int (((I1 43 3) - (1 : Int32)) - s0), .int (1 : Int32), .int (6 : Int32)]) (r := []) rfl rfl rfl ⟨rfl, by decide, Nat.le_of_ble_eq_true rfl, Nat.le_of_ble_eq_true rfl⟩ (by decide) (wcI_mono k (fun r2 I2 J2 k => ?_))
    refine wi_eq (tgt := 68) rfl rfl (fun h => ?_) (fun h => ?_)
    · have k := k.1 h
      refine wp_seg (C := gC226) (pc1 := 69) (Lo1 := [some (.ref 43), some (.int s0), none, none, none, none, none, none, none]) (st1' := [.int (-1 : Int32)]) (w1 := (wv x I2 J2)) hC226 1 rfl ?_
      exact we_i rfl rfl k
    · have k := k.2 h
      refine wp_seg (C := gC226) (pc1 := 62) (Lo1 := [some (.ref 43), some (.int s0), none, none, none, none, none, none, none]) (st1' := [.int (I2 43 3), .int (1 : Int32), .ref 43]) (w1 := (wv x I2 J2)) hC226 4 rfl ?_
      refine cv_I (mj := 216) (a := 43) (as := [.int (1 : Int32), .int (I2 43 3)]) (r := []) rfl rfl rfl ⟨rfl, by decide, Nat.le_of_ble_eq_true rfl, Nat.le_of_ble_eq_true rfl⟩ rfl (wcI_mono k (fun r3 I3 J3 k => ?_))
      refine wi_ne (tgt := 70) rfl rfl (fun h => ?_) (fun h => ?_)
      · have k := k.1 h
        refine wp_seg (C := gC226) (pc1 := 69) (Lo1 := [some (.ref 43), some (.int s0), none, none, none, none, none, none, none]) (st1' := [.int (-1 : Int32)]) (w1 := (wv x I3 J3)) hC226 1 rfl ?_
        exact we_i rfl rfl k
      · have k := k.2 h
        refine wp_seg (C := gC226) (pc1 := 79) (Lo1 := [some (.ref 43), some (.int s0), some (.int ((I3 43 47) - s0)), some (.int (-1 : Int32)), none, none, none, none, none]) (st1' := []) (w1 := (wv x I3 J3)) hC226 7 rfl ?_
        refine wp_seg (C := gC226) (pc1 := 87) (Lo1 := [some (.ref 43), some (.int s0), some (.int ((I3 43 47) - s0)), some (.int (-1 : Int32)), some (.int (1000000000 : Int32)), some (.int (0 : Int32)), none, none, none]) (st1' := []) (w1 := (wv x I3 J3)) hC226 4 rfl ?_
        exact k
set_option maxRecDepth 20000 in
theorem v226_43_87 {S : Nat × (Nat → Int32)} {d : Nat} {x : mX} {I : rI0} {J : rJ0} {l1 : Int32} {l2 : Int32} {l3 : Int32} {l4 : Int32} {l5 : Int32} {Q : Int32 → rI0 → rJ0 → Prop} (k : ((l5 < l1 → wp S (d + 1) 226 101 [some (.ref 43), some (.int l1), some (.int l2), some (.int l3), some (.int l4), some (.int l5), some (.int (1000000000 : Int32)), some (.int (0 : Int32)), none] [] (wv x I J) (rI x Q)) ∧ (¬ l5 < l1 → wp S (d + 1) 226 214 [some (.ref 43), some (.int l1), some (.int l2), some (.int l3), some (.int l4), some (.int (0 : Int32)), none, none, none] [] (wv x I J) (rI x Q)))) : wp S (d + 1) 226 87 [some (.ref 43), some (.int l1), some (.int l2), some (.int l3), some (.int l4), some (.int l5), none, none, none] [] (wv x I J) (rI x Q) := by
  refine wp_seg (C := gC226) (pc1 := 90) (Lo1 := [some (.ref 43), some (.int l1), some (.int l2), some (.int l3), some (.int l4), some (.int l5), none, none, none]) (st1' := [.int l1, .int l5]) (w1 := (wv x I J)) hC226 2 rfl ?_
  refine wj_ge (tgt := 211) rfl rfl (fun h => ?_) (fun h => ?_)
  · have k := k.1 h
    refine wp_seg (C := gC226) (pc1 := 101) (Lo1 := [some (.ref 43), some (.int l1), some (.int l2), some (.int l3), some (.int l4), some (.int l5), some (.int (1000000000 : Int32)), some (.int (0 : Int32)), none]) (st1' := []) (w1 := (wv x I J)) hC226 4 rfl ?_
    exact k
  · have k := k.2 h
    refine wp_seg (C := gC226) (pc1 := 214) (Lo1 := [some (.ref 43), some (.int l1), some (.int l2), some (.int l3), some (.int l4), some (.int (0 : Int32)), none, none, none]) (st1' := []) (w1 := (wv x I J)) hC226 2 rfl ?_
    exact k
set_option maxRecDepth 20000 in
theorem v226_43_101 {S : Nat × (Nat → Int32)} {d : Nat} {x : mX} {I : rI0} {J : rJ0} {l1 : Int32} {l2 : Int32} {l3 : Int32} {l4 : Int32} {l5 : Int32} {l6 : Int32} {l7 : Int32} {Q : Int32 → rI0 → rJ0 → Prop} (k : ((l7 < l2 → (¬ mOut l5 14 ∧ (¬ mOut (l1 + l7) 14 ∧ (wcI S d 202 [.ref 43, .long ((J 43 16) ||| ((1 : Int64) <<< ((I 56 l5.toNatClampNeg).toInt64 &&& 63))), .long ((J 43 17) ||| ((1 : Int64) <<< ((I 56 ((l1 + l7).toNatClampNeg)).toInt64 &&& 63)))] x I J (fun r1 I1 J1 => (¬ mOut (((6 : Int32) * l5) + l7) 256 ∧ ((r1 < l6 → wp S (d + 1) 226 101 [some (.ref 43), some (.int l1), some (.int l2), some (.int l3), some (.int l4), some (.int l5), some (.int r1), some (.int (l7 + (1 : Int32))), none] [] (wv x (mSet I1 58 ((((6 : Int32) * l5) + l7).toNatClampNeg) r1) J1) (rI x Q)) ∧ (¬ r1 < l6 → wp S (d + 1) 226 101 [some (.ref 43), some (.int l1), some (.int l2), some (.int l3), some (.int l4), some (.int l5), some (.int l6), some (.int (l7 + (1 : Int32))), none] [] (wv x (mSet I1 58 ((((6 : Int32) * l5) + l7).toNatClampNeg) r1) J1) (rI x Q))))))))) ∧ (¬ l7 < l2 → ((l3 < l6 → (¬ mOut l5 14 ∧ (¬ mOut (1 : Int32) 3 ∧ wp S (d + 1) 226 87 [some (.ref 43), some (.int l1), some (.int l2), some (.int l6), some (.int l4), some (.int (l5 + (1 : Int32))), none, none, none] [] (wv x (mSet I 60 ((1 : Int32).toNatClampNeg) (I 56 l5.toNatClampNeg)) J) (rI x Q)))) ∧ (¬ l3 < l6 → wp S (d + 1) 226 87 [some (.ref 43), some (.int l1), some (.int l2), some (.int l3), some (.int l4), some (.int (l5 + (1 : Int32))), none, none, none] [] (wv x I J) (rI x Q)))))) : wp S (d + 1) 226 101 [some (.ref 43), some (.int l1), some (.int l2), some (.int l3), some (.int l4), some (.int l5), some (.int l6), some (.int l7), none] [] (wv x I J) (rI x Q) := by
  refine wp_seg (C := gC226) (pc1 := 104) (Lo1 := [some (.ref 43), some (.int l1), some (.int l2), some (.int l3), some (.int l4), some (.int l5), some (.int l6), some (.int l7), none]) (st1' := [.int l2, .int l7]) (w1 := (wv x I J)) hC226 2 rfl ?_
  refine wj_ge (tgt := 180) rfl rfl (fun h => ?_) (fun h => ?_)
  · have k := k.1 h
    refine wp_seg (C := gC226) (pc1 := 119) (Lo1 := [some (.ref 43), some (.int l1), some (.int l2), some (.int l3), some (.int l4), some (.int l5), some (.int l6), some (.int l7), none]) (st1' := [.int l5, .ref 56, .long (1 : Int64), .long (J 43 16), .ref 43]) (w1 := (wv x I J)) hC226 7 rfl ?_
    refine wa_i (n := 14) rfl (by decide) rfl k.1 ?_
    have k := k.2
    refine wp_seg (C := gC226) (pc1 := 135) (Lo1 := [some (.ref 43), some (.int l1), some (.int l2), some (.int l3), some (.int l4), some (.int l5), some (.int l6), some (.int l7), none]) (st1' := [.int (l1 + l7), .ref 56, .long (1 : Int64), .long (J 43 17), .long ((J 43 16) ||| ((1 : Int64) <<< ((I 56 l5.toNatClampNeg).toInt64 &&& 63))), .ref 43]) (w1 := (wv x I J)) hC226 10 rfl ?_
    refine wa_i (n := 14) rfl (by decide) rfl k.1 ?_
    have k := k.2
    refine wp_seg (C := gC226) (pc1 := 138) (Lo1 := [some (.ref 43), some (.int l1), some (.int l2), some (.int l3), some (.int l4), some (.int l5), some (.int l6), some (.int l7), none]) (st1' := [.long ((J 43 17) ||| ((1 : Int64) <<< ((I 56 ((l1 + l7).toNatClampNeg)).toInt64 &&& 63))), .long ((J 43 16) ||| ((1 : Int64) <<< ((I 56 l5.toNatClampNeg).toInt64 &&& 63))), .ref 43]) (w1 := (wv x I J)) hC226 2 rfl ?_
    refine cv_I (mj := 202) (a := 43) (as := [.long ((J 43 16) ||| ((1 : Int64) <<< ((I 56 l5.toNatClampNeg).toInt64 &&& 63))), .long ((J 43 17) ||| ((1 : Int64) <<< ((I 56 ((l1 + l7).toNatClampNeg)).toInt64 &&& 63)))]) (r := []) rfl rfl rfl ⟨rfl, by decide, Nat.le_of_ble_eq_true rfl, Nat.le_of_ble_eq_true rfl⟩ rfl (wcI_mono k (fun r1 I1 J1 k => ?_))
    refine wp_seg (C := gC226) (pc1 := 157) (Lo1 := [some (.ref 43), some (.int l1), some (.int l2), some (.int l3), some (.int l4), some (.int l5), some (.int l6), some (.int l7), some (.int r1)]) (st1' := [.int r1, .int (((6 : Int32) * l5) + l7), .ref 58]) (w1 := (wv x I1 J1)) hC226 9 rfl ?_
    refine ws_i (n := 256) rfl rfl k.1 ?_
    have k := k.2
    refine wp_seg (C := gC226) (pc1 := 162) (Lo1 := [some (.ref 43), some (.int l1), some (.int l2), some (.int l3), some (.int l4), some (.int l5), some (.int l6), some (.int l7), some (.int r1)]) (st1' := [.int l6, .int r1]) (w1 := (wv x (mSet I1 58 ((((6 : Int32) * l5) + l7).toNatClampNeg) r1) J1)) hC226 2 rfl ?_
    refine wj_ge (tgt := 170) rfl rfl (fun h => ?_) (fun h => ?_)
    · have k := k.1 h
      refine wp_seg (C := gC226) (pc1 := 177) (Lo1 := [some (.ref 43), some (.int l1), some (.int l2), some (.int l3), some (.int l4), some (.int l5), some (.int r1), some (.int (l7 + (1 : Int32))), some (.int r1)]) (st1' := []) (w1 := (wv x (mSet I1 58 ((((6 : Int32) * l5) + l7).toNatClampNeg) r1) J1)) hC226 4 rfl ?_
      refine wp_seg (C := gC226) (pc1 := 101) (Lo1 := [some (.ref 43), some (.int l1), some (.int l2), some (.int l3), some (.int l4), some (.int l5), some (.int r1), some (.int (l7 + (1 : Int32))), some (.int r1)]) (st1' := []) (w1 := (wv x (mSet I1 58 ((((6 : Int32) * l5) + l7).toNatClampNeg) r1) J1)) hC226 1 rfl ?_
      exact wp_sub (Lo := [some (.ref 43), some (.int l1), some (.int l2), some (.int l3), some (.int l4), some (.int l5), some (.int r1), some (.int (l7 + (1 : Int32))), none]) (And.intro rfl (And.intro rfl (And.intro rfl (And.intro rfl (And.intro rfl (And.intro rfl (And.intro rfl (And.intro rfl (trivial))))))))) k
    · have k := k.2 h
      refine wp_seg (C := gC226) (pc1 := 177) (Lo1 := [some (.ref 43), some (.int l1), some (.int l2), some (.int l3), some (.int l4), some (.int l5), some (.int l6), some (.int (l7 + (1 : Int32))), some (.int r1)]) (st1' := []) (w1 := (wv x (mSet I1 58 ((((6 : Int32) * l5) + l7).toNatClampNeg) r1) J1)) hC226 3 rfl ?_
      refine wp_seg (C := gC226) (pc1 := 101) (Lo1 := [some (.ref 43), some (.int l1), some (.int l2), some (.int l3), some (.int l4), some (.int l5), some (.int l6), some (.int (l7 + (1 : Int32))), some (.int r1)]) (st1' := []) (w1 := (wv x (mSet I1 58 ((((6 : Int32) * l5) + l7).toNatClampNeg) r1) J1)) hC226 1 rfl ?_
      exact wp_sub (Lo := [some (.ref 43), some (.int l1), some (.int l2), some (.int l3), some (.int l4), some (.int l5), some (.int l6), some (.int (l7 + (1 : Int32))), none]) (And.intro rfl (And.intro rfl (And.intro rfl (And.intro rfl (And.intro rfl (And.intro rfl (And.intro rfl (And.intro rfl (trivial))))))))) k
  · have k := k.2 h
    refine wp_seg (C := gC226) (pc1 := 183) (Lo1 := [some (.ref 43), some (.int l1), some (.int l2), some (.int l3), some (.int l4), some (.int l5), some (.int l6), some (.int l7), none]) (st1' := [.int l3, .int l6]) (w1 := (wv x I J)) hC226 2 rfl ?_
    refine wj_gt (tgt := 189) rfl rfl (fun h => ?_) (fun h => ?_)
    · have k := k.1 h
      refine wp_seg (C := gC226) (pc1 := 203) (Lo1 := [some (.ref 43), some (.int l1), some (.int l2), some (.int l6), some (.int l4), some (.int l5), some (.int l6), some (.int l7), none]) (st1' := [.int l5, .ref 56, .int (1 : Int32), .ref 60]) (w1 := (wv x I J)) hC226 8 rfl ?_
      refine wa_i (n := 14) rfl (by decide) rfl k.1 ?_
      have k := k.2
      refine ws_i (n := 3) rfl rfl k.1 ?_
      have k := k.2
      refine wp_seg (C := gC226) (pc1 := 87) (Lo1 := [some (.ref 43), some (.int l1), some (.int l2), some (.int l6), some (.int l4), some (.int (l5 + (1 : Int32))), some (.int l6), some (.int l7), none]) (st1' := []) (w1 := (wv x (mSet I 60 ((1 : Int32).toNatClampNeg) (I 56 l5.toNatClampNeg)) J)) hC226 2 rfl ?_
      exact wp_sub (Lo := [some (.ref 43), some (.int l1), some (.int l2), some (.int l6), some (.int l4), some (.int (l5 + (1 : Int32))), none, none, none]) (And.intro rfl (And.intro rfl (And.intro rfl (And.intro rfl (And.intro rfl (And.intro rfl (trivial))))))) k
    · have k := k.2 h
      refine wp_seg (C := gC226) (pc1 := 87) (Lo1 := [some (.ref 43), some (.int l1), some (.int l2), some (.int l3), some (.int l4), some (.int (l5 + (1 : Int32))), some (.int l6), some (.int l7), none]) (st1' := []) (w1 := (wv x I J)) hC226 3 rfl ?_
      exact wp_sub (Lo := [some (.ref 43), some (.int l1), some (.int l2), some (.int l3), some (.int l4), some (.int (l5 + (1 : Int32))), none, none, none]) (And.intro rfl (And.intro rfl (And.intro rfl (And.intro rfl (And.intro rfl (And.intro rfl (trivial))))))) k
set_option maxRecDepth 20000 in
theorem v226_43_214 {S : Nat × (Nat → Int32)} {d : Nat} {x : mX} {I : rI0} {J : rJ0} {l1 : Int32} {l2 : Int32} {l3 : Int32} {l4 : Int32} {l5 : Int32} {Q : Int32 → rI0 → rJ0 → Prop} (k : ((l5 < l2 → wp S (d + 1) 226 226 [some (.ref 43), some (.int l1), some (.int l2), some (.int l3), some (.int l4), some (.int l5), some (.int (0 : Int32)), some (.int (0 : Int32)), none] [] (wv x I J) (rI x Q)) ∧ (¬ l5 < l2 → (¬ mOut (0 : Int32) 3 ∧ Q l3 (mSet (mSet I 60 ((0 : Int32).toNatClampNeg) l4) 43 55 (1 : Int32)) J)))) : wp S (d + 1) 226 214 [some (.ref 43), some (.int l1), some (.int l2), some (.int l3), some (.int l4), some (.int l5), none, none, none] [] (wv x I J) (rI x Q) := by
  refine wp_seg (C := gC226) (pc1 := 217) (Lo1 := [some (.ref 43), some (.int l1), some (.int l2), some (.int l3), some (.int l4), some (.int l5), none, none, none]) (st1' := [.int l2, .int l5]) (w1 := (wv x I J)) hC226 2 rfl ?_
  refine wj_ge (tgt := 311) rfl rfl (fun h => ?_) (fun h => ?_)
  · have k := k.1 h
    refine wp_seg (C := gC226) (pc1 := 226) (Lo1 := [some (.ref 43), some (.int l1), some (.int l2), some (.int l3), some (.int l4), some (.int l5), some (.int (0 : Int32)), some (.int (0 : Int32)), none]) (st1' := []) (w1 := (wv x I J)) hC226 4 rfl ?_
    exact k
  · have k := k.2 h
    refine wp_seg (C := gC226) (pc1 := 318) (Lo1 := [some (.ref 43), some (.int l1), some (.int l2), some (.int l3), some (.int l4), some (.int l5), none, none, none]) (st1' := [.int l4, .int (0 : Int32), .ref 60]) (w1 := (wv x I J)) hC226 4 rfl ?_
    refine ws_i (n := 3) rfl rfl k.1 ?_
    have k := k.2
    refine wp_seg (C := gC226) (pc1 := 325) (Lo1 := [some (.ref 43), some (.int l1), some (.int l2), some (.int l3), some (.int l4), some (.int l5), none, none, none]) (st1' := [.int l3]) (w1 := (wv x (mSet (mSet I 60 ((0 : Int32).toNatClampNeg) l4) 43 55 (1 : Int32)) J)) hC226 4 rfl ?_
    exact we_i rfl rfl k
set_option maxRecDepth 20000 in
theorem v226_43_226 {S : Nat × (Nat → Int32)} {d : Nat} {x : mX} {I : rI0} {J : rJ0} {l1 : Int32} {l2 : Int32} {l3 : Int32} {l4 : Int32} {l5 : Int32} {l6 : Int32} {l7 : Int32} {Q : Int32 → rI0 → rJ0 → Prop} (k : ((l7 < l1 → (¬ mOut (((6 : Int32) * l7) + l5) 256 ∧ ((l6 < (I 58 ((((6 : Int32) * l7) + l5).toNatClampNeg)) → (¬ mOut (((6 : Int32) * l7) + l5) 256 ∧ wp S (d + 1) 226 226 [some (.ref 43), some (.int l1), some (.int l2), some (.int l3), some (.int l4), some (.int l5), some (.int (I 58 ((((6 : Int32) * l7) + l5).toNatClampNeg))), some (.int (l7 + (1 : Int32))), none] [] (wv x I J) (rI x Q))) ∧ (¬ l6 < (I 58 ((((6 : Int32) * l7) + l5).toNatClampNeg)) → wp S (d + 1) 226 226 [some (.ref 43), some (.int l1), some (.int l2), some (.int l3), some (.int l4), some (.int l5), some (.int l6), some (.int (l7 + (1 : Int32))), none] [] (wv x I J) (rI x Q))))) ∧ (¬ l7 < l1 → ((l6 < l4 → (¬ mOut (l1 + l5) 14 ∧ (¬ mOut (2 : Int32) 3 ∧ wp S (d + 1) 226 214 [some (.ref 43), some (.int l1), some (.int l2), some (.int l3), some (.int l6), some (.int (l5 + (1 : Int32))), none, none, none] [] (wv x (mSet I 60 ((2 : Int32).toNatClampNeg) (I 56 ((l1 + l5).toNatClampNeg))) J) (rI x Q)))) ∧ (¬ l6 < l4 → wp S (d + 1) 226 214 [some (.ref 43), some (.int l1), some (.int l2), some (.int l3), some (.int l4), some (.int (l5 + (1 : Int32))), none, none, none] [] (wv x I J) (rI x Q)))))) : wp S (d + 1) 226 226 [some (.ref 43), some (.int l1), some (.int l2), some (.int l3), some (.int l4), some (.int l5), some (.int l6), some (.int l7), none] [] (wv x I J) (rI x Q) := by
  refine wp_seg (C := gC226) (pc1 := 229) (Lo1 := [some (.ref 43), some (.int l1), some (.int l2), some (.int l3), some (.int l4), some (.int l5), some (.int l6), some (.int l7), none]) (st1' := [.int l1, .int l7]) (w1 := (wv x I J)) hC226 2 rfl ?_
  refine wj_ge (tgt := 276) rfl rfl (fun h => ?_) (fun h => ?_)
  · have k := k.1 h
    refine wp_seg (C := gC226) (pc1 := 244) (Lo1 := [some (.ref 43), some (.int l1), some (.int l2), some (.int l3), some (.int l4), some (.int l5), some (.int l6), some (.int l7), none]) (st1' := [.int (((6 : Int32) * l7) + l5), .ref 58]) (w1 := (wv x I J)) hC226 7 rfl ?_
    refine wa_i (n := 256) rfl (by decide) rfl k.1 ?_
    have k := k.2
    refine wp_seg (C := gC226) (pc1 := 247) (Lo1 := [some (.ref 43), some (.int l1), some (.int l2), some (.int l3), some (.int l4), some (.int l5), some (.int l6), some (.int l7), none]) (st1' := [.int l6, .int (I 58 ((((6 : Int32) * l7) + l5).toNatClampNeg))]) (w1 := (wv x I J)) hC226 1 rfl ?_
    refine wj_le (tgt := 266) rfl rfl (fun h => ?_) (fun h => ?_)
    · have k := k.1 h
      refine wp_seg (C := gC226) (pc1 := 262) (Lo1 := [some (.ref 43), some (.int l1), some (.int l2), some (.int l3), some (.int l4), some (.int l5), some (.int l6), some (.int l7), none]) (st1' := [.int (((6 : Int32) * l7) + l5), .ref 58]) (w1 := (wv x I J)) hC226 7 rfl ?_
      refine wa_i (n := 256) rfl (by decide) rfl k.1 ?_
      have k := k.2
      refine wp_seg (C := gC226) (pc1 := 273) (Lo1 := [some (.ref 43), some (.int l1), some (.int l2), some (.int l3), some (.int l4), some (.int l5), some (.int (I 58 ((((6 : Int32) * l7) + l5).toNatClampNeg))), some (.int (l7 + (1 : Int32))), none]) (st1' := []) (w1 := (wv x I J)) hC226 3 rfl ?_
      refine wp_seg (C := gC226) (pc1 := 226) (Lo1 := [some (.ref 43), some (.int l1), some (.int l2), some (.int l3), some (.int l4), some (.int l5), some (.int (I 58 ((((6 : Int32) * l7) + l5).toNatClampNeg))), some (.int (l7 + (1 : Int32))), none]) (st1' := []) (w1 := (wv x I J)) hC226 1 rfl ?_
      exact k
    · have k := k.2 h
      refine wp_seg (C := gC226) (pc1 := 273) (Lo1 := [some (.ref 43), some (.int l1), some (.int l2), some (.int l3), some (.int l4), some (.int l5), some (.int l6), some (.int (l7 + (1 : Int32))), none]) (st1' := []) (w1 := (wv x I J)) hC226 3 rfl ?_
      refine wp_seg (C := gC226) (pc1 := 226) (Lo1 := [some (.ref 43), some (.int l1), some (.int l2), some (.int l3), some (.int l4), some (.int l5), some (.int l6), some (.int (l7 + (1 : Int32))), none]) (st1' := []) (w1 := (wv x I J)) hC226 1 rfl ?_
      exact k
  · have k := k.2 h
    refine wp_seg (C := gC226) (pc1 := 280) (Lo1 := [some (.ref 43), some (.int l1), some (.int l2), some (.int l3), some (.int l4), some (.int l5), some (.int l6), some (.int l7), none]) (st1' := [.int l4, .int l6]) (w1 := (wv x I J)) hC226 2 rfl ?_
    refine wj_lt (tgt := 286) rfl rfl (fun h => ?_) (fun h => ?_)
    · have k := k.1 h
      refine wp_seg (C := gC226) (pc1 := 303) (Lo1 := [some (.ref 43), some (.int l1), some (.int l2), some (.int l3), some (.int l6), some (.int l5), some (.int l6), some (.int l7), none]) (st1' := [.int (l1 + l5), .ref 56, .int (2 : Int32), .ref 60]) (w1 := (wv x I J)) hC226 10 rfl ?_
      refine wa_i (n := 14) rfl (by decide) rfl k.1 ?_
      have k := k.2
      refine ws_i (n := 3) rfl rfl k.1 ?_
      have k := k.2
      refine wp_seg (C := gC226) (pc1 := 214) (Lo1 := [some (.ref 43), some (.int l1), some (.int l2), some (.int l3), some (.int l6), some (.int (l5 + (1 : Int32))), some (.int l6), some (.int l7), none]) (st1' := []) (w1 := (wv x (mSet I 60 ((2 : Int32).toNatClampNeg) (I 56 ((l1 + l5).toNatClampNeg))) J)) hC226 2 rfl ?_
      exact wp_sub (Lo := [some (.ref 43), some (.int l1), some (.int l2), some (.int l3), some (.int l6), some (.int (l5 + (1 : Int32))), none, none, none]) (And.intro rfl (And.intro rfl (And.intro rfl (And.intro rfl (And.intro rfl (And.intro rfl (trivial))))))) k
    · have k := k.2 h
      refine wp_seg (C := gC226) (pc1 := 214) (Lo1 := [some (.ref 43), some (.int l1), some (.int l2), some (.int l3), some (.int l4), some (.int (l5 + (1 : Int32))), some (.int l6), some (.int l7), none]) (st1' := []) (w1 := (wv x I J)) hC226 3 rfl ?_
      exact wp_sub (Lo := [some (.ref 43), some (.int l1), some (.int l2), some (.int l3), some (.int l4), some (.int (l5 + (1 : Int32))), none, none, none]) (And.intro rfl (And.intro rfl (And.intro rfl (And.intro rfl (And.intro rfl (And.intro rfl (trivial))))))) k
set_option maxRecDepth 20000 in
theorem v227_43_0 {S : Nat × (Nat → Int32)} {d : Nat} {x : mX} {I : rI0} {J : rJ0} {p1 : Int32} {Q : Int32 → rI0 → rJ0 → Prop} (k : (((I 43 55) = (0 : Int32) → Q (-1 : Int32) (mSet I 43 0 (0 : Int32)) J) ∧ (¬ (I 43 55) = (0 : Int32) → (wcI S d 151 [.int p1, .int (0 : Int32), .int (2 : Int32)] x (mSet I 43 0 (0 : Int32)) J (fun r1 I1 J1 => ((r1 = (0 : Int32) → Q (-1 : Int32) I1 J1) ∧ (¬ r1 = (0 : Int32) → (¬ mOut p1 3 ∧ Q (I1 60 p1.toNatClampNeg) I1 J1)))))))) : wp S (d + 1) 227 0 [some (.ref 43), some (.int p1)] [] (wv x I J) (rI x Q) := by
  refine wp_seg (C := gC227) (pc1 := 9) (Lo1 := [some (.ref 43), some (.int p1)]) (st1' := [.int (I 43 55)]) (w1 := (wv x (mSet I 43 0 (0 : Int32)) J)) hC227 5 rfl ?_
  refine wi_eq (tgt := 30) rfl rfl (fun h => ?_) (fun h => ?_)
  · have k := k.1 h
    refine wp_seg (C := gC227) (pc1 := 31) (Lo1 := [some (.ref 43), some (.int p1)]) (st1' := [.int (-1 : Int32)]) (w1 := (wv x (mSet I 43 0 (0 : Int32)) J)) hC227 1 rfl ?_
    exact we_i rfl rfl k
  · have k := k.2 h
    refine wp_seg (C := gC227) (pc1 := 15) (Lo1 := [some (.ref 43), some (.int p1)]) (st1' := [.int (2 : Int32), .int (0 : Int32), .int p1]) (w1 := (wv x (mSet I 43 0 (0 : Int32)) J)) hC227 3 rfl ?_
    refine cs_I (mj := 151) (nn := 0) (as := [.int p1, .int (0 : Int32), .int (2 : Int32)]) (r := []) rfl rfl rfl ⟨rfl, by decide, Nat.le_of_ble_eq_true rfl, Nat.le_of_ble_eq_true rfl⟩ (by decide) (wcI_mono k (fun r1 I1 J1 k => ?_))
    refine wi_eq (tgt := 30) rfl rfl (fun h => ?_) (fun h => ?_)
    · have k := k.1 h
      refine wp_seg (C := gC227) (pc1 := 31) (Lo1 := [some (.ref 43), some (.int p1)]) (st1' := [.int (-1 : Int32)]) (w1 := (wv x I1 J1)) hC227 1 rfl ?_
      exact we_i rfl rfl k
    · have k := k.2 h
      refine wp_seg (C := gC227) (pc1 := 26) (Lo1 := [some (.ref 43), some (.int p1)]) (st1' := [.int p1, .ref 60]) (w1 := (wv x I1 J1)) hC227 3 rfl ?_
      refine wa_i (n := 3) rfl (by decide) rfl k.1 ?_
      have k := k.2
      refine wp_seg (C := gC227) (pc1 := 31) (Lo1 := [some (.ref 43), some (.int p1)]) (st1' := [.int (I1 60 p1.toNatClampNeg)]) (w1 := (wv x I1 J1)) hC227 1 rfl ?_
      exact we_i rfl rfl k
set_option maxRecDepth 20000 in
theorem v228_43_0 {S : Nat × (Nat → Int32)} {d : Nat} {x : mX} {I : rI0} {J : rJ0} {p1 : Int64} {p2 : Int32} {Q : Int32 → rI0 → rJ0 → Prop} (k : (wcV S d 199 [.ref 43, .long p1, .long (J 43 17)] x I J (fun I1 J1 => wp S (d + 1) 228 9 [some (.ref 43), some (.long p1), none, some (.int p2)] [] (wv x I1 J1) (rI x Q)))) : wp S (d + 1) 228 0 [some (.ref 43), some (.long p1), none, some (.int p2)] [] (wv x I J) (rI x Q) := by
  refine wp_seg (C := gC228) (pc1 := 6) (Lo1 := [some (.ref 43), some (.long p1), none, some (.int p2)]) (st1' := [.long (J 43 17), .long p1, .ref 43]) (w1 := (wv x I J)) hC228 4 rfl ?_
  refine cv_V (mj := 199) (a := 43) (as := [.long p1, .long (J 43 17)]) (r := []) rfl rfl rfl ⟨rfl, by decide, Nat.le_of_ble_eq_true rfl, Nat.le_of_ble_eq_true rfl⟩ rfl (wcV_mono k (fun I1 J1 k => ?_))
  exact k
set_option maxRecDepth 20000 in
theorem v228_43_9 {S : Nat × (Nat → Int32)} {d : Nat} {x : mX} {I : rI0} {J : rJ0} {l1 : Int64} {l3 : Int32} {Q : Int32 → rI0 → rJ0 → Prop} (k : ((l3 < (I 43 42) → (((lg_cmp ((J 43 38) &&& (J 43 58)) (J 43 56)) = (0 : Int32) → (((lg_cmp ((J 43 39) &&& (J 43 58)) (J 43 57)) = (0 : Int32) → Q (1 : Int32) I J) ∧ (¬ (lg_cmp ((J 43 39) &&& (J 43 58)) (J 43 57)) = (0 : Int32) → Q (0 : Int32) I J))) ∧ (¬ (lg_cmp ((J 43 38) &&& (J 43 58)) (J 43 56)) = (0 : Int32) → Q (0 : Int32) I J))) ∧ (¬ l3 < (I 43 42) → (wcV S d 200 [.ref 43] x I J (fun I1 J1 => wp S (d + 1) 228 9 [some (.ref 43), some (.long l1), none, some (.int l3)] [] (wv x I1 J1) (rI x Q)))))) : wp S (d + 1) 228 9 [some (.ref 43), some (.long l1), none, some (.int l3)] [] (wv x I J) (rI x Q) := by
  refine wp_seg (C := gC228) (pc1 := 14) (Lo1 := [some (.ref 43), some (.long l1), none, some (.int l3)]) (st1' := [.int l3, .int (I 43 42)]) (w1 := (wv x I J)) hC228 3 rfl ?_
  refine wj_gt (tgt := 24) rfl rfl (fun h => ?_) (fun h => ?_)
  · have k := k.1 h
    refine wp_seg (C := gC228) (pc1 := 38) (Lo1 := [some (.ref 43), some (.long l1), none, some (.int l3)]) (st1' := [.int (lg_cmp ((J 43 38) &&& (J 43 58)) (J 43 56))]) (w1 := (wv x I J)) hC228 8 rfl ?_
    refine wi_ne (tgt := 62) rfl rfl (fun h => ?_) (fun h => ?_)
    · have k := k.1 h
      refine wp_seg (C := gC228) (pc1 := 55) (Lo1 := [some (.ref 43), some (.long l1), none, some (.int l3)]) (st1' := [.int (lg_cmp ((J 43 39) &&& (J 43 58)) (J 43 57))]) (w1 := (wv x I J)) hC228 8 rfl ?_
      refine wi_ne (tgt := 62) rfl rfl (fun h => ?_) (fun h => ?_)
      · have k := k.1 h
        refine wp_seg (C := gC228) (pc1 := 63) (Lo1 := [some (.ref 43), some (.long l1), none, some (.int l3)]) (st1' := [.int (1 : Int32)]) (w1 := (wv x I J)) hC228 2 rfl ?_
        exact we_z rfl rfl (Or.inr rfl) k
      · have k := k.2 h
        refine wp_seg (C := gC228) (pc1 := 63) (Lo1 := [some (.ref 43), some (.long l1), none, some (.int l3)]) (st1' := [.int (0 : Int32)]) (w1 := (wv x I J)) hC228 1 rfl ?_
        exact we_z rfl rfl (Or.inl rfl) k
    · have k := k.2 h
      refine wp_seg (C := gC228) (pc1 := 63) (Lo1 := [some (.ref 43), some (.long l1), none, some (.int l3)]) (st1' := [.int (0 : Int32)]) (w1 := (wv x I J)) hC228 1 rfl ?_
      exact we_z rfl rfl (Or.inl rfl) k
  · have k := k.2 h
    refine wp_seg (C := gC228) (pc1 := 18) (Lo1 := [some (.ref 43), some (.long l1), none, some (.int l3)]) (st1' := [.ref 43]) (w1 := (wv x I J)) hC228 1 rfl ?_
    refine cv_V (mj := 200) (a := 43) (as := []) (r := []) rfl rfl rfl ⟨rfl, by decide, Nat.le_of_ble_eq_true rfl, Nat.le_of_ble_eq_true rfl⟩ rfl (wcV_mono k (fun I1 J1 k => ?_))
    refine wp_seg (C := gC228) (pc1 := 9) (Lo1 := [some (.ref 43), some (.long l1), none, some (.int l3)]) (st1' := []) (w1 := (wv x I1 J1)) hC228 1 rfl ?_
    exact k
set_option maxRecDepth 20000 in
theorem v229_43_0 {S : Nat × (Nat → Int32)} {d : Nat} {x : mX} {I : rI0} {J : rJ0} {p1 : Int32} {Q : Int32 → rI0 → rJ0 → Prop} (k : (wcV S d 150 [.ref 43, .int (940 : Int32)] x (mSet I 43 0 (0 : Int32)) J (fun I1 J1 => (¬ mOut (0 : Int32) 681 ∧ (¬ mOut (1 : Int32) 681 ∧ (((I1 43 3) = ((I1 45 ((0 : Int32).toNatClampNeg)) * (I1 45 ((1 : Int32).toNatClampNeg))) → (wcI S d 151 [.int p1, .int (0 : Int32), .int (60 : Int32)] x I1 J1 (fun r2 I2 J2 => ((r2 = (0 : Int32) → Q (-1 : Int32) I2 J2) ∧ (¬ r2 = (0 : Int32) → (¬ mOut (2 : Int32) 681 ∧ (((24 : Int32) < (I2 45 ((2 : Int32).toNatClampNeg)) → Q (-1 : Int32) I2 J2) ∧ (¬ (24 : Int32) < (I2 45 ((2 : Int32).toNatClampNeg)) → wp S (d + 1) 229 68 [some (.ref 43), some (.int p1), some (.int ((I1 45 ((0 : Int32).toNatClampNeg)) * (I1 45 ((1 : Int32).toNatClampNeg)))), some (.long (0 : Int64)), none, some (.long (0 : Int64)), none, some (.long (0 : Int64)), none, some (.int (0 : Int32)), none, none] [] (wv x I2 J2) (rI x Q))))))))) ∧ (¬ (I1 43 3) = ((I1 45 ((0 : Int32).toNatClampNeg)) * (I1 45 ((1 : Int32).toNatClampNeg))) → Q (-1 : Int32) I1 J1))))))) : wp S (d + 1) 229 0 [some (.ref 43), some (.int p1), none, none, none, none, none, none, none, none, none, none] [] (wv x I J) (rI x Q) := by
  refine wp_seg (C := gC229) (pc1 := 9) (Lo1 := [some (.ref 43), some (.int p1), none, none, none, none, none, none, none, none, none, none]) (st1' := [.int (940 : Int32), .ref 43]) (w1 := (wv x (mSet I 43 0 (0 : Int32)) J)) hC229 5 rfl ?_
  refine cv_V (mj := 150) (a := 43) (as := [.int (940 : Int32)]) (r := []) rfl rfl rfl ⟨rfl, by decide, Nat.le_of_ble_eq_true rfl, Nat.le_of_ble_eq_true rfl⟩ rfl (wcV_mono k (fun I1 J1 k => ?_))
  refine wp_seg (C := gC229) (pc1 := 17) (Lo1 := [some (.ref 43), some (.int p1), none, none, none, none, none, none, none, none, none, none]) (st1' := [.int (0 : Int32), .ref 45]) (w1 := (wv x I1 J1)) hC229 3 rfl ?_
  refine wa_i (n := 681) rfl (by decide) rfl k.1 ?_
  have k := k.2
  refine wp_seg (C := gC229) (pc1 := 23) (Lo1 := [some (.ref 43), some (.int p1), none, none, none, none, none, none, none, none, none, none]) (st1' := [.int (1 : Int32), .ref 45, .int (I1 45 ((0 : Int32).toNatClampNeg))]) (w1 := (wv x I1 J1)) hC229 3 rfl ?_
  refine wa_i (n := 681) rfl (by decide) rfl k.1 ?_
  have k := k.2
  refine wp_seg (C := gC229) (pc1 := 31) (Lo1 := [some (.ref 43), some (.int p1), some (.int ((I1 45 ((0 : Int32).toNatClampNeg)) * (I1 45 ((1 : Int32).toNatClampNeg)))), none, none, none, none, none, none, none, none, none]) (st1' := [.int ((I1 45 ((0 : Int32).toNatClampNeg)) * (I1 45 ((1 : Int32).toNatClampNeg))), .int (I1 43 3)]) (w1 := (wv x I1 J1)) hC229 5 rfl ?_
  refine wj_ne (tgt := 55) rfl rfl (fun h => ?_) (fun h => ?_)
  · have k := k.1 h
    refine wp_seg (C := gC229) (pc1 := 38) (Lo1 := [some (.ref 43), some (.int p1), some (.int ((I1 45 ((0 : Int32).toNatClampNeg)) * (I1 45 ((1 : Int32).toNatClampNeg)))), none, none, none, none, none, none, none, none, none]) (st1' := [.int (60 : Int32), .int (0 : Int32), .int p1]) (w1 := (wv x I1 J1)) hC229 3 rfl ?_
    refine cs_I (mj := 151) (nn := 0) (as := [.int p1, .int (0 : Int32), .int (60 : Int32)]) (r := []) rfl rfl rfl ⟨rfl, by decide, Nat.le_of_ble_eq_true rfl, Nat.le_of_ble_eq_true rfl⟩ (by decide) (wcI_mono k (fun r2 I2 J2 k => ?_))
    refine wi_eq (tgt := 55) rfl rfl (fun h => ?_) (fun h => ?_)
    · have k := k.1 h
      refine wp_seg (C := gC229) (pc1 := 56) (Lo1 := [some (.ref 43), some (.int p1), some (.int ((I1 45 ((0 : Int32).toNatClampNeg)) * (I1 45 ((1 : Int32).toNatClampNeg)))), none, none, none, none, none, none, none, none, none]) (st1' := [.int (-1 : Int32)]) (w1 := (wv x I2 J2)) hC229 1 rfl ?_
      exact we_i rfl rfl k
    · have k := k.2 h
      refine wp_seg (C := gC229) (pc1 := 49) (Lo1 := [some (.ref 43), some (.int p1), some (.int ((I1 45 ((0 : Int32).toNatClampNeg)) * (I1 45 ((1 : Int32).toNatClampNeg)))), none, none, none, none, none, none, none, none, none]) (st1' := [.int (2 : Int32), .ref 45]) (w1 := (wv x I2 J2)) hC229 3 rfl ?_
      refine wa_i (n := 681) rfl (by decide) rfl k.1 ?_
      have k := k.2
      refine wp_seg (C := gC229) (pc1 := 52) (Lo1 := [some (.ref 43), some (.int p1), some (.int ((I1 45 ((0 : Int32).toNatClampNeg)) * (I1 45 ((1 : Int32).toNatClampNeg)))), none, none, none, none, none, none, none, none, none]) (st1' := [.int (24 : Int32), .int (I2 45 ((2 : Int32).toNatClampNeg))]) (w1 := (wv x I2 J2)) hC229 1 rfl ?_
      refine wj_le (tgt := 57) rfl rfl (fun h => ?_) (fun h => ?_)
      · have k := k.1 h
        refine wp_seg (C := gC229) (pc1 := 56) (Lo1 := [some (.ref 43), some (.int p1), some (.int ((I1 45 ((0 : Int32).toNatClampNeg)) * (I1 45 ((1 : Int32).toNatClampNeg)))), none, none, none, none, none, none, none, none, none]) (st1' := [.int (-1 : Int32)]) (w1 := (wv x I2 J2)) hC229 1 rfl ?_
        exact we_i rfl rfl k
      · have k := k.2 h
        refine wp_seg (C := gC229) (pc1 := 62) (Lo1 := [some (.ref 43), some (.int p1), some (.int ((I1 45 ((0 : Int32).toNatClampNeg)) * (I1 45 ((1 : Int32).toNatClampNeg)))), some (.long (0 : Int64)), none, some (.long (0 : Int64)), none, none, none, none, none, none]) (st1' := []) (w1 := (wv x I2 J2)) hC229 4 rfl ?_
        refine wp_seg (C := gC229) (pc1 := 68) (Lo1 := [some (.ref 43), some (.int p1), some (.int ((I1 45 ((0 : Int32).toNatClampNeg)) * (I1 45 ((1 : Int32).toNatClampNeg)))), some (.long (0 : Int64)), none, some (.long (0 : Int64)), none, some (.long (0 : Int64)), none, some (.int (0 : Int32)), none, none]) (st1' := []) (w1 := (wv x I2 J2)) hC229 4 rfl ?_
        exact k
  · have k := k.2 h
    refine wp_seg (C := gC229) (pc1 := 56) (Lo1 := [some (.ref 43), some (.int p1), some (.int ((I1 45 ((0 : Int32).toNatClampNeg)) * (I1 45 ((1 : Int32).toNatClampNeg)))), none, none, none, none, none, none, none, none, none]) (st1' := [.int (-1 : Int32)]) (w1 := (wv x I1 J1)) hC229 1 rfl ?_
    exact we_i rfl rfl k
set_option maxRecDepth 20000 in
theorem v229_43_68 {S : Nat × (Nat → Int32)} {d : Nat} {x : mX} {I : rI0} {J : rJ0} {l1 : Int32} {l2 : Int32} {l3 : Int64} {l5 : Int64} {l7 : Int64} {l9 : Int32} {Q : Int32 → rI0 → rJ0 → Prop} (k : ((l9 < (I 43 3) → (wcI S d 155 [.ref 43, .int l9] x I J (fun r1 I1 J1 => (((3 : Int32) < r1 → Q (-1 : Int32) I1 J1) ∧ (¬ (3 : Int32) < r1 → ((r1 = (3 : Int32) → wp S (d + 1) 229 68 [some (.ref 43), some (.int l1), some (.int l2), some (.long l3), none, some (.long l5), none, some (.long l7), none, some (.int (l9 + (1 : Int32))), none, none] [] (wv x I1 J1) (rI x Q)) ∧ (¬ r1 = (3 : Int32) → (¬ mOut ((6 : Int32) + l9) 681 ∧ (((I1 45 (((6 : Int32) + l9).toNatClampNeg)) = (0 : Int32) → wp S (d + 1) 229 68 [some (.ref 43), some (.int l1), some (.int l2), some (.long l3), none, some (.long l5), none, some (.long l7), none, some (.int (l9 + (1 : Int32))), none, none] [] (wv x I1 J1) (rI x Q)) ∧ (¬ (I1 45 (((6 : Int32) + l9).toNatClampNeg)) = (0 : Int32) → (((0 : Int32) < r1 → wp S (d + 1) 229 138 [some (.ref 43), some (.int l1), some (.int l2), some (.long l3), none, some (.long l5), none, some (.long (l7 ||| ((1 : Int64) <<< (l9.toInt64 &&& 63)))), none, some (.int l9), some (.int r1), none] [.long ((1 : Int64) <<< (l9.toInt64 &&& 63)), .long l3] (wv x I1 J1) (rI x Q)) ∧ (¬ (0 : Int32) < r1 → wp S (d + 1) 229 138 [some (.ref 43), some (.int l1), some (.int l2), some (.long l3), none, some (.long l5), none, some (.long (l7 ||| ((1 : Int64) <<< (l9.toInt64 &&& 63)))), none, some (.int l9), some (.int r1), none] [.long (0 : Int64), .long l3] (wv x I1 J1) (rI x Q))))))))))))) ∧ (¬ l9 < (I 43 3) → wp S (d + 1) 229 198 [some (.ref 43), some (.int l1), some (.int l2), some (.long l3), none, some (.long l5), none, some (.long l7), none, some (.int (0 : Int32)), some (.int (0 : Int32)), none] [] (wv x (mSet (mSet I 43 59 (-1 : Int32)) 43 60 (-1 : Int32)) (mSet (mSet (mSet J 43 56 l3) 43 57 l5) 43 58 l7)) (rI x Q)))) : wp S (d + 1) 229 68 [some (.ref 43), some (.int l1), some (.int l2), some (.long l3), none, some (.long l5), none, some (.long l7), none, some (.int l9), none, none] [] (wv x I J) (rI x Q) := by
  refine wp_seg (C := gC229) (pc1 := 74) (Lo1 := [some (.ref 43), some (.int l1), some (.int l2), some (.long l3), none, some (.long l5), none, some (.long l7), none, some (.int l9), none, none]) (st1' := [.int (I 43 3), .int l9]) (w1 := (wv x I J)) hC229 3 rfl ?_
  refine wj_ge (tgt := 165) rfl rfl (fun h => ?_) (fun h => ?_)
  · have k := k.1 h
    refine wp_seg (C := gC229) (pc1 := 80) (Lo1 := [some (.ref 43), some (.int l1), some (.int l2), some (.long l3), none, some (.long l5), none, some (.long l7), none, some (.int l9), none, none]) (st1' := [.int l9, .ref 43]) (w1 := (wv x I J)) hC229 2 rfl ?_
    refine cv_I (mj := 155) (a := 43) (as := [.int l9]) (r := []) rfl rfl rfl ⟨rfl, by decide, Nat.le_of_ble_eq_true rfl, Nat.le_of_ble_eq_true rfl⟩ rfl (wcI_mono k (fun r1 I1 J1 k => ?_))
    refine wp_seg (C := gC229) (pc1 := 88) (Lo1 := [some (.ref 43), some (.int l1), some (.int l2), some (.long l3), none, some (.long l5), none, some (.long l7), none, some (.int l9), some (.int r1), none]) (st1' := [.int (3 : Int32), .int r1]) (w1 := (wv x I1 J1)) hC229 3 rfl ?_
    refine wj_le (tgt := 93) rfl rfl (fun h => ?_) (fun h => ?_)
    · have k := k.1 h
      refine wp_seg (C := gC229) (pc1 := 92) (Lo1 := [some (.ref 43), some (.int l1), some (.int l2), some (.long l3), none, some (.long l5), none, some (.long l7), none, some (.int l9), some (.int r1), none]) (st1' := [.int (-1 : Int32)]) (w1 := (wv x I1 J1)) hC229 1 rfl ?_
      exact we_i rfl rfl k
    · have k := k.2 h
      refine wp_seg (C := gC229) (pc1 := 96) (Lo1 := [some (.ref 43), some (.int l1), some (.int l2), some (.long l3), none, some (.long l5), none, some (.long l7), none, some (.int l9), some (.int r1), none]) (st1' := [.int (3 : Int32), .int r1]) (w1 := (wv x I1 J1)) hC229 2 rfl ?_
      refine wj_eq (tgt := 159) rfl rfl (fun h => ?_) (fun h => ?_)
      · have k := k.1 h
        refine wp_seg (C := gC229) (pc1 := 68) (Lo1 := [some (.ref 43), some (.int l1), some (.int l2), some (.long l3), none, some (.long l5), none, some (.long l7), none, some (.int (l9 + (1 : Int32))), some (.int r1), none]) (st1' := []) (w1 := (wv x I1 J1)) hC229 2 rfl ?_
        exact wp_sub (Lo := [some (.ref 43), some (.int l1), some (.int l2), some (.long l3), none, some (.long l5), none, some (.long l7), none, some (.int (l9 + (1 : Int32))), none, none]) (And.intro rfl (And.intro rfl (And.intro rfl (And.intro rfl (And.intro rfl (And.intro rfl (And.intro rfl (trivial)))))))) k
      · have k := k.2 h
        refine wp_seg (C := gC229) (pc1 := 108) (Lo1 := [some (.ref 43), some (.int l1), some (.int l2), some (.long l3), none, some (.long l5), none, some (.long l7), none, some (.int l9), some (.int r1), none]) (st1' := [.int ((6 : Int32) + l9), .ref 45]) (w1 := (wv x I1 J1)) hC229 5 rfl ?_
        refine wa_i (n := 681) rfl (by decide) rfl k.1 ?_
        have k := k.2
        refine wi_ne (tgt := 115) rfl rfl (fun h => ?_) (fun h => ?_)
        · have k := k.1 h
          refine wp_seg (C := gC229) (pc1 := 68) (Lo1 := [some (.ref 43), some (.int l1), some (.int l2), some (.long l3), none, some (.long l5), none, some (.long l7), none, some (.int (l9 + (1 : Int32))), some (.int r1), none]) (st1' := []) (w1 := (wv x I1 J1)) hC229 3 rfl ?_
          exact wp_sub (Lo := [some (.ref 43), some (.int l1), some (.int l2), some (.long l3), none, some (.long l5), none, some (.long l7), none, some (.int (l9 + (1 : Int32))), none, none]) (And.intro rfl (And.intro rfl (And.intro rfl (And.intro rfl (And.intro rfl (And.intro rfl (And.intro rfl (trivial)))))))) k
        · have k := k.2 h
          refine wp_seg (C := gC229) (pc1 := 127) (Lo1 := [some (.ref 43), some (.int l1), some (.int l2), some (.long l3), none, some (.long l5), none, some (.long (l7 ||| ((1 : Int64) <<< (l9.toInt64 &&& 63)))), none, some (.int l9), some (.int r1), none]) (st1' := [.int r1, .long l3]) (w1 := (wv x I1 J1)) hC229 8 rfl ?_
          refine wi_le (tgt := 137) rfl rfl (fun h => ?_) (fun h => ?_)
          · have k := k.1 h
            refine wp_seg (C := gC229) (pc1 := 138) (Lo1 := [some (.ref 43), some (.int l1), some (.int l2), some (.long l3), none, some (.long l5), none, some (.long (l7 ||| ((1 : Int64) <<< (l9.toInt64 &&& 63)))), none, some (.int l9), some (.int r1), none]) (st1' := [.long ((1 : Int64) <<< (l9.toInt64 &&& 63)), .long l3]) (w1 := (wv x I1 J1)) hC229 4 rfl ?_
            exact k
          · have k := k.2 h
            refine wp_seg (C := gC229) (pc1 := 138) (Lo1 := [some (.ref 43), some (.int l1), some (.int l2), some (.long l3), none, some (.long l5), none, some (.long (l7 ||| ((1 : Int64) <<< (l9.toInt64 &&& 63)))), none, some (.int l9), some (.int r1), none]) (st1' := [.long (0 : Int64), .long l3]) (w1 := (wv x I1 J1)) hC229 1 rfl ?_
            exact k
  · have k := k.2 h
    refine wp_seg (C := gC229) (pc1 := 187) (Lo1 := [some (.ref 43), some (.int l1), some (.int l2), some (.long l3), none, some (.long l5), none, some (.long l7), none, some (.int l9), none, none]) (st1' := []) (w1 := (wv x (mSet I 43 59 (-1 : Int32)) (mSet (mSet (mSet J 43 56 l3) 43 57 l5) 43 58 l7))) hC229 12 rfl ?_
    refine wp_seg (C := gC229) (pc1 := 198) (Lo1 := [some (.ref 43), some (.int l1), some (.int l2), some (.long l3), none, some (.long l5), none, some (.long l7), none, some (.int (0 : Int32)), some (.int (0 : Int32)), none]) (st1' := []) (w1 := (wv x (mSet (mSet I 43 59 (-1 : Int32)) 43 60 (-1 : Int32)) (mSet (mSet (mSet J 43 56 l3) 43 57 l5) 43 58 l7))) hC229 7 rfl ?_
    exact k
set_option maxRecDepth 20000 in
theorem v229_43_138 {S : Nat × (Nat → Int32)} {d : Nat} {x : mX} {I : rI0} {J : rJ0} {l1 : Int32} {l2 : Int32} {l3 : Int64} {l5 : Int64} {l7 : Int64} {l9 : Int32} {l10 : Int32} {s0 : Int64} {s1 : Int64} {Q : Int32 → rI0 → rJ0 → Prop} (k : (((1 : Int32) < l10 → wp S (d + 1) 229 68 [some (.ref 43), some (.int l1), some (.int l2), some (.long (s0 ||| s1)), none, some (.long (l5 ||| ((1 : Int64) <<< (l9.toInt64 &&& 63)))), none, some (.long l7), none, some (.int (l9 + (1 : Int32))), none, none] [] (wv x I J) (rI x Q)) ∧ (¬ (1 : Int32) < l10 → wp S (d + 1) 229 68 [some (.ref 43), some (.int l1), some (.int l2), some (.long (s0 ||| s1)), none, some (.long (l5 ||| (0 : Int64))), none, some (.long l7), none, some (.int (l9 + (1 : Int32))), none, none] [] (wv x I J) (rI x Q)))) : wp S (d + 1) 229 138 [some (.ref 43), some (.int l1), some (.int l2), some (.long l3), none, some (.long l5), none, some (.long l7), none, some (.int l9), some (.int l10), none] [.long s1, .long s0] (wv x I J) (rI x Q) := by
  refine wp_seg (C := gC229) (pc1 := 145) (Lo1 := [some (.ref 43), some (.int l1), some (.int l2), some (.long (s0 ||| s1)), none, some (.long l5), none, some (.long l7), none, some (.int l9), some (.int l10), none]) (st1' := [.int (1 : Int32), .int l10, .long l5]) (w1 := (wv x I J)) hC229 5 rfl ?_
  refine wj_le (tgt := 155) rfl rfl (fun h => ?_) (fun h => ?_)
  · have k := k.1 h
    refine wp_seg (C := gC229) (pc1 := 162) (Lo1 := [some (.ref 43), some (.int l1), some (.int l2), some (.long (s0 ||| s1)), none, some (.long (l5 ||| ((1 : Int64) <<< (l9.toInt64 &&& 63)))), none, some (.long l7), none, some (.int (l9 + (1 : Int32))), some (.int l10), none]) (st1' := []) (w1 := (wv x I J)) hC229 7 rfl ?_
    refine wp_seg (C := gC229) (pc1 := 68) (Lo1 := [some (.ref 43), some (.int l1), some (.int l2), some (.long (s0 ||| s1)), none, some (.long (l5 ||| ((1 : Int64) <<< (l9.toInt64 &&& 63)))), none, some (.long l7), none, some (.int (l9 + (1 : Int32))), some (.int l10), none]) (st1' := []) (w1 := (wv x I J)) hC229 1 rfl ?_
    exact wp_sub (Lo := [some (.ref 43), some (.int l1), some (.int l2), some (.long (s0 ||| s1)), none, some (.long (l5 ||| ((1 : Int64) <<< (l9.toInt64 &&& 63)))), none, some (.long l7), none, some (.int (l9 + (1 : Int32))), none, none]) (And.intro rfl (And.intro rfl (And.intro rfl (And.intro rfl (And.intro rfl (And.intro rfl (And.intro rfl (trivial)))))))) k
  · have k := k.2 h
    refine wp_seg (C := gC229) (pc1 := 162) (Lo1 := [some (.ref 43), some (.int l1), some (.int l2), some (.long (s0 ||| s1)), none, some (.long (l5 ||| (0 : Int64))), none, some (.long l7), none, some (.int (l9 + (1 : Int32))), some (.int l10), none]) (st1' := []) (w1 := (wv x I J)) hC229 4 rfl ?_
    refine wp_seg (C := gC229) (pc1 := 68) (Lo1 := [some (.ref 43), some (.int l1), some (.int l2), some (.long (s0 ||| s1)), none, some (.long (l5 ||| (0 : Int64))), none, some (.long l7), none, some (.int (l9 + (1 : Int32))), some (.int l10), none]) (st1' := []) (w1 := (wv x I J)) hC229 1 rfl ?_
    exact wp_sub (Lo := [some (.ref 43), some (.int l1), some (.int l2), some (.long (s0 ||| s1)), none, some (.long (l5 ||| (0 : Int64))), none, some (.long l7), none, some (.int (l9 + (1 : Int32))), none, none]) (And.intro rfl (And.intro rfl (And.intro rfl (And.intro rfl (And.intro rfl (And.intro rfl (And.intro rfl (trivial)))))))) k
set_option maxRecDepth 20000 in
theorem v229_43_198 {S : Nat × (Nat → Int32)} {d : Nat} {x : mX} {I : rI0} {J : rJ0} {l1 : Int32} {l2 : Int32} {l3 : Int64} {l5 : Int64} {l7 : Int64} {l9 : Int32} {l10 : Int32} {Q : Int32 → rI0 → rJ0 → Prop} (k : ((l10 < l2 → wp S (d + 1) 229 208 [some (.ref 43), some (.int l1), some (.int l2), some (.long l3), none, some (.long l5), none, some (.long l7), none, some (.int l9), some (.int l10), some (.int l10)] [] (wv x I J) (rI x Q)) ∧ (¬ l10 < l2 → Q l9 I J))) : wp S (d + 1) 229 198 [some (.ref 43), some (.int l1), some (.int l2), some (.long l3), none, some (.long l5), none, some (.long l7), none, some (.int l9), some (.int l10), none] [] (wv x I J) (rI x Q) := by
  refine wp_seg (C := gC229) (pc1 := 201) (Lo1 := [some (.ref 43), some (.int l1), some (.int l2), some (.long l3), none, some (.long l5), none, some (.long l7), none, some (.int l9), some (.int l10), none]) (st1' := [.int l2, .int l10]) (w1 := (wv x I J)) hC229 2 rfl ?_
  refine wj_ge (tgt := 299) rfl rfl (fun h => ?_) (fun h => ?_)
  · have k := k.1 h
    refine wp_seg (C := gC229) (pc1 := 208) (Lo1 := [some (.ref 43), some (.int l1), some (.int l2), some (.long l3), none, some (.long l5), none, some (.long l7), none, some (.int l9), some (.int l10), some (.int l10)]) (st1' := []) (w1 := (wv x I J)) hC229 2 rfl ?_
    exact k
  · have k := k.2 h
    refine wp_seg (C := gC229) (pc1 := 301) (Lo1 := [some (.ref 43), some (.int l1), some (.int l2), some (.long l3), none, some (.long l5), none, some (.long l7), none, some (.int l9), some (.int l10), none]) (st1' := [.int l9]) (w1 := (wv x I J)) hC229 1 rfl ?_
    exact we_i rfl rfl k
set_option maxRecDepth 20000 in
theorem v229_43_208 {S : Nat × (Nat → Int32)} {d : Nat} {x : mX} {I : rI0} {J : rJ0} {l1 : Int32} {l2 : Int32} {l3 : Int64} {l5 : Int64} {l7 : Int64} {l9 : Int32} {l10 : Int32} {l11 : Int32} {Q : Int32 → rI0 → rJ0 → Prop} (k : ((l11 < l2 → (wcI S d 183 [.ref 43, .int l10] x I J (fun r1 I1 J1 => ((r1 = (0 : Int32) → wp S (d + 1) 229 208 [some (.ref 43), some (.int l1), some (.int l2), some (.long l3), none, some (.long l5), none, some (.long l7), none, some (.int l9), some (.int l10), some (.int (l11 + (1 : Int32)))] [] (wv x I1 J1) (rI x Q)) ∧ (¬ r1 = (0 : Int32) → (wcI S d 183 [.ref 43, .int l11] x I1 J1 (fun r2 I2 J2 => ((r2 = (0 : Int32) → wp S (d + 1) 229 208 [some (.ref 43), some (.int l1), some (.int l2), some (.long l3), none, some (.long l5), none, some (.long l7), none, some (.int l9), some (.int l10), some (.int (l11 + (1 : Int32)))] [] (wv x I2 J2) (rI x Q)) ∧ (¬ r2 = (0 : Int32) → (wcI S d 228 [.ref 43, .long (((1 : Int64) <<< (l10.toInt64 &&& 63)) ||| ((1 : Int64) <<< (l11.toInt64 &&& 63))), .int l1] x I2 J2 (fun r3 I3 J3 => ((r3 = (0 : Int32) → wp S (d + 1) 229 208 [some (.ref 43), some (.int l1), some (.int l2), some (.long l3), none, some (.long l5), none, some (.long l7), none, some (.int l9), some (.int l10), some (.int (l11 + (1 : Int32)))] [] (wv x I3 J3) (rI x Q)) ∧ (¬ r3 = (0 : Int32) → (((1 : Int32) < (l9 + (1 : Int32)) → wp S (d + 1) 229 208 [some (.ref 43), some (.int l1), some (.int l2), some (.long l3), none, some (.long l5), none, some (.long l7), none, some (.int (l9 + (1 : Int32))), some (.int l10), some (.int (l11 + (1 : Int32)))] [] (wv x I3 J3) (rI x Q)) ∧ (¬ (1 : Int32) < (l9 + (1 : Int32)) → ((l10 = l11 → wp S (d + 1) 229 208 [some (.ref 43), some (.int l1), some (.int l2), some (.long l3), none, some (.long l5), none, some (.long l7), none, some (.int (l9 + (1 : Int32))), some (.int l10), some (.int (l11 + (1 : Int32)))] [] (wv x (mSet (mSet I3 43 59 l10) 43 60 (-1 : Int32)) J3) (rI x Q)) ∧ (¬ l10 = l11 → wp S (d + 1) 229 208 [some (.ref 43), some (.int l1), some (.int l2), some (.long l3), none, some (.long l5), none, some (.long l7), none, some (.int (l9 + (1 : Int32))), some (.int l10), some (.int (l11 + (1 : Int32)))] [] (wv x (mSet (mSet I3 43 59 l10) 43 60 l11) J3) (rI x Q)))))))))))))))))) ∧ (¬ l11 < l2 → wp S (d + 1) 229 198 [some (.ref 43), some (.int l1), some (.int l2), some (.long l3), none, some (.long l5), none, some (.long l7), none, some (.int l9), some (.int (l10 + (1 : Int32))), none] [] (wv x I J) (rI x Q)))) : wp S (d + 1) 229 208 [some (.ref 43), some (.int l1), some (.int l2), some (.long l3), none, some (.long l5), none, some (.long l7), none, some (.int l9), some (.int l10), some (.int l11)] [] (wv x I J) (rI x Q) := by
  refine wp_seg (C := gC229) (pc1 := 211) (Lo1 := [some (.ref 43), some (.int l1), some (.int l2), some (.long l3), none, some (.long l5), none, some (.long l7), none, some (.int l9), some (.int l10), some (.int l11)]) (st1' := [.int l2, .int l11]) (w1 := (wv x I J)) hC229 2 rfl ?_
  refine wj_ge (tgt := 293) rfl rfl (fun h => ?_) (fun h => ?_)
  · have k := k.1 h
    refine wp_seg (C := gC229) (pc1 := 217) (Lo1 := [some (.ref 43), some (.int l1), some (.int l2), some (.long l3), none, some (.long l5), none, some (.long l7), none, some (.int l9), some (.int l10), some (.int l11)]) (st1' := [.int l10, .ref 43]) (w1 := (wv x I J)) hC229 2 rfl ?_
    refine cv_I (mj := 183) (a := 43) (as := [.int l10]) (r := []) rfl rfl rfl ⟨rfl, by decide, Nat.le_of_ble_eq_true rfl, Nat.le_of_ble_eq_true rfl⟩ rfl (wcI_mono k (fun r1 I1 J1 k => ?_))
    refine wi_eq (tgt := 287) rfl rfl (fun h => ?_) (fun h => ?_)
    · have k := k.1 h
      refine wp_seg (C := gC229) (pc1 := 208) (Lo1 := [some (.ref 43), some (.int l1), some (.int l2), some (.long l3), none, some (.long l5), none, some (.long l7), none, some (.int l9), some (.int l10), some (.int (l11 + (1 : Int32)))]) (st1' := []) (w1 := (wv x I1 J1)) hC229 2 rfl ?_
      exact k
    · have k := k.2 h
      refine wp_seg (C := gC229) (pc1 := 226) (Lo1 := [some (.ref 43), some (.int l1), some (.int l2), some (.long l3), none, some (.long l5), none, some (.long l7), none, some (.int l9), some (.int l10), some (.int l11)]) (st1' := [.int l11, .ref 43]) (w1 := (wv x I1 J1)) hC229 2 rfl ?_
      refine cv_I (mj := 183) (a := 43) (as := [.int l11]) (r := []) rfl rfl rfl ⟨rfl, by decide, Nat.le_of_ble_eq_true rfl, Nat.le_of_ble_eq_true rfl⟩ rfl (wcI_mono k (fun r2 I2 J2 k => ?_))
      refine wi_eq (tgt := 287) rfl rfl (fun h => ?_) (fun h => ?_)
      · have k := k.1 h
        refine wp_seg (C := gC229) (pc1 := 208) (Lo1 := [some (.ref 43), some (.int l1), some (.int l2), some (.long l3), none, some (.long l5), none, some (.long l7), none, some (.int l9), some (.int l10), some (.int (l11 + (1 : Int32)))]) (st1' := []) (w1 := (wv x I2 J2)) hC229 2 rfl ?_
        exact k
      · have k := k.2 h
        refine wp_seg (C := gC229) (pc1 := 243) (Lo1 := [some (.ref 43), some (.int l1), some (.int l2), some (.long l3), none, some (.long l5), none, some (.long l7), none, some (.int l9), some (.int l10), some (.int l11)]) (st1' := [.int l1, .long (((1 : Int64) <<< (l10.toInt64 &&& 63)) ||| ((1 : Int64) <<< (l11.toInt64 &&& 63))), .ref 43]) (w1 := (wv x I2 J2)) hC229 9 rfl ?_
        refine cv_I (mj := 228) (a := 43) (as := [.long (((1 : Int64) <<< (l10.toInt64 &&& 63)) ||| ((1 : Int64) <<< (l11.toInt64 &&& 63))), .int l1]) (r := []) rfl rfl rfl ⟨rfl, by decide, Nat.le_of_ble_eq_true rfl, Nat.le_of_ble_eq_true rfl⟩ rfl (wcI_mono k (fun r3 I3 J3 k => ?_))
        refine wi_ne (tgt := 252) rfl rfl (fun h => ?_) (fun h => ?_)
        · have k := k.1 h
          refine wp_seg (C := gC229) (pc1 := 208) (Lo1 := [some (.ref 43), some (.int l1), some (.int l2), some (.long l3), none, some (.long l5), none, some (.long l7), none, some (.int l9), some (.int l10), some (.int (l11 + (1 : Int32)))]) (st1' := []) (w1 := (wv x I3 J3)) hC229 3 rfl ?_
          exact k
        · have k := k.2 h
          refine wp_seg (C := gC229) (pc1 := 258) (Lo1 := [some (.ref 43), some (.int l1), some (.int l2), some (.long l3), none, some (.long l5), none, some (.long l7), none, some (.int (l9 + (1 : Int32))), some (.int l10), some (.int l11)]) (st1' := [.int (1 : Int32), .int (l9 + (1 : Int32))]) (w1 := (wv x I3 J3)) hC229 3 rfl ?_
          refine wj_le (tgt := 264) rfl rfl (fun h => ?_) (fun h => ?_)
          · have k := k.1 h
            refine wp_seg (C := gC229) (pc1 := 208) (Lo1 := [some (.ref 43), some (.int l1), some (.int l2), some (.long l3), none, some (.long l5), none, some (.long l7), none, some (.int (l9 + (1 : Int32))), some (.int l10), some (.int (l11 + (1 : Int32)))]) (st1' := []) (w1 := (wv x I3 J3)) hC229 3 rfl ?_
            exact k
          · have k := k.2 h
            refine wp_seg (C := gC229) (pc1 := 275) (Lo1 := [some (.ref 43), some (.int l1), some (.int l2), some (.long l3), none, some (.long l5), none, some (.long l7), none, some (.int (l9 + (1 : Int32))), some (.int l10), some (.int l11)]) (st1' := [.int l11, .int l10, .ref 43]) (w1 := (wv x (mSet I3 43 59 l10) J3)) hC229 6 rfl ?_
            refine wj_ne (tgt := 282) rfl rfl (fun h => ?_) (fun h => ?_)
            · have k := k.1 h
              refine wp_seg (C := gC229) (pc1 := 208) (Lo1 := [some (.ref 43), some (.int l1), some (.int l2), some (.long l3), none, some (.long l5), none, some (.long l7), none, some (.int (l9 + (1 : Int32))), some (.int l10), some (.int (l11 + (1 : Int32)))]) (st1' := []) (w1 := (wv x (mSet (mSet I3 43 59 l10) 43 60 (-1 : Int32)) J3)) hC229 5 rfl ?_
              exact k
            · have k := k.2 h
              refine wp_seg (C := gC229) (pc1 := 208) (Lo1 := [some (.ref 43), some (.int l1), some (.int l2), some (.long l3), none, some (.long l5), none, some (.long l7), none, some (.int (l9 + (1 : Int32))), some (.int l10), some (.int (l11 + (1 : Int32)))]) (st1' := []) (w1 := (wv x (mSet (mSet I3 43 59 l10) 43 60 l11) J3)) hC229 4 rfl ?_
              exact k
  · have k := k.2 h
    refine wp_seg (C := gC229) (pc1 := 198) (Lo1 := [some (.ref 43), some (.int l1), some (.int l2), some (.long l3), none, some (.long l5), none, some (.long l7), none, some (.int l9), some (.int (l10 + (1 : Int32))), some (.int l11)]) (st1' := []) (w1 := (wv x I J)) hC229 2 rfl ?_
    exact wp_sub (Lo := [some (.ref 43), some (.int l1), some (.int l2), some (.long l3), none, some (.long l5), none, some (.long l7), none, some (.int l9), some (.int (l10 + (1 : Int32))), none]) (And.intro rfl (And.intro rfl (And.intro rfl (And.intro rfl (And.intro rfl (And.intro rfl (And.intro rfl (And.intro rfl (trivial))))))))) k
set_option maxRecDepth 20000 in
theorem v230_43_0 {S : Nat × (Nat → Int32)} {d : Nat} {x : mX} {I : rI0} {J : rJ0} {p1 : Int32} {Q : Int32 → rI0 → rJ0 → Prop} (k : ((p1 = (0 : Int32) → Q (I 43 59) (mSet I 43 0 (0 : Int32)) J) ∧ (¬ p1 = (0 : Int32) → ((p1 = (1 : Int32) → Q (I 43 60) (mSet I 43 0 (0 : Int32)) J) ∧ (¬ p1 = (1 : Int32) → Q (-1 : Int32) (mSet I 43 0 (0 : Int32)) J))))) : wp S d 230 0 [some (.ref 43), some (.int p1)] [] (wv x I J) (rI x Q) := by
  refine wp_seg (C := gC230) (pc1 := 6) (Lo1 := [some (.ref 43), some (.int p1)]) (st1' := [.int p1]) (w1 := (wv x (mSet I 43 0 (0 : Int32)) J)) hC230 4 rfl ?_
  refine wi_ne (tgt := 16) rfl rfl (fun h => ?_) (fun h => ?_)
  · have k := k.1 h
    refine wp_seg (C := gC230) (pc1 := 29) (Lo1 := [some (.ref 43), some (.int p1)]) (st1' := [.int (I 43 59)]) (w1 := (wv x (mSet I 43 0 (0 : Int32)) J)) hC230 3 rfl ?_
    exact we_i rfl rfl k
  · have k := k.2 h
    refine wp_seg (C := gC230) (pc1 := 18) (Lo1 := [some (.ref 43), some (.int p1)]) (st1' := [.int (1 : Int32), .int p1]) (w1 := (wv x (mSet I 43 0 (0 : Int32)) J)) hC230 2 rfl ?_
    refine wj_ne (tgt := 28) rfl rfl (fun h => ?_) (fun h => ?_)
    · have k := k.1 h
      refine wp_seg (C := gC230) (pc1 := 29) (Lo1 := [some (.ref 43), some (.int p1)]) (st1' := [.int (I 43 60)]) (w1 := (wv x (mSet I 43 0 (0 : Int32)) J)) hC230 3 rfl ?_
      exact we_i rfl rfl k
    · have k := k.2 h
      refine wp_seg (C := gC230) (pc1 := 29) (Lo1 := [some (.ref 43), some (.int p1)]) (st1' := [.int (-1 : Int32)]) (w1 := (wv x (mSet I 43 0 (0 : Int32)) J)) hC230 1 rfl ?_
      exact we_i rfl rfl k
set_option maxRecDepth 20000 in
theorem v231_43_0 {S : Nat × (Nat → Int32)} {d : Nat} {x : mX} {I : rI0} {J : rJ0} {p1 : Int32} {p2 : Int32} {Q : Int32 → rI0 → rJ0 → Prop} (k : (wcI S d 183 [.ref 43, .int p1] x (mSet I 43 0 (0 : Int32)) J (fun r1 I1 J1 => ((r1 = (0 : Int32) → Q (-1 : Int32) I1 J1) ∧ (¬ r1 = (0 : Int32) → (wcI S d 183 [.ref 43, .int p2] x I1 J1 (fun r2 I2 J2 => ((r2 = (0 : Int32) → Q (-1 : Int32) I2 J2) ∧ (¬ r2 = (0 : Int32) → (wcI S d 202 [.ref 43, .long ((1 : Int64) <<< (p1.toInt64 &&& 63)), .long (J2 43 17)] x I2 J2 (fun r3 I3 J3 => wp S (d + 1) 231 37 [some (.ref 43), some (.int p1), some (.int p2), some (.int (0 : Int32))] [] (wv x I3 J3) (rI x Q)))))))))))) : wp S (d + 1) 231 0 [some (.ref 43), some (.int p1), some (.int p2), none] [] (wv x I J) (rI x Q) := by
  refine wp_seg (C := gC231) (pc1 := 7) (Lo1 := [some (.ref 43), some (.int p1), some (.int p2), none]) (st1' := [.int p1, .ref 43]) (w1 := (wv x (mSet I 43 0 (0 : Int32)) J)) hC231 5 rfl ?_
  refine cv_I (mj := 183) (a := 43) (as := [.int p1]) (r := []) rfl rfl rfl ⟨rfl, by decide, Nat.le_of_ble_eq_true rfl, Nat.le_of_ble_eq_true rfl⟩ rfl (wcI_mono k (fun r1 I1 J1 k => ?_))
  refine wi_eq (tgt := 21) rfl rfl (fun h => ?_) (fun h => ?_)
  · have k := k.1 h
    refine wp_seg (C := gC231) (pc1 := 22) (Lo1 := [some (.ref 43), some (.int p1), some (.int p2), none]) (st1' := [.int (-1 : Int32)]) (w1 := (wv x I1 J1)) hC231 1 rfl ?_
    exact we_i rfl rfl k
  · have k := k.2 h
    refine wp_seg (C := gC231) (pc1 := 15) (Lo1 := [some (.ref 43), some (.int p1), some (.int p2), none]) (st1' := [.int p2, .ref 43]) (w1 := (wv x I1 J1)) hC231 2 rfl ?_
    refine cv_I (mj := 183) (a := 43) (as := [.int p2]) (r := []) rfl rfl rfl ⟨rfl, by decide, Nat.le_of_ble_eq_true rfl, Nat.le_of_ble_eq_true rfl⟩ rfl (wcI_mono k (fun r2 I2 J2 k => ?_))
    refine wi_ne (tgt := 23) rfl rfl (fun h => ?_) (fun h => ?_)
    · have k := k.1 h
      refine wp_seg (C := gC231) (pc1 := 22) (Lo1 := [some (.ref 43), some (.int p1), some (.int p2), none]) (st1' := [.int (-1 : Int32)]) (w1 := (wv x I2 J2)) hC231 1 rfl ?_
      exact we_i rfl rfl k
    · have k := k.2 h
      refine wp_seg (C := gC231) (pc1 := 31) (Lo1 := [some (.ref 43), some (.int p1), some (.int p2), none]) (st1' := [.long (J2 43 17), .long ((1 : Int64) <<< (p1.toInt64 &&& 63)), .ref 43]) (w1 := (wv x I2 J2)) hC231 6 rfl ?_
      refine cv_I (mj := 202) (a := 43) (as := [.long ((1 : Int64) <<< (p1.toInt64 &&& 63)), .long (J2 43 17)]) (r := []) rfl rfl rfl ⟨rfl, by decide, Nat.le_of_ble_eq_true rfl, Nat.le_of_ble_eq_true rfl⟩ rfl (wcI_mono k (fun r3 I3 J3 k => ?_))
      refine wp_seg (C := gC231) (pc1 := 37) (Lo1 := [some (.ref 43), some (.int p1), some (.int p2), some (.int (0 : Int32))]) (st1' := []) (w1 := (wv x I3 J3)) hC231 3 rfl ?_
      exact k
set_option maxRecDepth 20000 in
theorem v231_43_37 {S : Nat × (Nat → Int32)} {d : Nat} {x : mX} {I : rI0} {J : rJ0} {l1 : Int32} {l2 : Int32} {l3 : Int32} {Q : Int32 → rI0 → rJ0 → Prop} (k : (((60 : Int32) < l3 → (wcI S d 202 [.ref 43, .long ((1 : Int64) <<< (l2.toInt64 &&& 63)), .long (J 43 17)] x I J (fun r1 I1 J1 => wp S (d + 1) 231 87 [some (.ref 43), some (.int l1), some (.int l2), some (.int (0 : Int32))] [] (wv x I1 J1) (rI x Q)))) ∧ (¬ (60 : Int32) < l3 → (¬ mOut l3 601 ∧ (¬ mOut l3 61 ∧ (¬ mOut l3 601 ∧ (¬ mOut l3 61 ∧ wp S (d + 1) 231 37 [some (.ref 43), some (.int l1), some (.int l2), some (.int (l3 + (1 : Int32)))] [] (wv x I (mSet (mSet J 61 l3.toNatClampNeg (J 52 l3.toNatClampNeg)) 62 l3.toNatClampNeg (J 53 l3.toNatClampNeg))) (rI x Q)))))))) : wp S (d + 1) 231 37 [some (.ref 43), some (.int l1), some (.int l2), some (.int l3)] [] (wv x I J) (rI x Q) := by
  refine wp_seg (C := gC231) (pc1 := 40) (Lo1 := [some (.ref 43), some (.int l1), some (.int l2), some (.int l3)]) (st1' := [.int (60 : Int32), .int l3]) (w1 := (wv x I J)) hC231 2 rfl ?_
  refine wj_gt (tgt := 73) rfl rfl (fun h => ?_) (fun h => ?_)
  · have k := k.1 h
    refine wp_seg (C := gC231) (pc1 := 81) (Lo1 := [some (.ref 43), some (.int l1), some (.int l2), some (.int l3)]) (st1' := [.long (J 43 17), .long ((1 : Int64) <<< (l2.toInt64 &&& 63)), .ref 43]) (w1 := (wv x I J)) hC231 6 rfl ?_
    refine cv_I (mj := 202) (a := 43) (as := [.long ((1 : Int64) <<< (l2.toInt64 &&& 63)), .long (J 43 17)]) (r := []) rfl rfl rfl ⟨rfl, by decide, Nat.le_of_ble_eq_true rfl, Nat.le_of_ble_eq_true rfl⟩ rfl (wcI_mono k (fun r1 I1 J1 k => ?_))
    refine wp_seg (C := gC231) (pc1 := 87) (Lo1 := [some (.ref 43), some (.int l1), some (.int l2), some (.int (0 : Int32))]) (st1' := []) (w1 := (wv x I1 J1)) hC231 3 rfl ?_
    exact k
  · have k := k.2 h
    refine wp_seg (C := gC231) (pc1 := 53) (Lo1 := [some (.ref 43), some (.int l1), some (.int l2), some (.int l3)]) (st1' := [.int l3, .ref 52, .int l3, .ref 61]) (w1 := (wv x I J)) hC231 6 rfl ?_
    refine wa_l (n := 601) rfl rfl k.1 ?_
    have k := k.2
    refine ws_l (n := 61) rfl rfl k.1 ?_
    have k := k.2
    refine wp_seg (C := gC231) (pc1 := 65) (Lo1 := [some (.ref 43), some (.int l1), some (.int l2), some (.int l3)]) (st1' := [.int l3, .ref 53, .int l3, .ref 62]) (w1 := (wv x I (mSet J 61 l3.toNatClampNeg (J 52 l3.toNatClampNeg)))) hC231 6 rfl ?_
    refine wa_l (n := 601) rfl rfl k.1 ?_
    have k := k.2
    refine ws_l (n := 61) rfl rfl k.1 ?_
    have k := k.2
    refine wp_seg (C := gC231) (pc1 := 37) (Lo1 := [some (.ref 43), some (.int l1), some (.int l2), some (.int (l3 + (1 : Int32)))]) (st1' := []) (w1 := (wv x I (mSet (mSet J 61 l3.toNatClampNeg (J 52 l3.toNatClampNeg)) 62 l3.toNatClampNeg (J 53 l3.toNatClampNeg)))) hC231 2 rfl ?_
    exact k
set_option maxRecDepth 20000 in
theorem v231_43_87 {S : Nat × (Nat → Int32)} {d : Nat} {x : mX} {I : rI0} {J : rJ0} {l1 : Int32} {l2 : Int32} {l3 : Int32} {Q : Int32 → rI0 → rJ0 → Prop} (k : (((60 : Int32) < l3 → Q (-1 : Int32) I J) ∧ (¬ (60 : Int32) < l3 → (¬ mOut l3 601 ∧ (¬ mOut l3 61 ∧ (((lg_cmp (J 52 l3.toNatClampNeg) (J 61 l3.toNatClampNeg)) = (0 : Int32) → (¬ mOut l3 601 ∧ (¬ mOut l3 61 ∧ (((lg_cmp (J 53 l3.toNatClampNeg) (J 62 l3.toNatClampNeg)) = (0 : Int32) → wp S (d + 1) 231 87 [some (.ref 43), some (.int l1), some (.int l2), some (.int (l3 + (1 : Int32)))] [] (wv x I J) (rI x Q)) ∧ (¬ (lg_cmp (J 53 l3.toNatClampNeg) (J 62 l3.toNatClampNeg)) = (0 : Int32) → Q l3 I J))))) ∧ (¬ (lg_cmp (J 52 l3.toNatClampNeg) (J 61 l3.toNatClampNeg)) = (0 : Int32) → Q l3 I J))))))) : wp S (d + 1) 231 87 [some (.ref 43), some (.int l1), some (.int l2), some (.int l3)] [] (wv x I J) (rI x Q) := by
  refine wp_seg (C := gC231) (pc1 := 90) (Lo1 := [some (.ref 43), some (.int l1), some (.int l2), some (.int l3)]) (st1' := [.int (60 : Int32), .int l3]) (w1 := (wv x I J)) hC231 2 rfl ?_
  refine wj_gt (tgt := 133) rfl rfl (fun h => ?_) (fun h => ?_)
  · have k := k.1 h
    refine wp_seg (C := gC231) (pc1 := 134) (Lo1 := [some (.ref 43), some (.int l1), some (.int l2), some (.int l3)]) (st1' := [.int (-1 : Int32)]) (w1 := (wv x I J)) hC231 1 rfl ?_
    exact we_i rfl rfl k
  · have k := k.2 h
    refine wp_seg (C := gC231) (pc1 := 98) (Lo1 := [some (.ref 43), some (.int l1), some (.int l2), some (.int l3)]) (st1' := [.int l3, .ref 52]) (w1 := (wv x I J)) hC231 3 rfl ?_
    refine wa_l (n := 601) rfl rfl k.1 ?_
    have k := k.2
    refine wp_seg (C := gC231) (pc1 := 104) (Lo1 := [some (.ref 43), some (.int l1), some (.int l2), some (.int l3)]) (st1' := [.int l3, .ref 61, .long (J 52 l3.toNatClampNeg)]) (w1 := (wv x I J)) hC231 3 rfl ?_
    refine wa_l (n := 61) rfl rfl k.1 ?_
    have k := k.2
    refine wp_seg (C := gC231) (pc1 := 106) (Lo1 := [some (.ref 43), some (.int l1), some (.int l2), some (.int l3)]) (st1' := [.int (lg_cmp (J 52 l3.toNatClampNeg) (J 61 l3.toNatClampNeg))]) (w1 := (wv x I J)) hC231 1 rfl ?_
    refine wi_ne (tgt := 125) rfl rfl (fun h => ?_) (fun h => ?_)
    · have k := k.1 h
      refine wp_seg (C := gC231) (pc1 := 114) (Lo1 := [some (.ref 43), some (.int l1), some (.int l2), some (.int l3)]) (st1' := [.int l3, .ref 53]) (w1 := (wv x I J)) hC231 3 rfl ?_
      refine wa_l (n := 601) rfl rfl k.1 ?_
      have k := k.2
      refine wp_seg (C := gC231) (pc1 := 120) (Lo1 := [some (.ref 43), some (.int l1), some (.int l2), some (.int l3)]) (st1' := [.int l3, .ref 62, .long (J 53 l3.toNatClampNeg)]) (w1 := (wv x I J)) hC231 3 rfl ?_
      refine wa_l (n := 61) rfl rfl k.1 ?_
      have k := k.2
      refine wp_seg (C := gC231) (pc1 := 122) (Lo1 := [some (.ref 43), some (.int l1), some (.int l2), some (.int l3)]) (st1' := [.int (lg_cmp (J 53 l3.toNatClampNeg) (J 62 l3.toNatClampNeg))]) (w1 := (wv x I J)) hC231 1 rfl ?_
      refine wi_eq (tgt := 127) rfl rfl (fun h => ?_) (fun h => ?_)
      · have k := k.1 h
        refine wp_seg (C := gC231) (pc1 := 87) (Lo1 := [some (.ref 43), some (.int l1), some (.int l2), some (.int (l3 + (1 : Int32)))]) (st1' := []) (w1 := (wv x I J)) hC231 2 rfl ?_
        exact k
      · have k := k.2 h
        refine wp_seg (C := gC231) (pc1 := 126) (Lo1 := [some (.ref 43), some (.int l1), some (.int l2), some (.int l3)]) (st1' := [.int l3]) (w1 := (wv x I J)) hC231 1 rfl ?_
        exact we_i rfl rfl k
    · have k := k.2 h
      refine wp_seg (C := gC231) (pc1 := 126) (Lo1 := [some (.ref 43), some (.int l1), some (.int l2), some (.int l3)]) (st1' := [.int l3]) (w1 := (wv x I J)) hC231 1 rfl ?_
      exact we_i rfl rfl k
set_option maxRecDepth 20000 in
theorem v232_43_0 {S : Nat × (Nat → Int32)} {d : Nat} {x : mX} {I : rI0} {J : rJ0} {p1 : Int32} {p2 : Int32} {Q : rI0 → rJ0 → Prop} (k : (¬ mOut ((6 : Int32) + p1) 681 ∧ (¬ mOut ((6 : Int32) + p2) 681 ∧ (¬ mOut ((6 : Int32) + p1) 681 ∧ (¬ mOut ((6 : Int32) + p2) 681 ∧ Q (mSet (mSet I 45 (((6 : Int32) + p1).toNatClampNeg) (I 45 (((6 : Int32) + p2).toNatClampNeg))) 45 (((6 : Int32) + p2).toNatClampNeg) (I 45 (((6 : Int32) + p1).toNatClampNeg))) J))))) : wp S d 232 0 [some (.ref 43), some (.int p1), some (.int p2), none] [] (wv x I J) (rV x Q) := by
  refine wp_seg (C := gC232) (pc1 := 8) (Lo1 := [some (.ref 43), some (.int p1), some (.int p2), none]) (st1' := [.int ((6 : Int32) + p1), .ref 45]) (w1 := (wv x I J)) hC232 5 rfl ?_
  refine wa_i (n := 681) rfl (by decide) rfl k.1 ?_
  have k := k.2
  refine wp_seg (C := gC232) (pc1 := 26) (Lo1 := [some (.ref 43), some (.int p1), some (.int p2), some (.int (I 45 (((6 : Int32) + p1).toNatClampNeg)))]) (st1' := [.int ((6 : Int32) + p2), .ref 45, .int ((6 : Int32) + p1), .ref 45]) (w1 := (wv x I J)) hC232 11 rfl ?_
  refine wa_i (n := 681) rfl (by decide) rfl k.1 ?_
  have k := k.2
  refine ws_i (n := 681) rfl rfl k.1 ?_
  have k := k.2
  refine wp_seg (C := gC232) (pc1 := 37) (Lo1 := [some (.ref 43), some (.int p1), some (.int p2), some (.int (I 45 (((6 : Int32) + p1).toNatClampNeg)))]) (st1' := [.int (I 45 (((6 : Int32) + p1).toNatClampNeg)), .int ((6 : Int32) + p2), .ref 45]) (w1 := (wv x (mSet I 45 (((6 : Int32) + p1).toNatClampNeg) (I 45 (((6 : Int32) + p2).toNatClampNeg))) J)) hC232 6 rfl ?_
  refine ws_i (n := 681) rfl rfl k.1 ?_
  have k := k.2
  exact we_v rfl rfl k
set_option maxRecDepth 20000 in
theorem v233_43_0 {S : Nat × (Nat → Int32)} {d : Nat} {x : mX} {I : rI0} {J : rJ0} {p1 : Int32} {p2 : Int32} {Q : Int32 → rI0 → rJ0 → Prop} (k : (wcI S d 183 [.ref 43, .int p1] x I J (fun r1 I1 J1 => ((r1 = (0 : Int32) → Q (0 : Int32) I1 J1) ∧ (¬ r1 = (0 : Int32) → (wcI S d 183 [.ref 43, .int p2] x I1 J1 (fun r2 I2 J2 => ((r2 = (0 : Int32) → Q (0 : Int32) I2 J2) ∧ (¬ r2 = (0 : Int32) → (¬ mOut ((6 : Int32) + p1) 681 ∧ (¬ mOut ((6 : Int32) + p2) 681 ∧ (((I2 45 (((6 : Int32) + p1).toNatClampNeg)) = (I2 45 (((6 : Int32) + p2).toNatClampNeg)) → Q (0 : Int32) I2 J2) ∧ (¬ (I2 45 (((6 : Int32) + p1).toNatClampNeg)) = (I2 45 (((6 : Int32) + p2).toNatClampNeg)) → Q (1 : Int32) I2 J2))))))))))))) : wp S (d + 1) 233 0 [some (.ref 43), some (.int p1), some (.int p2)] [] (wv x I J) (rI x Q) := by
  refine wp_seg (C := gC233) (pc1 := 2) (Lo1 := [some (.ref 43), some (.int p1), some (.int p2)]) (st1' := [.int p1, .ref 43]) (w1 := (wv x I J)) hC233 2 rfl ?_
  refine cv_I (mj := 183) (a := 43) (as := [.int p1]) (r := []) rfl rfl rfl ⟨rfl, by decide, Nat.le_of_ble_eq_true rfl, Nat.le_of_ble_eq_true rfl⟩ rfl (wcI_mono k (fun r1 I1 J1 k => ?_))
  refine wi_eq (tgt := 41) rfl rfl (fun h => ?_) (fun h => ?_)
  · have k := k.1 h
    refine wp_seg (C := gC233) (pc1 := 42) (Lo1 := [some (.ref 43), some (.int p1), some (.int p2)]) (st1' := [.int (0 : Int32)]) (w1 := (wv x I1 J1)) hC233 1 rfl ?_
    exact we_z rfl rfl (Or.inl rfl) k
  · have k := k.2 h
    refine wp_seg (C := gC233) (pc1 := 10) (Lo1 := [some (.ref 43), some (.int p1), some (.int p2)]) (st1' := [.int p2, .ref 43]) (w1 := (wv x I1 J1)) hC233 2 rfl ?_
    refine cv_I (mj := 183) (a := 43) (as := [.int p2]) (r := []) rfl rfl rfl ⟨rfl, by decide, Nat.le_of_ble_eq_true rfl, Nat.le_of_ble_eq_true rfl⟩ rfl (wcI_mono k (fun r2 I2 J2 k => ?_))
    refine wi_eq (tgt := 41) rfl rfl (fun h => ?_) (fun h => ?_)
    · have k := k.1 h
      refine wp_seg (C := gC233) (pc1 := 42) (Lo1 := [some (.ref 43), some (.int p1), some (.int p2)]) (st1' := [.int (0 : Int32)]) (w1 := (wv x I2 J2)) hC233 1 rfl ?_
      exact we_z rfl rfl (Or.inl rfl) k
    · have k := k.2 h
      refine wp_seg (C := gC233) (pc1 := 24) (Lo1 := [some (.ref 43), some (.int p1), some (.int p2)]) (st1' := [.int ((6 : Int32) + p1), .ref 45]) (w1 := (wv x I2 J2)) hC233 5 rfl ?_
      refine wa_i (n := 681) rfl (by decide) rfl k.1 ?_
      have k := k.2
      refine wp_seg (C := gC233) (pc1 := 33) (Lo1 := [some (.ref 43), some (.int p1), some (.int p2)]) (st1' := [.int ((6 : Int32) + p2), .ref 45, .int (I2 45 (((6 : Int32) + p1).toNatClampNeg))]) (w1 := (wv x I2 J2)) hC233 5 rfl ?_
      refine wa_i (n := 681) rfl (by decide) rfl k.1 ?_
      have k := k.2
      refine wj_eq (tgt := 41) rfl rfl (fun h => ?_) (fun h => ?_)
      · have k := k.1 h
        refine wp_seg (C := gC233) (pc1 := 42) (Lo1 := [some (.ref 43), some (.int p1), some (.int p2)]) (st1' := [.int (0 : Int32)]) (w1 := (wv x I2 J2)) hC233 1 rfl ?_
        exact we_z rfl rfl (Or.inl rfl) k
      · have k := k.2 h
        refine wp_seg (C := gC233) (pc1 := 42) (Lo1 := [some (.ref 43), some (.int p1), some (.int p2)]) (st1' := [.int (1 : Int32)]) (w1 := (wv x I2 J2)) hC233 2 rfl ?_
        exact we_z rfl rfl (Or.inr rfl) k
set_option maxRecDepth 20000 in
theorem v234_43_0 {S : Nat × (Nat → Int32)} {d : Nat} {x : mX} {I : rI0} {J : rJ0} {Q : Int32 → rI0 → rJ0 → Prop} (k : (¬ mOut (2 : Int32) 681 ∧ (((24 : Int32) < (I 45 ((2 : Int32).toNatClampNeg)) → Q (-1 : Int32) (mSet I 43 0 (0 : Int32)) J) ∧ (¬ (24 : Int32) < (I 45 ((2 : Int32).toNatClampNeg)) → (wcI S d 202 [.ref 43, .long (J 43 16), .long (J 43 17)] x (mSet I 43 0 (0 : Int32)) J (fun r1 I1 J1 => (((I1 43 45) = (0 : Int32) → (¬ mOut (0 : Int32) 681 ∧ (¬ mOut (1 : Int32) 681 ∧ wp S (d + 1) 234 56 [some (.ref 43), some (.int ((I1 45 ((0 : Int32).toNatClampNeg)) * (I1 45 ((1 : Int32).toNatClampNeg)))), some (.int (0 : Int32)), none] [] (wv x I1 J1) (rI x Q)))) ∧ (¬ (I1 43 45) = (0 : Int32) → Q (-1 : Int32) I1 J1)))))))) : wp S (d + 1) 234 0 [some (.ref 43), none, none, none] [] (wv x I J) (rI x Q) := by
  refine wp_seg (C := gC234) (pc1 := 10) (Lo1 := [some (.ref 43), none, none, none]) (st1' := [.int (2 : Int32), .ref 45]) (w1 := (wv x (mSet I 43 0 (0 : Int32)) J)) hC234 6 rfl ?_
  refine wa_i (n := 681) rfl (by decide) rfl k.1 ?_
  have k := k.2
  refine wp_seg (C := gC234) (pc1 := 13) (Lo1 := [some (.ref 43), none, none, none]) (st1' := [.int (24 : Int32), .int (I 45 ((2 : Int32).toNatClampNeg))]) (w1 := (wv x (mSet I 43 0 (0 : Int32)) J)) hC234 1 rfl ?_
  refine wj_le (tgt := 18) rfl rfl (fun h => ?_) (fun h => ?_)
  · have k := k.1 h
    refine wp_seg (C := gC234) (pc1 := 17) (Lo1 := [some (.ref 43), none, none, none]) (st1' := [.int (-1 : Int32)]) (w1 := (wv x (mSet I 43 0 (0 : Int32)) J)) hC234 1 rfl ?_
    exact we_i rfl rfl k
  · have k := k.2 h
    refine wp_seg (C := gC234) (pc1 := 27) (Lo1 := [some (.ref 43), none, none, none]) (st1' := [.long (J 43 17), .long (J 43 16), .ref 43]) (w1 := (wv x (mSet I 43 0 (0 : Int32)) J)) hC234 5 rfl ?_
    refine cv_I (mj := 202) (a := 43) (as := [.long (J 43 16), .long (J 43 17)]) (r := []) rfl rfl rfl ⟨rfl, by decide, Nat.le_of_ble_eq_true rfl, Nat.le_of_ble_eq_true rfl⟩ rfl (wcI_mono k (fun r1 I1 J1 k => ?_))
    refine wp_seg (C := gC234) (pc1 := 35) (Lo1 := [some (.ref 43), none, none, none]) (st1' := [.int (I1 43 45)]) (w1 := (wv x I1 J1)) hC234 3 rfl ?_
    refine wi_eq (tgt := 40) rfl rfl (fun h => ?_) (fun h => ?_)
    · have k := k.1 h
      refine wp_seg (C := gC234) (pc1 := 45) (Lo1 := [some (.ref 43), none, none, none]) (st1' := [.int (0 : Int32), .ref 45]) (w1 := (wv x I1 J1)) hC234 3 rfl ?_
      refine wa_i (n := 681) rfl (by decide) rfl k.1 ?_
      have k := k.2
      refine wp_seg (C := gC234) (pc1 := 51) (Lo1 := [some (.ref 43), none, none, none]) (st1' := [.int (1 : Int32), .ref 45, .int (I1 45 ((0 : Int32).toNatClampNeg))]) (w1 := (wv x I1 J1)) hC234 3 rfl ?_
      refine wa_i (n := 681) rfl (by decide) rfl k.1 ?_
      have k := k.2
      refine wp_seg (C := gC234) (pc1 := 56) (Lo1 := [some (.ref 43), some (.int ((I1 45 ((0 : Int32).toNatClampNeg)) * (I1 45 ((1 : Int32).toNatClampNeg)))), some (.int (0 : Int32)), none]) (st1' := []) (w1 := (wv x I1 J1)) hC234 4 rfl ?_
      exact k
    · have k := k.2 h
      refine wp_seg (C := gC234) (pc1 := 39) (Lo1 := [some (.ref 43), none, none, none]) (st1' := [.int (-1 : Int32)]) (w1 := (wv x I1 J1)) hC234 1 rfl ?_
      exact we_i rfl rfl k
set_option maxRecDepth 20000 in
theorem v234_43_56 {S : Nat × (Nat → Int32)} {d : Nat} {x : mX} {I : rI0} {J : rJ0} {l1 : Int32} {l2 : Int32} {Q : Int32 → rI0 → rJ0 → Prop} (k : ((l2 < l1 → wp S (d + 1) 234 65 [some (.ref 43), some (.int l1), some (.int l2), some (.int (l2 + (1 : Int32)))] [] (wv x I J) (rI x Q)) ∧ (¬ l2 < l1 → Q (-1 : Int32) I J))) : wp S (d + 1) 234 56 [some (.ref 43), some (.int l1), some (.int l2), none] [] (wv x I J) (rI x Q) := by
  refine wp_seg (C := gC234) (pc1 := 58) (Lo1 := [some (.ref 43), some (.int l1), some (.int l2), none]) (st1' := [.int l1, .int l2]) (w1 := (wv x I J)) hC234 2 rfl ?_
  refine wj_ge (tgt := 133) rfl rfl (fun h => ?_) (fun h => ?_)
  · have k := k.1 h
    refine wp_seg (C := gC234) (pc1 := 65) (Lo1 := [some (.ref 43), some (.int l1), some (.int l2), some (.int (l2 + (1 : Int32)))]) (st1' := []) (w1 := (wv x I J)) hC234 4 rfl ?_
    exact k
  · have k := k.2 h
    refine wp_seg (C := gC234) (pc1 := 134) (Lo1 := [some (.ref 43), some (.int l1), some (.int l2), none]) (st1' := [.int (-1 : Int32)]) (w1 := (wv x I J)) hC234 1 rfl ?_
    exact we_i rfl rfl k
set_option maxRecDepth 20000 in
theorem v234_43_65 {S : Nat × (Nat → Int32)} {d : Nat} {x : mX} {I : rI0} {J : rJ0} {l1 : Int32} {l2 : Int32} {l3 : Int32} {Q : Int32 → rI0 → rJ0 → Prop} (k : ((l3 < l1 → (wcI S d 233 [.ref 43, .int l2, .int l3] x I J (fun r1 I1 J1 => ((r1 = (0 : Int32) → wp S (d + 1) 234 65 [some (.ref 43), some (.int l1), some (.int l2), some (.int (l3 + (1 : Int32)))] [] (wv x I1 J1) (rI x Q)) ∧ (¬ r1 = (0 : Int32) → (wcV S d 232 [.ref 43, .int l2, .int l3] x I1 J1 (fun I2 J2 => (wcI S d 202 [.ref 43, .long (J2 43 16), .long (J2 43 17)] x I2 J2 (fun r3 I3 J3 => (wcV S d 232 [.ref 43, .int l2, .int l3] x I3 J3 (fun I4 J4 => (((I4 43 45) = (0 : Int32) → wp S (d + 1) 234 65 [some (.ref 43), some (.int l1), some (.int l2), some (.int (l3 + (1 : Int32)))] [] (wv x I4 J4) (rI x Q)) ∧ (¬ (I4 43 45) = (0 : Int32) → Q (((100 : Int32) * l2) + l3) I4 J4))))))))))))) ∧ (¬ l3 < l1 → wp S (d + 1) 234 56 [some (.ref 43), some (.int l1), some (.int (l2 + (1 : Int32))), none] [] (wv x I J) (rI x Q)))) : wp S (d + 1) 234 65 [some (.ref 43), some (.int l1), some (.int l2), some (.int l3)] [] (wv x I J) (rI x Q) := by
  refine wp_seg (C := gC234) (pc1 := 67) (Lo1 := [some (.ref 43), some (.int l1), some (.int l2), some (.int l3)]) (st1' := [.int l1, .int l3]) (w1 := (wv x I J)) hC234 2 rfl ?_
  refine wj_ge (tgt := 127) rfl rfl (fun h => ?_) (fun h => ?_)
  · have k := k.1 h
    refine wp_seg (C := gC234) (pc1 := 73) (Lo1 := [some (.ref 43), some (.int l1), some (.int l2), some (.int l3)]) (st1' := [.int l3, .int l2, .ref 43]) (w1 := (wv x I J)) hC234 3 rfl ?_
    refine cv_I (mj := 233) (a := 43) (as := [.int l2, .int l3]) (r := []) rfl rfl rfl ⟨rfl, by decide, Nat.le_of_ble_eq_true rfl, Nat.le_of_ble_eq_true rfl⟩ rfl (wcI_mono k (fun r1 I1 J1 k => ?_))
    refine wi_ne (tgt := 82) rfl rfl (fun h => ?_) (fun h => ?_)
    · have k := k.1 h
      refine wp_seg (C := gC234) (pc1 := 65) (Lo1 := [some (.ref 43), some (.int l1), some (.int l2), some (.int (l3 + (1 : Int32)))]) (st1' := []) (w1 := (wv x I1 J1)) hC234 3 rfl ?_
      exact k
    · have k := k.2 h
      refine wp_seg (C := gC234) (pc1 := 85) (Lo1 := [some (.ref 43), some (.int l1), some (.int l2), some (.int l3)]) (st1' := [.int l3, .int l2, .ref 43]) (w1 := (wv x I1 J1)) hC234 3 rfl ?_
      refine cv_V (mj := 232) (a := 43) (as := [.int l2, .int l3]) (r := []) rfl rfl rfl ⟨rfl, by decide, Nat.le_of_ble_eq_true rfl, Nat.le_of_ble_eq_true rfl⟩ rfl (wcV_mono k (fun I2 J2 k => ?_))
      refine wp_seg (C := gC234) (pc1 := 97) (Lo1 := [some (.ref 43), some (.int l1), some (.int l2), some (.int l3)]) (st1' := [.long (J2 43 17), .long (J2 43 16), .ref 43]) (w1 := (wv x I2 J2)) hC234 5 rfl ?_
      refine cv_I (mj := 202) (a := 43) (as := [.long (J2 43 16), .long (J2 43 17)]) (r := []) rfl rfl rfl ⟨rfl, by decide, Nat.le_of_ble_eq_true rfl, Nat.le_of_ble_eq_true rfl⟩ rfl (wcI_mono k (fun r3 I3 J3 k => ?_))
      refine wp_seg (C := gC234) (pc1 := 104) (Lo1 := [some (.ref 43), some (.int l1), some (.int l2), some (.int l3)]) (st1' := [.int l3, .int l2, .ref 43]) (w1 := (wv x I3 J3)) hC234 4 rfl ?_
      refine cv_V (mj := 232) (a := 43) (as := [.int l2, .int l3]) (r := []) rfl rfl rfl ⟨rfl, by decide, Nat.le_of_ble_eq_true rfl, Nat.le_of_ble_eq_true rfl⟩ rfl (wcV_mono k (fun I4 J4 k => ?_))
      refine wp_seg (C := gC234) (pc1 := 111) (Lo1 := [some (.ref 43), some (.int l1), some (.int l2), some (.int l3)]) (st1' := [.int (I4 43 45)]) (w1 := (wv x I4 J4)) hC234 2 rfl ?_
      refine wi_eq (tgt := 121) rfl rfl (fun h => ?_) (fun h => ?_)
      · have k := k.1 h
        refine wp_seg (C := gC234) (pc1 := 65) (Lo1 := [some (.ref 43), some (.int l1), some (.int l2), some (.int (l3 + (1 : Int32)))]) (st1' := []) (w1 := (wv x I4 J4)) hC234 2 rfl ?_
        exact k
      · have k := k.2 h
        refine wp_seg (C := gC234) (pc1 := 120) (Lo1 := [some (.ref 43), some (.int l1), some (.int l2), some (.int l3)]) (st1' := [.int (((100 : Int32) * l2) + l3)]) (w1 := (wv x I4 J4)) hC234 5 rfl ?_
        exact we_i rfl rfl k
  · have k := k.2 h
    refine wp_seg (C := gC234) (pc1 := 56) (Lo1 := [some (.ref 43), some (.int l1), some (.int (l2 + (1 : Int32))), some (.int l3)]) (st1' := []) (w1 := (wv x I J)) hC234 2 rfl ?_
    exact wp_sub (Lo := [some (.ref 43), some (.int l1), some (.int (l2 + (1 : Int32))), none]) (And.intro rfl (And.intro rfl (And.intro rfl (trivial)))) k
set_option maxRecDepth 20000 in
theorem v235_43_0 {S : Nat × (Nat → Int32)} {d : Nat} {x : mX} {I : rI0} {J : rJ0} {p1 : Int32} {p2 : Int32} {Q : Int32 → rI0 → rJ0 → Prop} (k : (wcI S d 183 [.ref 43, .int p1] x (mSet I 43 0 (0 : Int32)) J (fun r1 I1 J1 => ((r1 = (0 : Int32) → Q (0 : Int32) I1 J1) ∧ (¬ r1 = (0 : Int32) → (wcI S d 183 [.ref 43, .int p2] x I1 J1 (fun r2 I2 J2 => ((r2 = (0 : Int32) → Q (0 : Int32) I2 J2) ∧ (¬ r2 = (0 : Int32) → ((p1 = p2 → Q (0 : Int32) I2 J2) ∧ (¬ p1 = p2 → (wcV S d 232 [.ref 43, .int p1, .int p2] x I2 J2 (fun I3 J3 => Q (1 : Int32) I3 J3))))))))))))) : wp S (d + 1) 235 0 [some (.ref 43), some (.int p1), some (.int p2)] [] (wv x I J) (rI x Q) := by
  refine wp_seg (C := gC235) (pc1 := 7) (Lo1 := [some (.ref 43), some (.int p1), some (.int p2)]) (st1' := [.int p1, .ref 43]) (w1 := (wv x (mSet I 43 0 (0 : Int32)) J)) hC235 5 rfl ?_
  refine cv_I (mj := 183) (a := 43) (as := [.int p1]) (r := []) rfl rfl rfl ⟨rfl, by decide, Nat.le_of_ble_eq_true rfl, Nat.le_of_ble_eq_true rfl⟩ rfl (wcI_mono k (fun r1 I1 J1 k => ?_))
  refine wi_eq (tgt := 26) rfl rfl (fun h => ?_) (fun h => ?_)
  · have k := k.1 h
    refine wp_seg (C := gC235) (pc1 := 27) (Lo1 := [some (.ref 43), some (.int p1), some (.int p2)]) (st1' := [.int (0 : Int32)]) (w1 := (wv x I1 J1)) hC235 1 rfl ?_
    exact we_z rfl rfl (Or.inl rfl) k
  · have k := k.2 h
    refine wp_seg (C := gC235) (pc1 := 15) (Lo1 := [some (.ref 43), some (.int p1), some (.int p2)]) (st1' := [.int p2, .ref 43]) (w1 := (wv x I1 J1)) hC235 2 rfl ?_
    refine cv_I (mj := 183) (a := 43) (as := [.int p2]) (r := []) rfl rfl rfl ⟨rfl, by decide, Nat.le_of_ble_eq_true rfl, Nat.le_of_ble_eq_true rfl⟩ rfl (wcI_mono k (fun r2 I2 J2 k => ?_))
    refine wi_eq (tgt := 26) rfl rfl (fun h => ?_) (fun h => ?_)
    · have k := k.1 h
      refine wp_seg (C := gC235) (pc1 := 27) (Lo1 := [some (.ref 43), some (.int p1), some (.int p2)]) (st1' := [.int (0 : Int32)]) (w1 := (wv x I2 J2)) hC235 1 rfl ?_
      exact we_z rfl rfl (Or.inl rfl) k
    · have k := k.2 h
      refine wp_seg (C := gC235) (pc1 := 23) (Lo1 := [some (.ref 43), some (.int p1), some (.int p2)]) (st1' := [.int p2, .int p1]) (w1 := (wv x I2 J2)) hC235 2 rfl ?_
      refine wj_ne (tgt := 28) rfl rfl (fun h => ?_) (fun h => ?_)
      · have k := k.1 h
        refine wp_seg (C := gC235) (pc1 := 27) (Lo1 := [some (.ref 43), some (.int p1), some (.int p2)]) (st1' := [.int (0 : Int32)]) (w1 := (wv x I2 J2)) hC235 1 rfl ?_
        exact we_z rfl rfl (Or.inl rfl) k
      · have k := k.2 h
        refine wp_seg (C := gC235) (pc1 := 31) (Lo1 := [some (.ref 43), some (.int p1), some (.int p2)]) (st1' := [.int p2, .int p1, .ref 43]) (w1 := (wv x I2 J2)) hC235 3 rfl ?_
        refine cv_V (mj := 232) (a := 43) (as := [.int p1, .int p2]) (r := []) rfl rfl rfl ⟨rfl, by decide, Nat.le_of_ble_eq_true rfl, Nat.le_of_ble_eq_true rfl⟩ rfl (wcV_mono k (fun I3 J3 k => ?_))
        refine wp_seg (C := gC235) (pc1 := 35) (Lo1 := [some (.ref 43), some (.int p1), some (.int p2)]) (st1' := [.int (1 : Int32)]) (w1 := (wv x I3 J3)) hC235 1 rfl ?_
        exact we_z rfl rfl (Or.inr rfl) k
set_option maxRecDepth 20000 in
theorem v236_43_0 {S : Nat × (Nat → Int32)} {d : Nat} {x : mX} {I : rI0} {J : rJ0} {p1 : Int32} {Q : Int32 → rI0 → rJ0 → Prop} (k : (¬ mOut (0 : Int32) 681 ∧ (¬ mOut (1 : Int32) 681 ∧ wp S (d + 1) 236 16 [some (.ref 43), some (.int p1), some (.int ((I 45 ((0 : Int32).toNatClampNeg)) * (I 45 ((1 : Int32).toNatClampNeg)))), some (.int (0 : Int32)), none] [] (wv x I J) (rI x Q)))) : wp S (d + 1) 236 0 [some (.ref 43), some (.int p1), none, none, none] [] (wv x I J) (rI x Q) := by
  refine wp_seg (C := gC236) (pc1 := 5) (Lo1 := [some (.ref 43), some (.int p1), none, none, none]) (st1' := [.int (0 : Int32), .ref 45]) (w1 := (wv x I J)) hC236 3 rfl ?_
  refine wa_i (n := 681) rfl (by decide) rfl k.1 ?_
  have k := k.2
  refine wp_seg (C := gC236) (pc1 := 11) (Lo1 := [some (.ref 43), some (.int p1), none, none, none]) (st1' := [.int (1 : Int32), .ref 45, .int (I 45 ((0 : Int32).toNatClampNeg))]) (w1 := (wv x I J)) hC236 3 rfl ?_
  refine wa_i (n := 681) rfl (by decide) rfl k.1 ?_
  have k := k.2
  refine wp_seg (C := gC236) (pc1 := 16) (Lo1 := [some (.ref 43), some (.int p1), some (.int ((I 45 ((0 : Int32).toNatClampNeg)) * (I 45 ((1 : Int32).toNatClampNeg)))), some (.int (0 : Int32)), none]) (st1' := []) (w1 := (wv x I J)) hC236 4 rfl ?_
  exact k
set_option maxRecDepth 20000 in
theorem v236_43_16 {S : Nat × (Nat → Int32)} {d : Nat} {x : mX} {I : rI0} {J : rJ0} {l1 : Int32} {l2 : Int32} {l3 : Int32} {Q : Int32 → rI0 → rJ0 → Prop} (k : ((l3 < l2 → wp S (d + 1) 236 26 [some (.ref 43), some (.int l1), some (.int l2), some (.int l3), some (.int (l3 + (1 : Int32)))] [] (wv x I J) (rI x Q)) ∧ (¬ l3 < l2 → Q (0 : Int32) I J))) : wp S (d + 1) 236 16 [some (.ref 43), some (.int l1), some (.int l2), some (.int l3), none] [] (wv x I J) (rI x Q) := by
  refine wp_seg (C := gC236) (pc1 := 18) (Lo1 := [some (.ref 43), some (.int l1), some (.int l2), some (.int l3), none]) (st1' := [.int l2, .int l3]) (w1 := (wv x I J)) hC236 2 rfl ?_
  refine wj_ge (tgt := 89) rfl rfl (fun h => ?_) (fun h => ?_)
  · have k := k.1 h
    refine wp_seg (C := gC236) (pc1 := 26) (Lo1 := [some (.ref 43), some (.int l1), some (.int l2), some (.int l3), some (.int (l3 + (1 : Int32)))]) (st1' := []) (w1 := (wv x I J)) hC236 4 rfl ?_
    exact k
  · have k := k.2 h
    refine wp_seg (C := gC236) (pc1 := 90) (Lo1 := [some (.ref 43), some (.int l1), some (.int l2), some (.int l3), none]) (st1' := [.int (0 : Int32)]) (w1 := (wv x I J)) hC236 1 rfl ?_
    exact we_z rfl rfl (Or.inl rfl) k
set_option maxRecDepth 20000 in
theorem v236_43_26 {S : Nat × (Nat → Int32)} {d : Nat} {x : mX} {I : rI0} {J : rJ0} {l1 : Int32} {l2 : Int32} {l3 : Int32} {l4 : Int32} {Q : Int32 → rI0 → rJ0 → Prop} (k : ((l4 < l2 → (wcI S d 233 [.ref 43, .int l3, .int l4] x I J (fun r1 I1 J1 => ((r1 = (0 : Int32) → wp S (d + 1) 236 26 [some (.ref 43), some (.int l1), some (.int l2), some (.int l3), some (.int (l4 + (1 : Int32)))] [] (wv x I1 J1) (rI x Q)) ∧ (¬ r1 = (0 : Int32) → (wcV S d 232 [.ref 43, .int l3, .int l4] x I1 J1 (fun I2 J2 => (wcI S d 202 [.ref 43, .long (J2 43 16), .long (J2 43 17)] x I2 J2 (fun r3 I3 J3 => ((l1 < r3 → Q (1 : Int32) I3 J3) ∧ (¬ l1 < r3 → (wcV S d 232 [.ref 43, .int l3, .int l4] x I3 J3 (fun I4 J4 => wp S (d + 1) 236 26 [some (.ref 43), some (.int l1), some (.int l2), some (.int l3), some (.int (l4 + (1 : Int32)))] [] (wv x I4 J4) (rI x Q)))))))))))))) ∧ (¬ l4 < l2 → wp S (d + 1) 236 16 [some (.ref 43), some (.int l1), some (.int l2), some (.int (l3 + (1 : Int32))), none] [] (wv x I J) (rI x Q)))) : wp S (d + 1) 236 26 [some (.ref 43), some (.int l1), some (.int l2), some (.int l3), some (.int l4)] [] (wv x I J) (rI x Q) := by
  refine wp_seg (C := gC236) (pc1 := 29) (Lo1 := [some (.ref 43), some (.int l1), some (.int l2), some (.int l3), some (.int l4)]) (st1' := [.int l2, .int l4]) (w1 := (wv x I J)) hC236 2 rfl ?_
  refine wj_ge (tgt := 83) rfl rfl (fun h => ?_) (fun h => ?_)
  · have k := k.1 h
    refine wp_seg (C := gC236) (pc1 := 36) (Lo1 := [some (.ref 43), some (.int l1), some (.int l2), some (.int l3), some (.int l4)]) (st1' := [.int l4, .int l3, .ref 43]) (w1 := (wv x I J)) hC236 3 rfl ?_
    refine cv_I (mj := 233) (a := 43) (as := [.int l3, .int l4]) (r := []) rfl rfl rfl ⟨rfl, by decide, Nat.le_of_ble_eq_true rfl, Nat.le_of_ble_eq_true rfl⟩ rfl (wcI_mono k (fun r1 I1 J1 k => ?_))
    refine wi_ne (tgt := 45) rfl rfl (fun h => ?_) (fun h => ?_)
    · have k := k.1 h
      refine wp_seg (C := gC236) (pc1 := 26) (Lo1 := [some (.ref 43), some (.int l1), some (.int l2), some (.int l3), some (.int (l4 + (1 : Int32)))]) (st1' := []) (w1 := (wv x I1 J1)) hC236 3 rfl ?_
      exact k
    · have k := k.2 h
      refine wp_seg (C := gC236) (pc1 := 49) (Lo1 := [some (.ref 43), some (.int l1), some (.int l2), some (.int l3), some (.int l4)]) (st1' := [.int l4, .int l3, .ref 43]) (w1 := (wv x I1 J1)) hC236 3 rfl ?_
      refine cv_V (mj := 232) (a := 43) (as := [.int l3, .int l4]) (r := []) rfl rfl rfl ⟨rfl, by decide, Nat.le_of_ble_eq_true rfl, Nat.le_of_ble_eq_true rfl⟩ rfl (wcV_mono k (fun I2 J2 k => ?_))
      refine wp_seg (C := gC236) (pc1 := 61) (Lo1 := [some (.ref 43), some (.int l1), some (.int l2), some (.int l3), some (.int l4)]) (st1' := [.long (J2 43 17), .long (J2 43 16), .ref 43]) (w1 := (wv x I2 J2)) hC236 5 rfl ?_
      refine cv_I (mj := 202) (a := 43) (as := [.long (J2 43 16), .long (J2 43 17)]) (r := []) rfl rfl rfl ⟨rfl, by decide, Nat.le_of_ble_eq_true rfl, Nat.le_of_ble_eq_true rfl⟩ rfl (wcI_mono k (fun r3 I3 J3 k => ?_))
      refine wp_seg (C := gC236) (pc1 := 65) (Lo1 := [some (.ref 43), some (.int l1), some (.int l2), some (.int l3), some (.int l4)]) (st1' := [.int l1, .int r3]) (w1 := (wv x I3 J3)) hC236 1 rfl ?_
      refine wj_le (tgt := 70) rfl rfl (fun h => ?_) (fun h => ?_)
      · have k := k.1 h
        refine wp_seg (C := gC236) (pc1 := 69) (Lo1 := [some (.ref 43), some (.int l1), some (.int l2), some (.int l3), some (.int l4)]) (st1' := [.int (1 : Int32)]) (w1 := (wv x I3 J3)) hC236 1 rfl ?_
        exact we_z rfl rfl (Or.inr rfl) k
      · have k := k.2 h
        refine wp_seg (C := gC236) (pc1 := 74) (Lo1 := [some (.ref 43), some (.int l1), some (.int l2), some (.int l3), some (.int l4)]) (st1' := [.int l4, .int l3, .ref 43]) (w1 := (wv x I3 J3)) hC236 3 rfl ?_
        refine cv_V (mj := 232) (a := 43) (as := [.int l3, .int l4]) (r := []) rfl rfl rfl ⟨rfl, by decide, Nat.le_of_ble_eq_true rfl, Nat.le_of_ble_eq_true rfl⟩ rfl (wcV_mono k (fun I4 J4 k => ?_))
        refine wp_seg (C := gC236) (pc1 := 26) (Lo1 := [some (.ref 43), some (.int l1), some (.int l2), some (.int l3), some (.int (l4 + (1 : Int32)))]) (st1' := []) (w1 := (wv x I4 J4)) hC236 2 rfl ?_
        exact k
  · have k := k.2 h
    refine wp_seg (C := gC236) (pc1 := 16) (Lo1 := [some (.ref 43), some (.int l1), some (.int l2), some (.int (l3 + (1 : Int32))), some (.int l4)]) (st1' := []) (w1 := (wv x I J)) hC236 2 rfl ?_
    exact wp_sub (Lo := [some (.ref 43), some (.int l1), some (.int l2), some (.int (l3 + (1 : Int32))), none]) (And.intro rfl (And.intro rfl (And.intro rfl (And.intro rfl (trivial))))) k
set_option maxRecDepth 20000 in
theorem v237_43_0 {S : Nat × (Nat → Int32)} {d : Nat} {x : mX} {I : rI0} {J : rJ0} {Q : Int32 → rI0 → rJ0 → Prop} (k : (¬ mOut (2 : Int32) 681 ∧ (((24 : Int32) < (I 45 ((2 : Int32).toNatClampNeg)) → Q (-1 : Int32) (mSet I 43 0 (0 : Int32)) J) ∧ (¬ (24 : Int32) < (I 45 ((2 : Int32).toNatClampNeg)) → (wcI S d 202 [.ref 43, .long (J 43 16), .long (J 43 17)] x (mSet (mSet I 43 0 (0 : Int32)) 43 63 (0 : Int32)) J (fun r1 I1 J1 => wp S (d + 1) 237 36 [some (.ref 43), some (.int r1)] [] (wv x I1 J1) (rI x Q))))))) : wp S (d + 1) 237 0 [some (.ref 43), none] [] (wv x I J) (rI x Q) := by
  refine wp_seg (C := gC237) (pc1 := 10) (Lo1 := [some (.ref 43), none]) (st1' := [.int (2 : Int32), .ref 45]) (w1 := (wv x (mSet I 43 0 (0 : Int32)) J)) hC237 6 rfl ?_
  refine wa_i (n := 681) rfl (by decide) rfl k.1 ?_
  have k := k.2
  refine wp_seg (C := gC237) (pc1 := 13) (Lo1 := [some (.ref 43), none]) (st1' := [.int (24 : Int32), .int (I 45 ((2 : Int32).toNatClampNeg))]) (w1 := (wv x (mSet I 43 0 (0 : Int32)) J)) hC237 1 rfl ?_
  refine wj_le (tgt := 18) rfl rfl (fun h => ?_) (fun h => ?_)
  · have k := k.1 h
    refine wp_seg (C := gC237) (pc1 := 17) (Lo1 := [some (.ref 43), none]) (st1' := [.int (-1 : Int32)]) (w1 := (wv x (mSet I 43 0 (0 : Int32)) J)) hC237 1 rfl ?_
    exact we_i rfl rfl k
  · have k := k.2 h
    refine wp_seg (C := gC237) (pc1 := 32) (Lo1 := [some (.ref 43), none]) (st1' := [.long (J 43 17), .long (J 43 16), .ref 43]) (w1 := (wv x (mSet (mSet I 43 0 (0 : Int32)) 43 63 (0 : Int32)) J)) hC237 8 rfl ?_
    refine cv_I (mj := 202) (a := 43) (as := [.long (J 43 16), .long (J 43 17)]) (r := []) rfl rfl rfl ⟨rfl, by decide, Nat.le_of_ble_eq_true rfl, Nat.le_of_ble_eq_true rfl⟩ rfl (wcI_mono k (fun r1 I1 J1 k => ?_))
    refine wp_seg (C := gC237) (pc1 := 36) (Lo1 := [some (.ref 43), some (.int r1)]) (st1' := []) (w1 := (wv x I1 J1)) hC237 1 rfl ?_
    exact k
