set_option maxRecDepth 20000 in
theorem v237_43_36 {S : Nat × (Nat → Int32)} {d : Nat} {x : mX} {I : rI0} {J : rJ0} {l1 : Int32} {Q : Int32 → rI0 → rJ0 → Prop} (k : (((I 43 63) < (20 : Int32) → (wcI S d 236 [.ref 43, .int l1] x I J (fun r1 I1 J1 => ((r1 = (0 : Int32) → Q l1 I1 J1) ∧ (¬ r1 = (0 : Int32) → wp S (d + 1) 237 36 [some (.ref 43), some (.int (I1 43 44))] [] (wv x (mSet I1 43 63 ((I1 43 63) + (1 : Int32))) J1) (rI x Q)))))) ∧ (¬ (I 43 63) < (20 : Int32) → Q l1 I J))) : wp S (d + 1) 237 36 [some (.ref 43), some (.int l1)] [] (wv x I J) (rI x Q) := by
  refine wp_seg (C := gC237) (pc1 := 42) (Lo1 := [some (.ref 43), some (.int l1)]) (st1' := [.int (20 : Int32), .int (I 43 63)]) (w1 := (wv x I J)) hC237 3 rfl ?_
  refine wj_ge (tgt := 71) rfl rfl (fun h => ?_) (fun h => ?_)
  · have k := k.1 h
    refine wp_seg (C := gC237) (pc1 := 47) (Lo1 := [some (.ref 43), some (.int l1)]) (st1' := [.int l1, .ref 43]) (w1 := (wv x I J)) hC237 2 rfl ?_
    refine cv_I (mj := 236) (a := 43) (as := [.int l1]) (r := []) rfl rfl rfl ⟨rfl, by decide, Nat.le_of_ble_eq_true rfl, Nat.le_of_ble_eq_true rfl⟩ rfl (wcI_mono k (fun r1 I1 J1 k => ?_))
    refine wi_eq (tgt := 71) rfl rfl (fun h => ?_) (fun h => ?_)
    · have k := k.1 h
      refine wp_seg (C := gC237) (pc1 := 72) (Lo1 := [some (.ref 43), some (.int l1)]) (st1' := [.int l1]) (w1 := (wv x I1 J1)) hC237 1 rfl ?_
      exact we_i rfl rfl k
    · have k := k.2 h
      refine wp_seg (C := gC237) (pc1 := 36) (Lo1 := [some (.ref 43), some (.int (I1 43 44))]) (st1' := []) (w1 := (wv x (mSet I1 43 63 ((I1 43 63) + (1 : Int32))) J1)) hC237 10 rfl ?_
      exact k
  · have k := k.2 h
    refine wp_seg (C := gC237) (pc1 := 72) (Lo1 := [some (.ref 43), some (.int l1)]) (st1' := [.int l1]) (w1 := (wv x I J)) hC237 1 rfl ?_
    exact we_i rfl rfl k
set_option maxRecDepth 20000 in
theorem v238_43_0 {S : Nat × (Nat → Int32)} {d : Nat} {x : mX} {I : rI0} {J : rJ0} {Q : Int32 → rI0 → rJ0 → Prop} (k : Q (I 43 63) (mSet I 43 0 (0 : Int32)) J) : wp S d 238 0 [some (.ref 43)] [] (wv x I J) (rI x Q) := by
  refine wp_seg (C := gC238) (pc1 := 9) (Lo1 := [some (.ref 43)]) (st1' := [.int (I 43 63)]) (w1 := (wv x (mSet I 43 0 (0 : Int32)) J)) hC238 5 rfl ?_
  exact we_i rfl rfl k
set_option maxRecDepth 20000 in
theorem v239_43_0 {S : Nat × (Nat → Int32)} {d : Nat} {x : mX} {I : rI0} {J : rJ0} {p1 : Int32} {Q : Int32 → rI0 → rJ0 → Prop} (k : (wcI S d 183 [.ref 43, .int p1] x (mSet I 43 0 (0 : Int32)) J (fun r1 I1 J1 => ((r1 = (0 : Int32) → Q (-1 : Int32) I1 J1) ∧ (¬ r1 = (0 : Int32) → (wcI S d 202 [.ref 43, .long ((1 : Int64) <<< (p1.toInt64 &&& 63)), .long (J1 43 17)] x I1 J1 (fun r2 I2 J2 => Q r2 I2 J2))))))) : wp S (d + 1) 239 0 [some (.ref 43), some (.int p1)] [] (wv x I J) (rI x Q) := by
  refine wp_seg (C := gC239) (pc1 := 7) (Lo1 := [some (.ref 43), some (.int p1)]) (st1' := [.int p1, .ref 43]) (w1 := (wv x (mSet I 43 0 (0 : Int32)) J)) hC239 5 rfl ?_
  refine cv_I (mj := 183) (a := 43) (as := [.int p1]) (r := []) rfl rfl rfl ⟨rfl, by decide, Nat.le_of_ble_eq_true rfl, Nat.le_of_ble_eq_true rfl⟩ rfl (wcI_mono k (fun r1 I1 J1 k => ?_))
  refine wi_eq (tgt := 27) rfl rfl (fun h => ?_) (fun h => ?_)
  · have k := k.1 h
    refine wp_seg (C := gC239) (pc1 := 28) (Lo1 := [some (.ref 43), some (.int p1)]) (st1' := [.int (-1 : Int32)]) (w1 := (wv x I1 J1)) hC239 1 rfl ?_
    exact we_i rfl rfl k
  · have k := k.2 h
    refine wp_seg (C := gC239) (pc1 := 21) (Lo1 := [some (.ref 43), some (.int p1)]) (st1' := [.long (J1 43 17), .long ((1 : Int64) <<< (p1.toInt64 &&& 63)), .ref 43]) (w1 := (wv x I1 J1)) hC239 6 rfl ?_
    refine cv_I (mj := 202) (a := 43) (as := [.long ((1 : Int64) <<< (p1.toInt64 &&& 63)), .long (J1 43 17)]) (r := []) rfl rfl rfl ⟨rfl, by decide, Nat.le_of_ble_eq_true rfl, Nat.le_of_ble_eq_true rfl⟩ rfl (wcI_mono k (fun r2 I2 J2 k => ?_))
    refine wp_seg (C := gC239) (pc1 := 28) (Lo1 := [some (.ref 43), some (.int p1)]) (st1' := [.int r2]) (w1 := (wv x I2 J2)) hC239 1 rfl ?_
    exact we_i rfl rfl k
set_option maxRecDepth 20000 in
theorem v240_43_0 {S : Nat × (Nat → Int32)} {d : Nat} {x : mX} {I : rI0} {J : rJ0} {p1 : Int32} {Q : Int32 → rI0 → rJ0 → Prop} (k : (wcI S d 151 [.int p1, .int (0 : Int32), .int (1 : Int32)] x (mSet I 43 0 (0 : Int32)) J (fun r1 I1 J1 => ((r1 = (0 : Int32) → Q (-1 : Int32) I1 J1) ∧ (¬ r1 = (0 : Int32) → wp S (d + 1) 240 23 [some (.ref 43), some (.int p1), some (.int (-1 : Int32)), some (.int (-1 : Int32)), some (.int (0 : Int32)), none] [] (wv x I1 J1) (rI x Q)))))) : wp S (d + 1) 240 0 [some (.ref 43), some (.int p1), none, none, none, none] [] (wv x I J) (rI x Q) := by
  refine wp_seg (C := gC240) (pc1 := 8) (Lo1 := [some (.ref 43), some (.int p1), none, none, none, none]) (st1' := [.int (1 : Int32), .int (0 : Int32), .int p1]) (w1 := (wv x (mSet I 43 0 (0 : Int32)) J)) hC240 6 rfl ?_
  refine cs_I (mj := 151) (nn := 0) (as := [.int p1, .int (0 : Int32), .int (1 : Int32)]) (r := []) rfl rfl rfl ⟨rfl, by decide, Nat.le_of_ble_eq_true rfl, Nat.le_of_ble_eq_true rfl⟩ (by decide) (wcI_mono k (fun r1 I1 J1 k => ?_))
  refine wi_ne (tgt := 16) rfl rfl (fun h => ?_) (fun h => ?_)
  · have k := k.1 h
    refine wp_seg (C := gC240) (pc1 := 15) (Lo1 := [some (.ref 43), some (.int p1), none, none, none, none]) (st1' := [.int (-1 : Int32)]) (w1 := (wv x I1 J1)) hC240 1 rfl ?_
    exact we_i rfl rfl k
  · have k := k.2 h
    refine wp_seg (C := gC240) (pc1 := 20) (Lo1 := [some (.ref 43), some (.int p1), some (.int (-1 : Int32)), some (.int (-1 : Int32)), none, none]) (st1' := []) (w1 := (wv x I1 J1)) hC240 4 rfl ?_
    refine wp_seg (C := gC240) (pc1 := 23) (Lo1 := [some (.ref 43), some (.int p1), some (.int (-1 : Int32)), some (.int (-1 : Int32)), some (.int (0 : Int32)), none]) (st1' := []) (w1 := (wv x I1 J1)) hC240 2 rfl ?_
    exact k
set_option maxRecDepth 20000 in
theorem v240_43_23 {S : Nat × (Nat → Int32)} {d : Nat} {x : mX} {I : rI0} {J : rJ0} {l1 : Int32} {l2 : Int32} {l3 : Int32} {l4 : Int32} {Q : Int32 → rI0 → rJ0 → Prop} (k : (¬ mOut (0 : Int32) 681 ∧ (¬ mOut (1 : Int32) 681 ∧ ((l4 < ((I 45 ((0 : Int32).toNatClampNeg)) * (I 45 ((1 : Int32).toNatClampNeg))) → (wcI S d 183 [.ref 43, .int l4] x I J (fun r1 I1 J1 => ((r1 = (0 : Int32) → wp S (d + 1) 240 23 [some (.ref 43), some (.int l1), some (.int l2), some (.int l3), some (.int (l4 + (1 : Int32))), none] [] (wv x I1 J1) (rI x Q)) ∧ (¬ r1 = (0 : Int32) → (wcI S d 202 [.ref 43, .long ((1 : Int64) <<< (l4.toInt64 &&& 63)), .long (J1 43 17)] x I1 J1 (fun r2 I2 J2 => ((r2 < l3 → wp S (d + 1) 240 23 [some (.ref 43), some (.int l1), some (.int l2), some (.int l3), some (.int (l4 + (1 : Int32))), none] [] (wv x I2 J2) (rI x Q)) ∧ (¬ r2 < l3 → ((r2 = l3 → (wcI S d 188 [.ref 43, .int l4] x I2 J2 (fun r3 I3 J3 => (wcI S d 188 [.ref 43, .int l2] x I3 J3 (fun r4 I4 J4 => ((r3 < r4 → wp S (d + 1) 240 23 [some (.ref 43), some (.int l1), some (.int l4), some (.int r2), some (.int (l4 + (1 : Int32))), none] [] (wv x I4 J4) (rI x Q)) ∧ (¬ r3 < r4 → wp S (d + 1) 240 23 [some (.ref 43), some (.int l1), some (.int l2), some (.int l3), some (.int (l4 + (1 : Int32))), none] [] (wv x I4 J4) (rI x Q)))))))) ∧ (¬ r2 = l3 → wp S (d + 1) 240 23 [some (.ref 43), some (.int l1), some (.int l4), some (.int r2), some (.int (l4 + (1 : Int32))), none] [] (wv x I2 J2) (rI x Q)))))))))))) ∧ (¬ l4 < ((I 45 ((0 : Int32).toNatClampNeg)) * (I 45 ((1 : Int32).toNatClampNeg))) → ((l1 = (0 : Int32) → Q l2 I J) ∧ (¬ l1 = (0 : Int32) → Q l3 I J))))))) : wp S (d + 1) 240 23 [some (.ref 43), some (.int l1), some (.int l2), some (.int l3), some (.int l4), none] [] (wv x I J) (rI x Q) := by
  refine wp_seg (C := gC240) (pc1 := 30) (Lo1 := [some (.ref 43), some (.int l1), some (.int l2), some (.int l3), some (.int l4), none]) (st1' := [.int (0 : Int32), .ref 45, .int l4]) (w1 := (wv x I J)) hC240 4 rfl ?_
  refine wa_i (n := 681) rfl (by decide) rfl k.1 ?_
  have k := k.2
  refine wp_seg (C := gC240) (pc1 := 36) (Lo1 := [some (.ref 43), some (.int l1), some (.int l2), some (.int l3), some (.int l4), none]) (st1' := [.int (1 : Int32), .ref 45, .int (I 45 ((0 : Int32).toNatClampNeg)), .int l4]) (w1 := (wv x I J)) hC240 3 rfl ?_
  refine wa_i (n := 681) rfl (by decide) rfl k.1 ?_
  have k := k.2
  refine wp_seg (C := gC240) (pc1 := 38) (Lo1 := [some (.ref 43), some (.int l1), some (.int l2), some (.int l3), some (.int l4), none]) (st1' := [.int ((I 45 ((0 : Int32).toNatClampNeg)) * (I 45 ((1 : Int32).toNatClampNeg))), .int l4]) (w1 := (wv x I J)) hC240 1 rfl ?_
  refine wj_ge (tgt := 108) rfl rfl (fun h => ?_) (fun h => ?_)
  · have k := k.1 h
    refine wp_seg (C := gC240) (pc1 := 44) (Lo1 := [some (.ref 43), some (.int l1), some (.int l2), some (.int l3), some (.int l4), none]) (st1' := [.int l4, .ref 43]) (w1 := (wv x I J)) hC240 2 rfl ?_
    refine cv_I (mj := 183) (a := 43) (as := [.int l4]) (r := []) rfl rfl rfl ⟨rfl, by decide, Nat.le_of_ble_eq_true rfl, Nat.le_of_ble_eq_true rfl⟩ rfl (wcI_mono k (fun r1 I1 J1 k => ?_))
    refine wi_ne (tgt := 53) rfl rfl (fun h => ?_) (fun h => ?_)
    · have k := k.1 h
      refine wp_seg (C := gC240) (pc1 := 23) (Lo1 := [some (.ref 43), some (.int l1), some (.int l2), some (.int l3), some (.int (l4 + (1 : Int32))), none]) (st1' := []) (w1 := (wv x I1 J1)) hC240 3 rfl ?_
      exact k
    · have k := k.2 h
      refine wp_seg (C := gC240) (pc1 := 62) (Lo1 := [some (.ref 43), some (.int l1), some (.int l2), some (.int l3), some (.int l4), none]) (st1' := [.long (J1 43 17), .long ((1 : Int64) <<< (l4.toInt64 &&& 63)), .ref 43]) (w1 := (wv x I1 J1)) hC240 6 rfl ?_
      refine cv_I (mj := 202) (a := 43) (as := [.long ((1 : Int64) <<< (l4.toInt64 &&& 63)), .long (J1 43 17)]) (r := []) rfl rfl rfl ⟨rfl, by decide, Nat.le_of_ble_eq_true rfl, Nat.le_of_ble_eq_true rfl⟩ rfl (wcI_mono k (fun r2 I2 J2 k => ?_))
      refine wp_seg (C := gC240) (pc1 := 70) (Lo1 := [some (.ref 43), some (.int l1), some (.int l2), some (.int l3), some (.int l4), some (.int r2)]) (st1' := [.int l3, .int r2]) (w1 := (wv x I2 J2)) hC240 3 rfl ?_
      refine wj_lt (tgt := 102) rfl rfl (fun h => ?_) (fun h => ?_)
      · have k := k.1 h
        refine wp_seg (C := gC240) (pc1 := 23) (Lo1 := [some (.ref 43), some (.int l1), some (.int l2), some (.int l3), some (.int (l4 + (1 : Int32))), some (.int r2)]) (st1' := []) (w1 := (wv x I2 J2)) hC240 2 rfl ?_
        exact wp_sub (Lo := [some (.ref 43), some (.int l1), some (.int l2), some (.int l3), some (.int (l4 + (1 : Int32))), none]) (And.intro rfl (And.intro rfl (And.intro rfl (And.intro rfl (And.intro rfl (trivial)))))) k
      · have k := k.2 h
        refine wp_seg (C := gC240) (pc1 := 76) (Lo1 := [some (.ref 43), some (.int l1), some (.int l2), some (.int l3), some (.int l4), some (.int r2)]) (st1' := [.int l3, .int r2]) (w1 := (wv x I2 J2)) hC240 2 rfl ?_
        refine wj_ne (tgt := 96) rfl rfl (fun h => ?_) (fun h => ?_)
        · have k := k.1 h
          refine wp_seg (C := gC240) (pc1 := 82) (Lo1 := [some (.ref 43), some (.int l1), some (.int l2), some (.int l3), some (.int l4), some (.int r2)]) (st1' := [.int l4, .ref 43]) (w1 := (wv x I2 J2)) hC240 2 rfl ?_
          refine cv_I (mj := 188) (a := 43) (as := [.int l4]) (r := []) rfl rfl rfl ⟨rfl, by decide, Nat.le_of_ble_eq_true rfl, Nat.le_of_ble_eq_true rfl⟩ rfl (wcI_mono k (fun r3 I3 J3 k => ?_))
          refine wp_seg (C := gC240) (pc1 := 87) (Lo1 := [some (.ref 43), some (.int l1), some (.int l2), some (.int l3), some (.int l4), some (.int r2)]) (st1' := [.int l2, .ref 43, .int r3]) (w1 := (wv x I3 J3)) hC240 2 rfl ?_
          refine cv_I (mj := 188) (a := 43) (as := [.int l2]) (r := [.int r3]) rfl rfl rfl ⟨rfl, by decide, Nat.le_of_ble_eq_true rfl, Nat.le_of_ble_eq_true rfl⟩ rfl (wcI_mono k (fun r4 I4 J4 k => ?_))
          refine wj_lt (tgt := 96) rfl rfl (fun h => ?_) (fun h => ?_)
          · have k := k.1 h
            refine wp_seg (C := gC240) (pc1 := 102) (Lo1 := [some (.ref 43), some (.int l1), some (.int l4), some (.int r2), some (.int l4), some (.int r2)]) (st1' := []) (w1 := (wv x I4 J4)) hC240 4 rfl ?_
            refine wp_seg (C := gC240) (pc1 := 23) (Lo1 := [some (.ref 43), some (.int l1), some (.int l4), some (.int r2), some (.int (l4 + (1 : Int32))), some (.int r2)]) (st1' := []) (w1 := (wv x I4 J4)) hC240 2 rfl ?_
            exact wp_sub (Lo := [some (.ref 43), some (.int l1), some (.int l4), some (.int r2), some (.int (l4 + (1 : Int32))), none]) (And.intro rfl (And.intro rfl (And.intro rfl (And.intro rfl (And.intro rfl (trivial)))))) k
          · have k := k.2 h
            refine wp_seg (C := gC240) (pc1 := 23) (Lo1 := [some (.ref 43), some (.int l1), some (.int l2), some (.int l3), some (.int (l4 + (1 : Int32))), some (.int r2)]) (st1' := []) (w1 := (wv x I4 J4)) hC240 3 rfl ?_
            exact wp_sub (Lo := [some (.ref 43), some (.int l1), some (.int l2), some (.int l3), some (.int (l4 + (1 : Int32))), none]) (And.intro rfl (And.intro rfl (And.intro rfl (And.intro rfl (And.intro rfl (trivial)))))) k
        · have k := k.2 h
          refine wp_seg (C := gC240) (pc1 := 102) (Lo1 := [some (.ref 43), some (.int l1), some (.int l4), some (.int r2), some (.int l4), some (.int r2)]) (st1' := []) (w1 := (wv x I2 J2)) hC240 4 rfl ?_
          refine wp_seg (C := gC240) (pc1 := 23) (Lo1 := [some (.ref 43), some (.int l1), some (.int l4), some (.int r2), some (.int (l4 + (1 : Int32))), some (.int r2)]) (st1' := []) (w1 := (wv x I2 J2)) hC240 2 rfl ?_
          exact wp_sub (Lo := [some (.ref 43), some (.int l1), some (.int l4), some (.int r2), some (.int (l4 + (1 : Int32))), none]) (And.intro rfl (And.intro rfl (And.intro rfl (And.intro rfl (And.intro rfl (trivial)))))) k
  · have k := k.2 h
    refine wp_seg (C := gC240) (pc1 := 109) (Lo1 := [some (.ref 43), some (.int l1), some (.int l2), some (.int l3), some (.int l4), none]) (st1' := [.int l1]) (w1 := (wv x I J)) hC240 1 rfl ?_
    refine wi_ne (tgt := 116) rfl rfl (fun h => ?_) (fun h => ?_)
    · have k := k.1 h
      refine wp_seg (C := gC240) (pc1 := 117) (Lo1 := [some (.ref 43), some (.int l1), some (.int l2), some (.int l3), some (.int l4), none]) (st1' := [.int l2]) (w1 := (wv x I J)) hC240 2 rfl ?_
      exact we_i rfl rfl k
    · have k := k.2 h
      refine wp_seg (C := gC240) (pc1 := 117) (Lo1 := [some (.ref 43), some (.int l1), some (.int l2), some (.int l3), some (.int l4), none]) (st1' := [.int l3]) (w1 := (wv x I J)) hC240 1 rfl ?_
      exact we_i rfl rfl k
set_option maxRecDepth 20000 in
theorem v241_43_0 {S : Nat × (Nat → Int32)} {d : Nat} {x : mX} {I : rI0} {J : rJ0} {p1 : Int32} {Q : Int32 → rI0 → rJ0 → Prop} (k : (¬ p1 = 0 ∧ Q ((((((I 43 64) * (1103515245 : Int32)) + (12345 : Int32)).toUInt32 >>> ((8 : Int32).toUInt32 &&& Int32.toUInt32 31)).toInt32) - (((((I 43 64) * (1103515245 : Int32)) + (12345 : Int32)).toUInt32 >>> ((8 : Int32).toUInt32 &&& Int32.toUInt32 31)).toInt32) / p1 * p1) (mSet I 43 64 (((I 43 64) * (1103515245 : Int32)) + (12345 : Int32))) J)) : wp S d 241 0 [some (.ref 43), some (.int p1)] [] (wv x I J) (rI x Q) := by
  refine wp_seg (C := gC241) (pc1 := 23) (Lo1 := [some (.ref 43), some (.int p1)]) (st1' := [.int (((((I 43 64) * (1103515245 : Int32)) + (12345 : Int32)).toUInt32 >>> ((8 : Int32).toUInt32 &&& Int32.toUInt32 31)).toInt32)]) (w1 := (wv x (mSet I 43 64 (((I 43 64) * (1103515245 : Int32)) + (12345 : Int32))) J)) hC241 12 rfl ?_
  refine wp_seg (C := gC241) (pc1 := 24) (Lo1 := [some (.ref 43), some (.int p1)]) (st1' := [.int p1, .int (((((I 43 64) * (1103515245 : Int32)) + (12345 : Int32)).toUInt32 >>> ((8 : Int32).toUInt32 &&& Int32.toUInt32 31)).toInt32)]) (w1 := (wv x (mSet I 43 64 (((I 43 64) * (1103515245 : Int32)) + (12345 : Int32))) J)) hC241 1 rfl ?_
  refine wd_r rfl k.1 ?_
  have k := k.2
  exact we_i rfl rfl k
set_option maxRecDepth 20000 in
theorem v242_43_0 {S : Nat × (Nat → Int32)} {d : Nat} {x : mX} {I : rI0} {J : rJ0} {p1 : Int32} {p2 : Int32} {Q : Int32 → rI0 → rJ0 → Prop} (k : (¬ mOut (2 : Int32) 681 ∧ (wcI S d 151 [.int p1, .int (1 : Int32), .int (I 45 ((2 : Int32).toNatClampNeg))] x (mSet I 43 0 (0 : Int32)) J (fun r1 I1 J1 => ((r1 = (0 : Int32) → Q (0 : Int32) I1 J1) ∧ (¬ r1 = (0 : Int32) → wp S (d + 1) 242 31 [some (.ref 43), some (.int p1), some (.int p2), some (.long (0 : Int64)), none, some (.int (0 : Int32)), none, none] [] (wv x (mSet I1 43 64 p2) J1) (rI x Q))))))) : wp S (d + 1) 242 0 [some (.ref 43), some (.int p1), some (.int p2), none, none, none, none, none] [] (wv x I J) (rI x Q) := by
  refine wp_seg (C := gC242) (pc1 := 12) (Lo1 := [some (.ref 43), some (.int p1), some (.int p2), none, none, none, none, none]) (st1' := [.int (2 : Int32), .ref 45, .int (1 : Int32), .int p1]) (w1 := (wv x (mSet I 43 0 (0 : Int32)) J)) hC242 8 rfl ?_
  refine wa_i (n := 681) rfl (by decide) rfl k.1 ?_
  have k := k.2
  refine cs_I (mj := 151) (nn := 0) (as := [.int p1, .int (1 : Int32), .int (I 45 ((2 : Int32).toNatClampNeg))]) (r := []) rfl rfl rfl ⟨rfl, by decide, Nat.le_of_ble_eq_true rfl, Nat.le_of_ble_eq_true rfl⟩ (by decide) (wcI_mono k (fun r1 I1 J1 k => ?_))
  refine wi_ne (tgt := 21) rfl rfl (fun h => ?_) (fun h => ?_)
  · have k := k.1 h
    refine wp_seg (C := gC242) (pc1 := 20) (Lo1 := [some (.ref 43), some (.int p1), some (.int p2), none, none, none, none, none]) (st1' := [.int (0 : Int32)]) (w1 := (wv x I1 J1)) hC242 1 rfl ?_
    exact we_z rfl rfl (Or.inl rfl) k
  · have k := k.2 h
    refine wp_seg (C := gC242) (pc1 := 31) (Lo1 := [some (.ref 43), some (.int p1), some (.int p2), some (.long (0 : Int64)), none, some (.int (0 : Int32)), none, none]) (st1' := []) (w1 := (wv x (mSet I1 43 64 p2) J1)) hC242 7 rfl ?_
    exact k
set_option maxRecDepth 20000 in
theorem v242_43_31 {S : Nat × (Nat → Int32)} {d : Nat} {x : mX} {I : rI0} {J : rJ0} {l1 : Int32} {l2 : Int32} {l3 : Int64} {l5 : Int32} {Q : Int32 → rI0 → rJ0 → Prop} (k : ((l5 < l1 → (¬ mOut (2 : Int32) 681 ∧ (wcI S d 241 [.ref 43, .int ((I 45 ((2 : Int32).toNatClampNeg)) - l5)] x I J (fun r1 I1 J1 => wp S (d + 1) 242 55 [some (.ref 43), some (.int l1), some (.int l2), some (.long l3), none, some (.int l5), some (.int r1), some (.int (0 : Int32))] [] (wv x I1 J1) (rI x Q))))) ∧ (¬ l5 < l1 → Q (1 : Int32) I (mSet J 43 16 l3)))) : wp S (d + 1) 242 31 [some (.ref 43), some (.int l1), some (.int l2), some (.long l3), none, some (.int l5), none, none] [] (wv x I J) (rI x Q) := by
  refine wp_seg (C := gC242) (pc1 := 34) (Lo1 := [some (.ref 43), some (.int l1), some (.int l2), some (.long l3), none, some (.int l5), none, none]) (st1' := [.int l1, .int l5]) (w1 := (wv x I J)) hC242 2 rfl ?_
  refine wj_ge (tgt := 125) rfl rfl (fun h => ?_) (fun h => ?_)
  · have k := k.1 h
    refine wp_seg (C := gC242) (pc1 := 43) (Lo1 := [some (.ref 43), some (.int l1), some (.int l2), some (.long l3), none, some (.int l5), none, none]) (st1' := [.int (2 : Int32), .ref 45, .ref 43]) (w1 := (wv x I J)) hC242 4 rfl ?_
    refine wa_i (n := 681) rfl (by decide) rfl k.1 ?_
    have k := k.2
    refine wp_seg (C := gC242) (pc1 := 47) (Lo1 := [some (.ref 43), some (.int l1), some (.int l2), some (.long l3), none, some (.int l5), none, none]) (st1' := [.int ((I 45 ((2 : Int32).toNatClampNeg)) - l5), .ref 43]) (w1 := (wv x I J)) hC242 2 rfl ?_
    refine cv_I (mj := 241) (a := 43) (as := [.int ((I 45 ((2 : Int32).toNatClampNeg)) - l5)]) (r := []) rfl rfl rfl ⟨rfl, by decide, Nat.le_of_ble_eq_true rfl, Nat.le_of_ble_eq_true rfl⟩ rfl (wcI_mono k (fun r1 I1 J1 k => ?_))
    refine wp_seg (C := gC242) (pc1 := 55) (Lo1 := [some (.ref 43), some (.int l1), some (.int l2), some (.long l3), none, some (.int l5), some (.int r1), some (.int (0 : Int32))]) (st1' := []) (w1 := (wv x I1 J1)) hC242 3 rfl ?_
    exact k
  · have k := k.2 h
    refine wp_seg (C := gC242) (pc1 := 131) (Lo1 := [some (.ref 43), some (.int l1), some (.int l2), some (.long l3), none, some (.int l5), none, none]) (st1' := [.int (1 : Int32)]) (w1 := (wv x I (mSet J 43 16 l3))) hC242 4 rfl ?_
    exact we_z rfl rfl (Or.inr rfl) k
set_option maxRecDepth 20000 in
theorem v242_43_55 {S : Nat × (Nat → Int32)} {d : Nat} {x : mX} {I : rI0} {J : rJ0} {l1 : Int32} {l2 : Int32} {l3 : Int64} {l5 : Int32} {l6 : Int32} {l7 : Int32} {Q : Int32 → rI0 → rJ0 → Prop} (k : (wcI S d 183 [.ref 43, .int l7] x I J (fun r1 I1 J1 => ((r1 = (0 : Int32) → wp S (d + 1) 242 78 [some (.ref 43), some (.int l1), some (.int l2), some (.long l3), none, some (.int l5), some (.int l6), some (.int l7)] [] (wv x I1 J1) (rI x Q)) ∧ (¬ r1 = (0 : Int32) → (wcI S d 153 [.long l3, .int l7] x I1 J1 (fun r2 I2 J2 => ((r2 = (0 : Int32) → (((0 : Int32) < l6 → wp S (d + 1) 242 78 [some (.ref 43), some (.int l1), some (.int l2), some (.long l3), none, some (.int l5), some (.int l6), some (.int l7)] [] (wv x I2 J2) (rI x Q)) ∧ (¬ (0 : Int32) < l6 → wp S (d + 1) 242 31 [some (.ref 43), some (.int l1), some (.int l2), some (.long (l3 ||| ((1 : Int64) <<< (l7.toInt64 &&& 63)))), none, some (.int (l5 + (1 : Int32))), none, none] [] (wv x I2 J2) (rI x Q)))) ∧ (¬ r2 = (0 : Int32) → wp S (d + 1) 242 78 [some (.ref 43), some (.int l1), some (.int l2), some (.long l3), none, some (.int l5), some (.int l6), some (.int l7)] [] (wv x I2 J2) (rI x Q)))))))))) : wp S (d + 1) 242 55 [some (.ref 43), some (.int l1), some (.int l2), some (.long l3), none, some (.int l5), some (.int l6), some (.int l7)] [] (wv x I J) (rI x Q) := by
  refine wp_seg (C := gC242) (pc1 := 58) (Lo1 := [some (.ref 43), some (.int l1), some (.int l2), some (.long l3), none, some (.int l5), some (.int l6), some (.int l7)]) (st1' := [.int l7, .ref 43]) (w1 := (wv x I J)) hC242 2 rfl ?_
  refine cv_I (mj := 183) (a := 43) (as := [.int l7]) (r := []) rfl rfl rfl ⟨rfl, by decide, Nat.le_of_ble_eq_true rfl, Nat.le_of_ble_eq_true rfl⟩ rfl (wcI_mono k (fun r1 I1 J1 k => ?_))
  refine wi_eq (tgt := 78) rfl rfl (fun h => ?_) (fun h => ?_)
  · have k := k.1 h
    exact k
  · have k := k.2 h
    refine wp_seg (C := gC242) (pc1 := 67) (Lo1 := [some (.ref 43), some (.int l1), some (.int l2), some (.long l3), none, some (.int l5), some (.int l6), some (.int l7)]) (st1' := [.int l7, .long l3]) (w1 := (wv x I1 J1)) hC242 2 rfl ?_
    refine cs_I (mj := 153) (nn := 0) (as := [.long l3, .int l7]) (r := []) rfl rfl rfl ⟨rfl, by decide, Nat.le_of_ble_eq_true rfl, Nat.le_of_ble_eq_true rfl⟩ (by decide) (wcI_mono k (fun r2 I2 J2 k => ?_))
    refine wi_ne (tgt := 78) rfl rfl (fun h => ?_) (fun h => ?_)
    · have k := k.1 h
      refine wp_seg (C := gC242) (pc1 := 75) (Lo1 := [some (.ref 43), some (.int l1), some (.int l2), some (.long l3), none, some (.int l5), some (.int l6), some (.int l7)]) (st1' := [.int l6]) (w1 := (wv x I2 J2)) hC242 1 rfl ?_
      refine wi_le (tgt := 112) rfl rfl (fun h => ?_) (fun h => ?_)
      · have k := k.1 h
        exact k
      · have k := k.2 h
        refine wp_seg (C := gC242) (pc1 := 122) (Lo1 := [some (.ref 43), some (.int l1), some (.int l2), some (.long (l3 ||| ((1 : Int64) <<< (l7.toInt64 &&& 63)))), none, some (.int (l5 + (1 : Int32))), some (.int l6), some (.int l7)]) (st1' := []) (w1 := (wv x I2 J2)) hC242 7 rfl ?_
        refine wp_seg (C := gC242) (pc1 := 31) (Lo1 := [some (.ref 43), some (.int l1), some (.int l2), some (.long (l3 ||| ((1 : Int64) <<< (l7.toInt64 &&& 63)))), none, some (.int (l5 + (1 : Int32))), some (.int l6), some (.int l7)]) (st1' := []) (w1 := (wv x I2 J2)) hC242 1 rfl ?_
        exact wp_sub (Lo := [some (.ref 43), some (.int l1), some (.int l2), some (.long (l3 ||| ((1 : Int64) <<< (l7.toInt64 &&& 63)))), none, some (.int (l5 + (1 : Int32))), none, none]) (And.intro rfl (And.intro rfl (And.intro rfl (And.intro rfl (And.intro rfl (trivial)))))) k
    · have k := k.2 h
      exact k
set_option maxRecDepth 20000 in
theorem v242_43_78 {S : Nat × (Nat → Int32)} {d : Nat} {x : mX} {I : rI0} {J : rJ0} {l1 : Int32} {l2 : Int32} {l3 : Int64} {l5 : Int32} {l6 : Int32} {l7 : Int32} {Q : Int32 → rI0 → rJ0 → Prop} (k : (wcI S d 183 [.ref 43, .int l7] x I J (fun r1 I1 J1 => ((r1 = (0 : Int32) → wp S (d + 1) 242 55 [some (.ref 43), some (.int l1), some (.int l2), some (.long l3), none, some (.int l5), some (.int (l6 - (0 : Int32))), some (.int (l7 + (1 : Int32)))] [] (wv x I1 J1) (rI x Q)) ∧ (¬ r1 = (0 : Int32) → (wcI S d 153 [.long l3, .int l7] x I1 J1 (fun r2 I2 J2 => ((r2 = (0 : Int32) → wp S (d + 1) 242 55 [some (.ref 43), some (.int l1), some (.int l2), some (.long l3), none, some (.int l5), some (.int (l6 - (1 : Int32))), some (.int (l7 + (1 : Int32)))] [] (wv x I2 J2) (rI x Q)) ∧ (¬ r2 = (0 : Int32) → wp S (d + 1) 242 55 [some (.ref 43), some (.int l1), some (.int l2), some (.long l3), none, some (.int l5), some (.int (l6 - (0 : Int32))), some (.int (l7 + (1 : Int32)))] [] (wv x I2 J2) (rI x Q)))))))))) : wp S (d + 1) 242 78 [some (.ref 43), some (.int l1), some (.int l2), some (.long l3), none, some (.int l5), some (.int l6), some (.int l7)] [] (wv x I J) (rI x Q) := by
  refine wp_seg (C := gC242) (pc1 := 83) (Lo1 := [some (.ref 43), some (.int l1), some (.int l2), some (.long l3), none, some (.int l5), some (.int l6), some (.int l7)]) (st1' := [.int l7, .ref 43, .int l6]) (w1 := (wv x I J)) hC242 3 rfl ?_
  refine cv_I (mj := 183) (a := 43) (as := [.int l7]) (r := [.int l6]) rfl rfl rfl ⟨rfl, by decide, Nat.le_of_ble_eq_true rfl, Nat.le_of_ble_eq_true rfl⟩ rfl (wcI_mono k (fun r1 I1 J1 k => ?_))
  refine wi_eq (tgt := 102) rfl rfl (fun h => ?_) (fun h => ?_)
  · have k := k.1 h
    refine wp_seg (C := gC242) (pc1 := 109) (Lo1 := [some (.ref 43), some (.int l1), some (.int l2), some (.long l3), none, some (.int l5), some (.int (l6 - (0 : Int32))), some (.int (l7 + (1 : Int32)))]) (st1' := []) (w1 := (wv x I1 J1)) hC242 4 rfl ?_
    refine wp_seg (C := gC242) (pc1 := 55) (Lo1 := [some (.ref 43), some (.int l1), some (.int l2), some (.long l3), none, some (.int l5), some (.int (l6 - (0 : Int32))), some (.int (l7 + (1 : Int32)))]) (st1' := []) (w1 := (wv x I1 J1)) hC242 1 rfl ?_
    exact k
  · have k := k.2 h
    refine wp_seg (C := gC242) (pc1 := 92) (Lo1 := [some (.ref 43), some (.int l1), some (.int l2), some (.long l3), none, some (.int l5), some (.int l6), some (.int l7)]) (st1' := [.int l7, .long l3, .int l6]) (w1 := (wv x I1 J1)) hC242 2 rfl ?_
    refine cs_I (mj := 153) (nn := 0) (as := [.long l3, .int l7]) (r := [.int l6]) rfl rfl rfl ⟨rfl, by decide, Nat.le_of_ble_eq_true rfl, Nat.le_of_ble_eq_true rfl⟩ (by decide) (wcI_mono k (fun r2 I2 J2 k => ?_))
    refine wi_ne (tgt := 102) rfl rfl (fun h => ?_) (fun h => ?_)
    · have k := k.1 h
      refine wp_seg (C := gC242) (pc1 := 109) (Lo1 := [some (.ref 43), some (.int l1), some (.int l2), some (.long l3), none, some (.int l5), some (.int (l6 - (1 : Int32))), some (.int (l7 + (1 : Int32)))]) (st1' := []) (w1 := (wv x I2 J2)) hC242 5 rfl ?_
      refine wp_seg (C := gC242) (pc1 := 55) (Lo1 := [some (.ref 43), some (.int l1), some (.int l2), some (.long l3), none, some (.int l5), some (.int (l6 - (1 : Int32))), some (.int (l7 + (1 : Int32)))]) (st1' := []) (w1 := (wv x I2 J2)) hC242 1 rfl ?_
      exact k
    · have k := k.2 h
      refine wp_seg (C := gC242) (pc1 := 109) (Lo1 := [some (.ref 43), some (.int l1), some (.int l2), some (.long l3), none, some (.int l5), some (.int (l6 - (0 : Int32))), some (.int (l7 + (1 : Int32)))]) (st1' := []) (w1 := (wv x I2 J2)) hC242 4 rfl ?_
      refine wp_seg (C := gC242) (pc1 := 55) (Lo1 := [some (.ref 43), some (.int l1), some (.int l2), some (.long l3), none, some (.int l5), some (.int (l6 - (0 : Int32))), some (.int (l7 + (1 : Int32)))]) (st1' := []) (w1 := (wv x I2 J2)) hC242 1 rfl ?_
      exact k
set_option maxRecDepth 20000 in
theorem v243_43_0 {S : Nat × (Nat → Int32)} {d : Nat} {x : mX} {I : rI0} {J : rJ0} {p1 : Int32} {Q : Int32 → rI0 → rJ0 → Prop} (k : (wcI S d 151 [.int p1, .int (0 : Int32), .int (1 : Int32)] x (mSet I 43 0 (0 : Int32)) J (fun r1 I1 J1 => ((r1 = (0 : Int32) → Q (0 : Int32) I1 J1) ∧ (¬ r1 = (0 : Int32) → wp S (d + 1) 243 18 [some (.ref 43), some (.int p1), some (.int (0 : Int32))] [] (wv x I1 J1) (rI x Q)))))) : wp S (d + 1) 243 0 [some (.ref 43), some (.int p1), none] [] (wv x I J) (rI x Q) := by
  refine wp_seg (C := gC243) (pc1 := 8) (Lo1 := [some (.ref 43), some (.int p1), none]) (st1' := [.int (1 : Int32), .int (0 : Int32), .int p1]) (w1 := (wv x (mSet I 43 0 (0 : Int32)) J)) hC243 6 rfl ?_
  refine cs_I (mj := 151) (nn := 0) (as := [.int p1, .int (0 : Int32), .int (1 : Int32)]) (r := []) rfl rfl rfl ⟨rfl, by decide, Nat.le_of_ble_eq_true rfl, Nat.le_of_ble_eq_true rfl⟩ (by decide) (wcI_mono k (fun r1 I1 J1 k => ?_))
  refine wi_ne (tgt := 16) rfl rfl (fun h => ?_) (fun h => ?_)
  · have k := k.1 h
    refine wp_seg (C := gC243) (pc1 := 15) (Lo1 := [some (.ref 43), some (.int p1), none]) (st1' := [.int (0 : Int32)]) (w1 := (wv x I1 J1)) hC243 1 rfl ?_
    exact we_z rfl rfl (Or.inl rfl) k
  · have k := k.2 h
    refine wp_seg (C := gC243) (pc1 := 18) (Lo1 := [some (.ref 43), some (.int p1), some (.int (0 : Int32))]) (st1' := []) (w1 := (wv x I1 J1)) hC243 2 rfl ?_
    exact k
set_option maxRecDepth 20000 in
theorem v243_43_18 {S : Nat × (Nat → Int32)} {d : Nat} {x : mX} {I : rI0} {J : rJ0} {l1 : Int32} {l2 : Int32} {Q : Int32 → rI0 → rJ0 → Prop} (k : ((l2 < (681 : Int32) → (¬ mOut l2 681 ∧ (¬ mOut (((681 : Int32) * l1) + l2) 1362 ∧ wp S (d + 1) 243 18 [some (.ref 43), some (.int l1), some (.int (l2 + (1 : Int32)))] [] (wv x (mSet I 63 ((((681 : Int32) * l1) + l2).toNatClampNeg) (I 45 l2.toNatClampNeg)) J) (rI x Q)))) ∧ (¬ l2 < (681 : Int32) → (¬ mOut l1 2 ∧ (¬ mOut l1 2 ∧ (¬ mOut l1 2 ∧ Q (1 : Int32) (mSet I 66 l1.toNatClampNeg (vp_nar .boolean (1 : Int32))) (mSet (mSet J 64 l1.toNatClampNeg (J 43 16)) 65 l1.toNatClampNeg (J 43 17)))))))) : wp S (d + 1) 243 18 [some (.ref 43), some (.int l1), some (.int l2)] [] (wv x I J) (rI x Q) := by
  refine wp_seg (C := gC243) (pc1 := 22) (Lo1 := [some (.ref 43), some (.int l1), some (.int l2)]) (st1' := [.int (681 : Int32), .int l2]) (w1 := (wv x I J)) hC243 2 rfl ?_
  refine wj_ge (tgt := 49) rfl rfl (fun h => ?_) (fun h => ?_)
  · have k := k.1 h
    refine wp_seg (C := gC243) (pc1 := 41) (Lo1 := [some (.ref 43), some (.int l1), some (.int l2)]) (st1' := [.int l2, .ref 45, .int (((681 : Int32) * l1) + l2), .ref 63]) (w1 := (wv x I J)) hC243 10 rfl ?_
    refine wa_i (n := 681) rfl (by decide) rfl k.1 ?_
    have k := k.2
    refine ws_i (n := 1362) rfl rfl k.1 ?_
    have k := k.2
    refine wp_seg (C := gC243) (pc1 := 18) (Lo1 := [some (.ref 43), some (.int l1), some (.int (l2 + (1 : Int32)))]) (st1' := []) (w1 := (wv x (mSet I 63 ((((681 : Int32) * l1) + l2).toNatClampNeg) (I 45 l2.toNatClampNeg)) J)) hC243 2 rfl ?_
    exact k
  · have k := k.2 h
    refine wp_seg (C := gC243) (pc1 := 58) (Lo1 := [some (.ref 43), some (.int l1), some (.int l2)]) (st1' := [.long (J 43 16), .int l1, .ref 64]) (w1 := (wv x I J)) hC243 5 rfl ?_
    refine ws_l (n := 2) rfl rfl k.1 ?_
    have k := k.2
    refine wp_seg (C := gC243) (pc1 := 68) (Lo1 := [some (.ref 43), some (.int l1), some (.int l2)]) (st1' := [.long (J 43 17), .int l1, .ref 65]) (w1 := (wv x I (mSet J 64 l1.toNatClampNeg (J 43 16)))) hC243 5 rfl ?_
    refine ws_l (n := 2) rfl rfl k.1 ?_
    have k := k.2
    refine wp_seg (C := gC243) (pc1 := 75) (Lo1 := [some (.ref 43), some (.int l1), some (.int l2)]) (st1' := [.int (1 : Int32), .int l1, .ref 66]) (w1 := (wv x I (mSet (mSet J 64 l1.toNatClampNeg (J 43 16)) 65 l1.toNatClampNeg (J 43 17)))) hC243 4 rfl ?_
    refine ws_z (n := 2) rfl rfl k.1 ?_
    have k := k.2
    refine wp_seg (C := gC243) (pc1 := 77) (Lo1 := [some (.ref 43), some (.int l1), some (.int l2)]) (st1' := [.int (1 : Int32)]) (w1 := (wv x (mSet I 66 l1.toNatClampNeg (vp_nar .boolean (1 : Int32))) (mSet (mSet J 64 l1.toNatClampNeg (J 43 16)) 65 l1.toNatClampNeg (J 43 17)))) hC243 1 rfl ?_
    exact we_z rfl rfl (Or.inr rfl) k
set_option maxRecDepth 20000 in
theorem v244_43_0 {S : Nat × (Nat → Int32)} {d : Nat} {x : mX} {I : rI0} {J : rJ0} {p1 : Int32} {Q : Int32 → rI0 → rJ0 → Prop} (k : (wcI S d 151 [.int p1, .int (0 : Int32), .int (1 : Int32)] x (mSet I 43 0 (0 : Int32)) J (fun r1 I1 J1 => ((r1 = (0 : Int32) → Q (0 : Int32) I1 J1) ∧ (¬ r1 = (0 : Int32) → (¬ mOut p1 2 ∧ (((I1 66 p1.toNatClampNeg) = (0 : Int32) → Q (0 : Int32) I1 J1) ∧ (¬ (I1 66 p1.toNatClampNeg) = (0 : Int32) → wp S (d + 1) 244 27 [some (.ref 43), some (.int p1), some (.int (0 : Int32))] [] (wv x I1 J1) (rI x Q))))))))) : wp S (d + 1) 244 0 [some (.ref 43), some (.int p1), none] [] (wv x I J) (rI x Q) := by
  refine wp_seg (C := gC244) (pc1 := 8) (Lo1 := [some (.ref 43), some (.int p1), none]) (st1' := [.int (1 : Int32), .int (0 : Int32), .int p1]) (w1 := (wv x (mSet I 43 0 (0 : Int32)) J)) hC244 6 rfl ?_
  refine cs_I (mj := 151) (nn := 0) (as := [.int p1, .int (0 : Int32), .int (1 : Int32)]) (r := []) rfl rfl rfl ⟨rfl, by decide, Nat.le_of_ble_eq_true rfl, Nat.le_of_ble_eq_true rfl⟩ (by decide) (wcI_mono k (fun r1 I1 J1 k => ?_))
  refine wi_eq (tgt := 23) rfl rfl (fun h => ?_) (fun h => ?_)
  · have k := k.1 h
    refine wp_seg (C := gC244) (pc1 := 24) (Lo1 := [some (.ref 43), some (.int p1), none]) (st1' := [.int (0 : Int32)]) (w1 := (wv x I1 J1)) hC244 1 rfl ?_
    exact we_z rfl rfl (Or.inl rfl) k
  · have k := k.2 h
    refine wp_seg (C := gC244) (pc1 := 19) (Lo1 := [some (.ref 43), some (.int p1), none]) (st1' := [.int p1, .ref 66]) (w1 := (wv x I1 J1)) hC244 3 rfl ?_
    refine wa_b (n := 2) rfl (Or.inr rfl) k.1 ?_
    have k := k.2
    refine wi_ne (tgt := 25) rfl rfl (fun h => ?_) (fun h => ?_)
    · have k := k.1 h
      refine wp_seg (C := gC244) (pc1 := 24) (Lo1 := [some (.ref 43), some (.int p1), none]) (st1' := [.int (0 : Int32)]) (w1 := (wv x I1 J1)) hC244 1 rfl ?_
      exact we_z rfl rfl (Or.inl rfl) k
    · have k := k.2 h
      refine wp_seg (C := gC244) (pc1 := 27) (Lo1 := [some (.ref 43), some (.int p1), some (.int (0 : Int32))]) (st1' := []) (w1 := (wv x I1 J1)) hC244 2 rfl ?_
      exact k
set_option maxRecDepth 20000 in
theorem v244_43_27 {S : Nat × (Nat → Int32)} {d : Nat} {x : mX} {I : rI0} {J : rJ0} {l1 : Int32} {l2 : Int32} {Q : Int32 → rI0 → rJ0 → Prop} (k : ((l2 < (681 : Int32) → (¬ mOut (((681 : Int32) * l1) + l2) 1362 ∧ (¬ mOut l2 681 ∧ wp S (d + 1) 244 27 [some (.ref 43), some (.int l1), some (.int (l2 + (1 : Int32)))] [] (wv x (mSet I 45 l2.toNatClampNeg (I 63 ((((681 : Int32) * l1) + l2).toNatClampNeg))) J) (rI x Q)))) ∧ (¬ l2 < (681 : Int32) → (¬ mOut l1 2 ∧ (¬ mOut l1 2 ∧ Q (1 : Int32) (mSet I 43 30 (1 : Int32)) (mSet (mSet J 43 16 (J 64 l1.toNatClampNeg)) 43 17 (J 65 l1.toNatClampNeg))))))) : wp S (d + 1) 244 27 [some (.ref 43), some (.int l1), some (.int l2)] [] (wv x I J) (rI x Q) := by
  refine wp_seg (C := gC244) (pc1 := 31) (Lo1 := [some (.ref 43), some (.int l1), some (.int l2)]) (st1' := [.int (681 : Int32), .int l2]) (w1 := (wv x I J)) hC244 2 rfl ?_
  refine wj_ge (tgt := 58) rfl rfl (fun h => ?_) (fun h => ?_)
  · have k := k.1 h
    refine wp_seg (C := gC244) (pc1 := 50) (Lo1 := [some (.ref 43), some (.int l1), some (.int l2)]) (st1' := [.int (((681 : Int32) * l1) + l2), .ref 63, .int l2, .ref 45]) (w1 := (wv x I J)) hC244 10 rfl ?_
    refine wa_i (n := 1362) rfl (by decide) rfl k.1 ?_
    have k := k.2
    refine ws_i (n := 681) rfl rfl k.1 ?_
    have k := k.2
    refine wp_seg (C := gC244) (pc1 := 27) (Lo1 := [some (.ref 43), some (.int l1), some (.int (l2 + (1 : Int32)))]) (st1' := []) (w1 := (wv x (mSet I 45 l2.toNatClampNeg (I 63 ((((681 : Int32) * l1) + l2).toNatClampNeg))) J)) hC244 2 rfl ?_
    exact k
  · have k := k.2 h
    refine wp_seg (C := gC244) (pc1 := 64) (Lo1 := [some (.ref 43), some (.int l1), some (.int l2)]) (st1' := [.int l1, .ref 64, .ref 43]) (w1 := (wv x I J)) hC244 4 rfl ?_
    refine wa_l (n := 2) rfl rfl k.1 ?_
    have k := k.2
    refine wp_seg (C := gC244) (pc1 := 74) (Lo1 := [some (.ref 43), some (.int l1), some (.int l2)]) (st1' := [.int l1, .ref 65, .ref 43]) (w1 := (wv x I (mSet J 43 16 (J 64 l1.toNatClampNeg)))) hC244 5 rfl ?_
    refine wa_l (n := 2) rfl rfl k.1 ?_
    have k := k.2
    refine wp_seg (C := gC244) (pc1 := 84) (Lo1 := [some (.ref 43), some (.int l1), some (.int l2)]) (st1' := [.int (1 : Int32)]) (w1 := (wv x (mSet I 43 30 (1 : Int32)) (mSet (mSet J 43 16 (J 64 l1.toNatClampNeg)) 43 17 (J 65 l1.toNatClampNeg)))) hC244 5 rfl ?_
    exact we_z rfl rfl (Or.inr rfl) k
set_option maxRecDepth 20000 in
theorem v245_43_0 {S : Nat × (Nat → Int32)} {d : Nat} {x : mX} {I : rI0} {J : rJ0} {p1 : Int32} {Q : Int32 → rI0 → rJ0 → Prop} (k : (wcI S d 151 [.int p1, .int (0 : Int32), .int (5 : Int32)] x (mSet I 43 0 (0 : Int32)) J (fun r1 I1 J1 => ((r1 = (0 : Int32) → ((p1 = (6 : Int32) → (wcI S d 154 [.long (J1 43 16)] x I1 J1 (fun r2 I2 J2 => Q r2 I2 J2))) ∧ (¬ p1 = (6 : Int32) → ((p1 = (7 : Int32) → (wcI S d 154 [.long (J1 43 17)] x I1 J1 (fun r3 I3 J3 => Q r3 I3 J3))) ∧ (¬ p1 = (7 : Int32) → ((p1 = (8 : Int32) → Q (I1 43 2) I1 J1) ∧ (¬ p1 = (8 : Int32) → ((p1 = (9 : Int32) → (¬ mOut (590 : Int32) 681 ∧ Q (I1 45 ((590 : Int32).toNatClampNeg)) I1 J1)) ∧ (¬ p1 = (9 : Int32) → Q (-1 : Int32) I1 J1))))))))) ∧ (¬ r1 = (0 : Int32) → (¬ mOut p1 681 ∧ Q (I1 45 p1.toNatClampNeg) I1 J1)))))) : wp S (d + 1) 245 0 [some (.ref 43), some (.int p1)] [] (wv x I J) (rI x Q) := by
  refine wp_seg (C := gC245) (pc1 := 8) (Lo1 := [some (.ref 43), some (.int p1)]) (st1' := [.int (5 : Int32), .int (0 : Int32), .int p1]) (w1 := (wv x (mSet I 43 0 (0 : Int32)) J)) hC245 6 rfl ?_
  refine cs_I (mj := 151) (nn := 0) (as := [.int p1, .int (0 : Int32), .int (5 : Int32)]) (r := []) rfl rfl rfl ⟨rfl, by decide, Nat.le_of_ble_eq_true rfl, Nat.le_of_ble_eq_true rfl⟩ (by decide) (wcI_mono k (fun r1 I1 J1 k => ?_))
  refine wi_eq (tgt := 21) rfl rfl (fun h => ?_) (fun h => ?_)
  · have k := k.1 h
    refine wp_seg (C := gC245) (pc1 := 24) (Lo1 := [some (.ref 43), some (.int p1)]) (st1' := [.int (6 : Int32), .int p1]) (w1 := (wv x I1 J1)) hC245 2 rfl ?_
    refine wj_ne (tgt := 37) rfl rfl (fun h => ?_) (fun h => ?_)
    · have k := k.1 h
      refine wp_seg (C := gC245) (pc1 := 31) (Lo1 := [some (.ref 43), some (.int p1)]) (st1' := [.long (J1 43 16)]) (w1 := (wv x I1 J1)) hC245 2 rfl ?_
      refine cs_I (mj := 154) (nn := 0) (as := [.long (J1 43 16)]) (r := []) rfl rfl rfl ⟨rfl, by decide, Nat.le_of_ble_eq_true rfl, Nat.le_of_ble_eq_true rfl⟩ (by decide) (wcI_mono k (fun r2 I2 J2 k => ?_))
      refine wp_seg (C := gC245) (pc1 := 84) (Lo1 := [some (.ref 43), some (.int p1)]) (st1' := [.int r2]) (w1 := (wv x I2 J2)) hC245 1 rfl ?_
      exact we_i rfl rfl k
    · have k := k.2 h
      refine wp_seg (C := gC245) (pc1 := 40) (Lo1 := [some (.ref 43), some (.int p1)]) (st1' := [.int (7 : Int32), .int p1]) (w1 := (wv x I1 J1)) hC245 2 rfl ?_
      refine wj_ne (tgt := 53) rfl rfl (fun h => ?_) (fun h => ?_)
      · have k := k.1 h
        refine wp_seg (C := gC245) (pc1 := 47) (Lo1 := [some (.ref 43), some (.int p1)]) (st1' := [.long (J1 43 17)]) (w1 := (wv x I1 J1)) hC245 2 rfl ?_
        refine cs_I (mj := 154) (nn := 0) (as := [.long (J1 43 17)]) (r := []) rfl rfl rfl ⟨rfl, by decide, Nat.le_of_ble_eq_true rfl, Nat.le_of_ble_eq_true rfl⟩ (by decide) (wcI_mono k (fun r3 I3 J3 k => ?_))
        refine wp_seg (C := gC245) (pc1 := 84) (Lo1 := [some (.ref 43), some (.int p1)]) (st1' := [.int r3]) (w1 := (wv x I3 J3)) hC245 1 rfl ?_
        exact we_i rfl rfl k
      · have k := k.2 h
        refine wp_seg (C := gC245) (pc1 := 56) (Lo1 := [some (.ref 43), some (.int p1)]) (st1' := [.int (8 : Int32), .int p1]) (w1 := (wv x I1 J1)) hC245 2 rfl ?_
        refine wj_ne (tgt := 66) rfl rfl (fun h => ?_) (fun h => ?_)
        · have k := k.1 h
          refine wp_seg (C := gC245) (pc1 := 84) (Lo1 := [some (.ref 43), some (.int p1)]) (st1' := [.int (I1 43 2)]) (w1 := (wv x I1 J1)) hC245 3 rfl ?_
          exact we_i rfl rfl k
        · have k := k.2 h
          refine wp_seg (C := gC245) (pc1 := 69) (Lo1 := [some (.ref 43), some (.int p1)]) (st1' := [.int (9 : Int32), .int p1]) (w1 := (wv x I1 J1)) hC245 2 rfl ?_
          refine wj_ne (tgt := 83) rfl rfl (fun h => ?_) (fun h => ?_)
          · have k := k.1 h
            refine wp_seg (C := gC245) (pc1 := 79) (Lo1 := [some (.ref 43), some (.int p1)]) (st1' := [.int (590 : Int32), .ref 45]) (w1 := (wv x I1 J1)) hC245 3 rfl ?_
            refine wa_i (n := 681) rfl (by decide) rfl k.1 ?_
            have k := k.2
            refine wp_seg (C := gC245) (pc1 := 84) (Lo1 := [some (.ref 43), some (.int p1)]) (st1' := [.int (I1 45 ((590 : Int32).toNatClampNeg))]) (w1 := (wv x I1 J1)) hC245 1 rfl ?_
            exact we_i rfl rfl k
          · have k := k.2 h
            refine wp_seg (C := gC245) (pc1 := 84) (Lo1 := [some (.ref 43), some (.int p1)]) (st1' := [.int (-1 : Int32)]) (w1 := (wv x I1 J1)) hC245 1 rfl ?_
            exact we_i rfl rfl k
  · have k := k.2 h
    refine wp_seg (C := gC245) (pc1 := 19) (Lo1 := [some (.ref 43), some (.int p1)]) (st1' := [.int p1, .ref 45]) (w1 := (wv x I1 J1)) hC245 3 rfl ?_
    refine wa_i (n := 681) rfl (by decide) rfl k.1 ?_
    have k := k.2
    exact we_i rfl rfl k
set_option maxRecDepth 20000 in
theorem v66_1_0 {S : Nat × (Nat → Int32)} {d : Nat} {x : mX} {I : rI0} {J : rJ0} {p1 : Int32} {Q : rI0 → rJ0 → Prop} (k : wp S d 66 3 [some (.ref 1), some (.int p1), some (.int (24 : Int32))] [] (wv x I J) (rV x Q)) : wp S d 66 0 [some (.ref 1), some (.int p1), none] [] (wv x I J) (rV x Q) := by
  refine wp_seg (C := gC66) (pc1 := 3) (Lo1 := [some (.ref 1), some (.int p1), some (.int (24 : Int32))]) (st1' := []) (w1 := (wv x I J)) hC66 2 rfl ?_
  exact k
set_option maxRecDepth 20000 in
theorem v66_1_3 {S : Nat × (Nat → Int32)} {d : Nat} {x : mX} {I : rI0} {J : rJ0} {l1 : Int32} {l2 : Int32} {Q : rI0 → rJ0 → Prop} (k : ((l2 < (0 : Int32) → Q I J) ∧ (¬ l2 < (0 : Int32) → (((I 1 1) < (940 : Int32) → (¬ mOut (I 1 1) 940 ∧ wp S d 66 3 [some (.ref 1), some (.int l1), some (.int (l2 + (-8 : Int32)))] [] (wv x (mSet (mSet I 2 ((I 1 1).toNatClampNeg) (((l1.toUInt32 >>> (l2.toUInt32 &&& Int32.toUInt32 31)).toInt32) &&& (255 : Int32))) 1 1 ((I 1 1) + (1 : Int32))) J) (rV x Q))) ∧ (¬ (I 1 1) < (940 : Int32) → Q I J))))) : wp S d 66 3 [some (.ref 1), some (.int l1), some (.int l2)] [] (wv x I J) (rV x Q) := by
  refine wp_seg (C := gC66) (pc1 := 4) (Lo1 := [some (.ref 1), some (.int l1), some (.int l2)]) (st1' := [.int l2]) (w1 := (wv x I J)) hC66 1 rfl ?_
  refine wi_lt (tgt := 49) rfl rfl (fun h => ?_) (fun h => ?_)
  · have k := k.1 h
    exact we_v rfl rfl k
  · have k := k.2 h
    refine wp_seg (C := gC66) (pc1 := 14) (Lo1 := [some (.ref 1), some (.int l1), some (.int l2)]) (st1' := [.int (940 : Int32), .int (I 1 1)]) (w1 := (wv x I J)) hC66 3 rfl ?_
    refine wj_ge (tgt := 49) rfl rfl (fun h => ?_) (fun h => ?_)
    · have k := k.1 h
      refine wp_seg (C := gC66) (pc1 := 32) (Lo1 := [some (.ref 1), some (.int l1), some (.int l2)]) (st1' := [.int (((l1.toUInt32 >>> (l2.toUInt32 &&& Int32.toUInt32 31)).toInt32) &&& (255 : Int32)), .int (I 1 1), .ref 2]) (w1 := (wv x I J)) hC66 9 rfl ?_
      refine ws_i (n := 940) rfl rfl k.1 ?_
      have k := k.2
      refine wp_seg (C := gC66) (pc1 := 3) (Lo1 := [some (.ref 1), some (.int l1), some (.int (l2 + (-8 : Int32)))]) (st1' := []) (w1 := (wv x (mSet (mSet I 2 ((I 1 1).toNatClampNeg) (((l1.toUInt32 >>> (l2.toUInt32 &&& Int32.toUInt32 31)).toInt32) &&& (255 : Int32))) 1 1 ((I 1 1) + (1 : Int32))) J)) hC66 8 rfl ?_
      exact k
    · have k := k.2 h
      exact we_v rfl rfl k
set_option maxRecDepth 20000 in
theorem v14_15_0 {S : Nat × (Nat → Int32)} {d : Nat} {x : mX} {I : rI0} {J : rJ0} {Q : rI0 → rJ0 → Prop} (k : (wcV S d 21 [.ref 16] x I J (fun I1 J1 => Q (mSet I1 15 4 (0 : Int32)) (mSet (mSet J1 15 5 (0 : Int64)) 15 6 (0 : Int64))))) : wp S (d + 1) 14 0 [some (.ref 15)] [] (wv x I J) (rV x Q) := by
  refine wp_seg (C := gC14) (pc1 := 4) (Lo1 := [some (.ref 15)]) (st1' := [.ref 16]) (w1 := (wv x I J)) hC14 2 rfl ?_
  refine cv_V (mj := 21) (a := 16) (as := []) (r := []) rfl rfl rfl ⟨rfl, by decide, Nat.le_of_ble_eq_true rfl, Nat.le_of_ble_eq_true rfl⟩ rfl (wcV_mono k (fun I1 J1 k => ?_))
  refine wp_seg (C := gC14) (pc1 := 22) (Lo1 := [some (.ref 15)]) (st1' := []) (w1 := (wv x (mSet I1 15 4 (0 : Int32)) (mSet (mSet J1 15 5 (0 : Int64)) 15 6 (0 : Int64)))) hC14 9 rfl ?_
  exact we_v rfl rfl k
set_option maxRecDepth 20000 in
theorem v67_1_0 {S : Nat × (Nat → Int32)} {d : Nat} {x : mX} {I : rI0} {J : rJ0} {Q : Int32 → rI0 → rJ0 → Prop} (k : Q (I 1 1) (mSet I 1 1 (0 : Int32)) J) : wp S d 67 0 [some (.ref 1), none] [] (wv x I J) (rI x Q) := by
  refine wp_seg (C := gC67) (pc1 := 11) (Lo1 := [some (.ref 1), some (.int (I 1 1))]) (st1' := [.int (I 1 1)]) (w1 := (wv x (mSet I 1 1 (0 : Int32)) J)) hC67 7 rfl ?_
  exact we_i rfl rfl k
set_option maxRecDepth 20000 in
theorem v69_28_0 {S : Nat × (Nat → Int32)} {d : Nat} {x : mX} {I : rI0} {J : rJ0} {p1 : Int32} {p2 : Int32} {Q : rI0 → rJ0 → Prop} (k : (wcV S d 70 [.ref 28] x (mSet (mSet (mSet (mSet I 28 1 (if (940 : Int32) < p1 then (940 : Int32) else p1)) 28 2 (if p2 < (if (940 : Int32) < p1 then (940 : Int32) else p1) then p2 else if (940 : Int32) < p1 then (940 : Int32) else p1)) 28 5 (0 : Int32)) 28 8 (0 : Int32)) J (fun I1 J1 => Q I1 J1))) : wp S (d + 1) 69 0 [some (.ref 28), some (.int p1), some (.int p2)] [] (wv x I J) (rV x Q) := by
  refine wp_seg (C := gC69) (pc1 := 7) (Lo1 := [some (.ref 28), some (.int p1), some (.int p2)]) (st1' := [.int (940 : Int32), .int p1, .ref 28]) (w1 := (wv x I J)) hC69 5 rfl ?_
  refine wm_2 (f := fun x y => if y < x then y else x) rfl rfl (Or.inr ⟨rfl, rfl⟩) (Nat.le_of_ble_eq_true rfl) ?_
  refine wp_seg (C := gC69) (pc1 := 19) (Lo1 := [some (.ref 28), some (.int p1), some (.int p2)]) (st1' := [.int p2, .int (if (940 : Int32) < p1 then (940 : Int32) else p1), .ref 28]) (w1 := (wv x (mSet I 28 1 (if (940 : Int32) < p1 then (940 : Int32) else p1)) J)) hC69 5 rfl ?_
  refine wm_2 (f := fun x y => if y < x then y else x) rfl rfl (Or.inr ⟨rfl, rfl⟩) (Nat.le_of_ble_eq_true rfl) ?_
  refine wp_seg (C := gC69) (pc1 := 36) (Lo1 := [some (.ref 28), some (.int p1), some (.int p2)]) (st1' := [.ref 28]) (w1 := (wv x (mSet (mSet (mSet (mSet I 28 1 (if (940 : Int32) < p1 then (940 : Int32) else p1)) 28 2 (if p2 < (if (940 : Int32) < p1 then (940 : Int32) else p1) then p2 else if (940 : Int32) < p1 then (940 : Int32) else p1)) 28 5 (0 : Int32)) 28 8 (0 : Int32)) J)) hC69 8 rfl ?_
  refine cv_V (mj := 70) (a := 28) (as := []) (r := []) rfl rfl rfl ⟨rfl, by decide, Nat.le_of_ble_eq_true rfl, Nat.le_of_ble_eq_true rfl⟩ rfl (wcV_mono k (fun I1 J1 k => ?_))
  exact we_v rfl rfl k
set_option maxRecDepth 20000 in
theorem v36_29_0 {S : Nat × (Nat → Int32)} {d : Nat} {x : mX} {I : rI0} {J : rJ0} {Q : rI0 → rJ0 → Prop} (k : Q (mSet (mSet (mSet I 29 3 (0 : Int32)) 29 4 (0 : Int32)) 29 5 (0 : Int32)) J) : wp S d 36 0 [some (.ref 29)] [] (wv x I J) (rV x Q) := by
  refine wp_seg (C := gC36) (pc1 := 15) (Lo1 := [some (.ref 29)]) (st1' := []) (w1 := (wv x (mSet (mSet (mSet I 29 3 (0 : Int32)) 29 4 (0 : Int32)) 29 5 (0 : Int32)) J)) hC36 9 rfl ?_
  exact we_v rfl rfl k
set_option maxRecDepth 20000 in
theorem v37_29_0 {S : Nat × (Nat → Int32)} {d : Nat} {x : mX} {I : rI0} {J : rJ0} {Q : Int32 → rI0 → rJ0 → Prop} (k : (wcI S d 73 [.ref 28, .ref 1000001] x I J (fun r1 I1 J1 => ((r1.toInt < 0 ∨ 7 < r1.toInt → (wcI S d 75 [.ref 28, .int (1 : Int32)] x I1 J1 (fun r2 I2 J2 => ((r2 = (0 : Int32) → Q (0 : Int32) I2 J2) ∧ (¬ r2 = (0 : Int32) → (wcI S d 78 [.ref 28, .int (59 : Int32)] x I2 J2 (fun r3 I3 J3 => ((r3 = (0 : Int32) → Q (0 : Int32) I3 J3) ∧ (¬ r3 = (0 : Int32) → Q (1 : Int32) I3 J3))))))))) ∧ (r1.toInt = 0 → (wcI S d 38 [.ref 29] x I1 J1 (fun r4 I4 J4 => ((r4 = (0 : Int32) → Q (0 : Int32) I4 J4) ∧ (¬ r4 = (0 : Int32) → (wcI S d 78 [.ref 28, .int (59 : Int32)] x I4 J4 (fun r5 I5 J5 => ((r5 = (0 : Int32) → Q (0 : Int32) I5 J5) ∧ (¬ r5 = (0 : Int32) → Q (1 : Int32) I5 J5))))))))) ∧ (r1.toInt = 1 → (wcI S d 40 [.ref 29, .int (0 : Int32)] x I1 J1 (fun r6 I6 J6 => ((r6 = (0 : Int32) → Q (0 : Int32) I6 J6) ∧ (¬ r6 = (0 : Int32) → (wcI S d 78 [.ref 28, .int (59 : Int32)] x I6 J6 (fun r7 I7 J7 => ((r7 = (0 : Int32) → Q (0 : Int32) I7 J7) ∧ (¬ r7 = (0 : Int32) → Q (1 : Int32) I7 J7))))))))) ∧ (r1.toInt = 2 → (wcI S d 40 [.ref 29, .int (1 : Int32)] x I1 J1 (fun r8 I8 J8 => ((r8 = (0 : Int32) → Q (0 : Int32) I8 J8) ∧ (¬ r8 = (0 : Int32) → (wcI S d 78 [.ref 28, .int (59 : Int32)] x I8 J8 (fun r9 I9 J9 => ((r9 = (0 : Int32) → Q (0 : Int32) I9 J9) ∧ (¬ r9 = (0 : Int32) → Q (1 : Int32) I9 J9))))))))) ∧ (r1.toInt = 3 → (wcI S d 44 [.ref 29] x I1 J1 (fun r10 I10 J10 => ((r10 = (0 : Int32) → Q (0 : Int32) I10 J10) ∧ (¬ r10 = (0 : Int32) → (wcI S d 78 [.ref 28, .int (59 : Int32)] x I10 J10 (fun r11 I11 J11 => ((r11 = (0 : Int32) → Q (0 : Int32) I11 J11) ∧ (¬ r11 = (0 : Int32) → Q (1 : Int32) I11 J11))))))))) ∧ (r1.toInt = 4 → (wcI S d 45 [.ref 29] x I1 J1 (fun r12 I12 J12 => ((r12 = (0 : Int32) → Q (0 : Int32) I12 J12) ∧ (¬ r12 = (0 : Int32) → (wcI S d 78 [.ref 28, .int (59 : Int32)] x I12 J12 (fun r13 I13 J13 => ((r13 = (0 : Int32) → Q (0 : Int32) I13 J13) ∧ (¬ r13 = (0 : Int32) → Q (1 : Int32) I13 J13))))))))) ∧ (r1.toInt = 5 → (wcI S d 46 [.ref 29] x I1 J1 (fun r14 I14 J14 => ((r14 = (0 : Int32) → Q (0 : Int32) I14 J14) ∧ (¬ r14 = (0 : Int32) → (wcI S d 78 [.ref 28, .int (59 : Int32)] x I14 J14 (fun r15 I15 J15 => ((r15 = (0 : Int32) → Q (0 : Int32) I15 J15) ∧ (¬ r15 = (0 : Int32) → Q (1 : Int32) I15 J15))))))))) ∧ (r1.toInt = 6 → (wcI S d 47 [.ref 29] x I1 J1 (fun r16 I16 J16 => ((r16 = (0 : Int32) → Q (0 : Int32) I16 J16) ∧ (¬ r16 = (0 : Int32) → (wcI S d 78 [.ref 28, .int (59 : Int32)] x I16 J16 (fun r17 I17 J17 => ((r17 = (0 : Int32) → Q (0 : Int32) I17 J17) ∧ (¬ r17 = (0 : Int32) → Q (1 : Int32) I17 J17))))))))) ∧ (r1.toInt = 7 → (wcI S d 48 [.ref 29] x I1 J1 (fun r18 I18 J18 => ((r18 = (0 : Int32) → Q (0 : Int32) I18 J18) ∧ (¬ r18 = (0 : Int32) → (wcI S d 78 [.ref 28, .int (59 : Int32)] x I18 J18 (fun r19 I19 J19 => ((r19 = (0 : Int32) → Q (0 : Int32) I19 J19) ∧ (¬ r19 = (0 : Int32) → Q (1 : Int32) I19 J19))))))))) ∧ True)))) : wp S (d + 1) 37 0 [some (.ref 29), none] [] (wv x I J) (rI x Q) := by
  refine wp_seg (C := gC37) (pc1 := 6) (Lo1 := [some (.ref 29), none]) (st1' := [.ref 1000001, .ref 28]) (w1 := (wv x I J)) hC37 3 rfl ?_
  refine cv_I (mj := 73) (a := 28) (as := [.ref 1000001]) (r := []) rfl rfl rfl ⟨rfl, by decide, Nat.le_of_ble_eq_true rfl, Nat.le_of_ble_eq_true rfl⟩ rfl (wcI_mono k (fun r1 I1 J1 k => ?_))
  refine wt_tab (nn := 8) rfl ⟨rfl, rfl⟩ (fun h => ?_) (fun i hi hx => ?_)
  · have k := k.1 h
    show wp S (d + 1) 37 122 [some (.ref 29), none] [] (wv x I1 J1) (rI x Q)
    refine wp_seg (C := gC37) (pc1 := 127) (Lo1 := [some (.ref 29), none]) (st1' := [.int (1 : Int32), .ref 28]) (w1 := (wv x I1 J1)) hC37 3 rfl ?_
    refine cv_I (mj := 75) (a := 28) (as := [.int (1 : Int32)]) (r := []) rfl rfl rfl ⟨rfl, by decide, Nat.le_of_ble_eq_true rfl, Nat.le_of_ble_eq_true rfl⟩ rfl (wcI_mono k (fun r2 I2 J2 k => ?_))
    refine wp_seg (C := gC37) (pc1 := 132) (Lo1 := [some (.ref 29), some (.int r2)]) (st1' := [.int r2]) (w1 := (wv x I2 J2)) hC37 2 rfl ?_
    refine wi_eq (tgt := 151) rfl rfl (fun h => ?_) (fun h => ?_)
    · have k := k.1 h
      refine wp_seg (C := gC37) (pc1 := 152) (Lo1 := [some (.ref 29), some (.int r2)]) (st1' := [.int (0 : Int32)]) (w1 := (wv x I2 J2)) hC37 1 rfl ?_
      exact we_z rfl rfl (Or.inl rfl) k
    · have k := k.2 h
      refine wp_seg (C := gC37) (pc1 := 141) (Lo1 := [some (.ref 29), some (.int r2)]) (st1' := [.int (59 : Int32), .ref 28]) (w1 := (wv x I2 J2)) hC37 3 rfl ?_
      refine cv_I (mj := 78) (a := 28) (as := [.int (59 : Int32)]) (r := []) rfl rfl rfl ⟨rfl, by decide, Nat.le_of_ble_eq_true rfl, Nat.le_of_ble_eq_true rfl⟩ rfl (wcI_mono k (fun r3 I3 J3 k => ?_))
      refine wi_eq (tgt := 151) rfl rfl (fun h => ?_) (fun h => ?_)
      · have k := k.1 h
        refine wp_seg (C := gC37) (pc1 := 152) (Lo1 := [some (.ref 29), some (.int r2)]) (st1' := [.int (0 : Int32)]) (w1 := (wv x I3 J3)) hC37 1 rfl ?_
        exact we_z rfl rfl (Or.inl rfl) k
      · have k := k.2 h
        refine wp_seg (C := gC37) (pc1 := 152) (Lo1 := [some (.ref 29), some (.int r2)]) (st1' := [.int (1 : Int32)]) (w1 := (wv x I3 J3)) hC37 2 rfl ?_
        exact we_z rfl rfl (Or.inr rfl) k
  · have k := k.2
    rcases (by omega : i = 0 ∨ i = 1 ∨ i = 2 ∨ i = 3 ∨ i = 4 ∨ i = 5 ∨ i = 6 ∨ i = 7) with rfl | rfl | rfl | rfl | rfl | rfl | rfl | rfl
    · have k := k.1 (by omega)
      show wp S (d + 1) 37 56 [some (.ref 29), none] [] (wv x I1 J1) (rI x Q)
      refine wp_seg (C := gC37) (pc1 := 57) (Lo1 := [some (.ref 29), none]) (st1' := [.ref 29]) (w1 := (wv x I1 J1)) hC37 1 rfl ?_
      refine cv_I (mj := 38) (a := 29) (as := []) (r := []) rfl rfl rfl ⟨rfl, by decide, Nat.le_of_ble_eq_true rfl, Nat.le_of_ble_eq_true rfl⟩ rfl (wcI_mono k (fun r4 I4 J4 k => ?_))
      refine wp_seg (C := gC37) (pc1 := 132) (Lo1 := [some (.ref 29), some (.int r4)]) (st1' := [.int r4]) (w1 := (wv x I4 J4)) hC37 3 rfl ?_
      refine wi_eq (tgt := 151) rfl rfl (fun h => ?_) (fun h => ?_)
      · have k := k.1 h
        refine wp_seg (C := gC37) (pc1 := 152) (Lo1 := [some (.ref 29), some (.int r4)]) (st1' := [.int (0 : Int32)]) (w1 := (wv x I4 J4)) hC37 1 rfl ?_
        exact we_z rfl rfl (Or.inl rfl) k
      · have k := k.2 h
        refine wp_seg (C := gC37) (pc1 := 141) (Lo1 := [some (.ref 29), some (.int r4)]) (st1' := [.int (59 : Int32), .ref 28]) (w1 := (wv x I4 J4)) hC37 3 rfl ?_
        refine cv_I (mj := 78) (a := 28) (as := [.int (59 : Int32)]) (r := []) rfl rfl rfl ⟨rfl, by decide, Nat.le_of_ble_eq_true rfl, Nat.le_of_ble_eq_true rfl⟩ rfl (wcI_mono k (fun r5 I5 J5 k => ?_))
        refine wi_eq (tgt := 151) rfl rfl (fun h => ?_) (fun h => ?_)
        · have k := k.1 h
          refine wp_seg (C := gC37) (pc1 := 152) (Lo1 := [some (.ref 29), some (.int r4)]) (st1' := [.int (0 : Int32)]) (w1 := (wv x I5 J5)) hC37 1 rfl ?_
          exact we_z rfl rfl (Or.inl rfl) k
        · have k := k.2 h
          refine wp_seg (C := gC37) (pc1 := 152) (Lo1 := [some (.ref 29), some (.int r4)]) (st1' := [.int (1 : Int32)]) (w1 := (wv x I5 J5)) hC37 2 rfl ?_
          exact we_z rfl rfl (Or.inr rfl) k
    · have k := k.2.1 (by omega)
      show wp S (d + 1) 37 64 [some (.ref 29), none] [] (wv x I1 J1) (rI x Q)
      refine wp_seg (C := gC37) (pc1 := 66) (Lo1 := [some (.ref 29), none]) (st1' := [.int (0 : Int32), .ref 29]) (w1 := (wv x I1 J1)) hC37 2 rfl ?_
      refine cv_I (mj := 40) (a := 29) (as := [.int (0 : Int32)]) (r := []) rfl rfl rfl ⟨rfl, by decide, Nat.le_of_ble_eq_true rfl, Nat.le_of_ble_eq_true rfl⟩ rfl (wcI_mono k (fun r6 I6 J6 k => ?_))
      refine wp_seg (C := gC37) (pc1 := 132) (Lo1 := [some (.ref 29), some (.int r6)]) (st1' := [.int r6]) (w1 := (wv x I6 J6)) hC37 3 rfl ?_
      refine wi_eq (tgt := 151) rfl rfl (fun h => ?_) (fun h => ?_)
      · have k := k.1 h
        refine wp_seg (C := gC37) (pc1 := 152) (Lo1 := [some (.ref 29), some (.int r6)]) (st1' := [.int (0 : Int32)]) (w1 := (wv x I6 J6)) hC37 1 rfl ?_
        exact we_z rfl rfl (Or.inl rfl) k
      · have k := k.2 h
        refine wp_seg (C := gC37) (pc1 := 141) (Lo1 := [some (.ref 29), some (.int r6)]) (st1' := [.int (59 : Int32), .ref 28]) (w1 := (wv x I6 J6)) hC37 3 rfl ?_
        refine cv_I (mj := 78) (a := 28) (as := [.int (59 : Int32)]) (r := []) rfl rfl rfl ⟨rfl, by decide, Nat.le_of_ble_eq_true rfl, Nat.le_of_ble_eq_true rfl⟩ rfl (wcI_mono k (fun r7 I7 J7 k => ?_))
        refine wi_eq (tgt := 151) rfl rfl (fun h => ?_) (fun h => ?_)
        · have k := k.1 h
          refine wp_seg (C := gC37) (pc1 := 152) (Lo1 := [some (.ref 29), some (.int r6)]) (st1' := [.int (0 : Int32)]) (w1 := (wv x I7 J7)) hC37 1 rfl ?_
          exact we_z rfl rfl (Or.inl rfl) k
        · have k := k.2 h
          refine wp_seg (C := gC37) (pc1 := 152) (Lo1 := [some (.ref 29), some (.int r6)]) (st1' := [.int (1 : Int32)]) (w1 := (wv x I7 J7)) hC37 2 rfl ?_
          exact we_z rfl rfl (Or.inr rfl) k
    · have k := k.2.2.1 (by omega)
      show wp S (d + 1) 37 73 [some (.ref 29), none] [] (wv x I1 J1) (rI x Q)
      refine wp_seg (C := gC37) (pc1 := 75) (Lo1 := [some (.ref 29), none]) (st1' := [.int (1 : Int32), .ref 29]) (w1 := (wv x I1 J1)) hC37 2 rfl ?_
      refine cv_I (mj := 40) (a := 29) (as := [.int (1 : Int32)]) (r := []) rfl rfl rfl ⟨rfl, by decide, Nat.le_of_ble_eq_true rfl, Nat.le_of_ble_eq_true rfl⟩ rfl (wcI_mono k (fun r8 I8 J8 k => ?_))
      refine wp_seg (C := gC37) (pc1 := 132) (Lo1 := [some (.ref 29), some (.int r8)]) (st1' := [.int r8]) (w1 := (wv x I8 J8)) hC37 3 rfl ?_
      refine wi_eq (tgt := 151) rfl rfl (fun h => ?_) (fun h => ?_)
      · have k := k.1 h
        refine wp_seg (C := gC37) (pc1 := 152) (Lo1 := [some (.ref 29), some (.int r8)]) (st1' := [.int (0 : Int32)]) (w1 := (wv x I8 J8)) hC37 1 rfl ?_
        exact we_z rfl rfl (Or.inl rfl) k
      · have k := k.2 h
        refine wp_seg (C := gC37) (pc1 := 141) (Lo1 := [some (.ref 29), some (.int r8)]) (st1' := [.int (59 : Int32), .ref 28]) (w1 := (wv x I8 J8)) hC37 3 rfl ?_
        refine cv_I (mj := 78) (a := 28) (as := [.int (59 : Int32)]) (r := []) rfl rfl rfl ⟨rfl, by decide, Nat.le_of_ble_eq_true rfl, Nat.le_of_ble_eq_true rfl⟩ rfl (wcI_mono k (fun r9 I9 J9 k => ?_))
        refine wi_eq (tgt := 151) rfl rfl (fun h => ?_) (fun h => ?_)
        · have k := k.1 h
          refine wp_seg (C := gC37) (pc1 := 152) (Lo1 := [some (.ref 29), some (.int r8)]) (st1' := [.int (0 : Int32)]) (w1 := (wv x I9 J9)) hC37 1 rfl ?_
          exact we_z rfl rfl (Or.inl rfl) k
        · have k := k.2 h
          refine wp_seg (C := gC37) (pc1 := 152) (Lo1 := [some (.ref 29), some (.int r8)]) (st1' := [.int (1 : Int32)]) (w1 := (wv x I9 J9)) hC37 2 rfl ?_
          exact we_z rfl rfl (Or.inr rfl) k
    · have k := k.2.2.2.1 (by omega)
      show wp S (d + 1) 37 82 [some (.ref 29), none] [] (wv x I1 J1) (rI x Q)
      refine wp_seg (C := gC37) (pc1 := 83) (Lo1 := [some (.ref 29), none]) (st1' := [.ref 29]) (w1 := (wv x I1 J1)) hC37 1 rfl ?_
      refine cv_I (mj := 44) (a := 29) (as := []) (r := []) rfl rfl rfl ⟨rfl, by decide, Nat.le_of_ble_eq_true rfl, Nat.le_of_ble_eq_true rfl⟩ rfl (wcI_mono k (fun r10 I10 J10 k => ?_))
      refine wp_seg (C := gC37) (pc1 := 132) (Lo1 := [some (.ref 29), some (.int r10)]) (st1' := [.int r10]) (w1 := (wv x I10 J10)) hC37 3 rfl ?_
      refine wi_eq (tgt := 151) rfl rfl (fun h => ?_) (fun h => ?_)
      · have k := k.1 h
        refine wp_seg (C := gC37) (pc1 := 152) (Lo1 := [some (.ref 29), some (.int r10)]) (st1' := [.int (0 : Int32)]) (w1 := (wv x I10 J10)) hC37 1 rfl ?_
        exact we_z rfl rfl (Or.inl rfl) k
      · have k := k.2 h
        refine wp_seg (C := gC37) (pc1 := 141) (Lo1 := [some (.ref 29), some (.int r10)]) (st1' := [.int (59 : Int32), .ref 28]) (w1 := (wv x I10 J10)) hC37 3 rfl ?_
        refine cv_I (mj := 78) (a := 28) (as := [.int (59 : Int32)]) (r := []) rfl rfl rfl ⟨rfl, by decide, Nat.le_of_ble_eq_true rfl, Nat.le_of_ble_eq_true rfl⟩ rfl (wcI_mono k (fun r11 I11 J11 k => ?_))
        refine wi_eq (tgt := 151) rfl rfl (fun h => ?_) (fun h => ?_)
        · have k := k.1 h
          refine wp_seg (C := gC37) (pc1 := 152) (Lo1 := [some (.ref 29), some (.int r10)]) (st1' := [.int (0 : Int32)]) (w1 := (wv x I11 J11)) hC37 1 rfl ?_
          exact we_z rfl rfl (Or.inl rfl) k
        · have k := k.2 h
          refine wp_seg (C := gC37) (pc1 := 152) (Lo1 := [some (.ref 29), some (.int r10)]) (st1' := [.int (1 : Int32)]) (w1 := (wv x I11 J11)) hC37 2 rfl ?_
          exact we_z rfl rfl (Or.inr rfl) k
    · have k := k.2.2.2.2.1 (by omega)
      show wp S (d + 1) 37 90 [some (.ref 29), none] [] (wv x I1 J1) (rI x Q)
      refine wp_seg (C := gC37) (pc1 := 91) (Lo1 := [some (.ref 29), none]) (st1' := [.ref 29]) (w1 := (wv x I1 J1)) hC37 1 rfl ?_
      refine cv_I (mj := 45) (a := 29) (as := []) (r := []) rfl rfl rfl ⟨rfl, by decide, Nat.le_of_ble_eq_true rfl, Nat.le_of_ble_eq_true rfl⟩ rfl (wcI_mono k (fun r12 I12 J12 k => ?_))
      refine wp_seg (C := gC37) (pc1 := 132) (Lo1 := [some (.ref 29), some (.int r12)]) (st1' := [.int r12]) (w1 := (wv x I12 J12)) hC37 3 rfl ?_
      refine wi_eq (tgt := 151) rfl rfl (fun h => ?_) (fun h => ?_)
      · have k := k.1 h
        refine wp_seg (C := gC37) (pc1 := 152) (Lo1 := [some (.ref 29), some (.int r12)]) (st1' := [.int (0 : Int32)]) (w1 := (wv x I12 J12)) hC37 1 rfl ?_
        exact we_z rfl rfl (Or.inl rfl) k
      · have k := k.2 h
        refine wp_seg (C := gC37) (pc1 := 141) (Lo1 := [some (.ref 29), some (.int r12)]) (st1' := [.int (59 : Int32), .ref 28]) (w1 := (wv x I12 J12)) hC37 3 rfl ?_
        refine cv_I (mj := 78) (a := 28) (as := [.int (59 : Int32)]) (r := []) rfl rfl rfl ⟨rfl, by decide, Nat.le_of_ble_eq_true rfl, Nat.le_of_ble_eq_true rfl⟩ rfl (wcI_mono k (fun r13 I13 J13 k => ?_))
        refine wi_eq (tgt := 151) rfl rfl (fun h => ?_) (fun h => ?_)
        · have k := k.1 h
          refine wp_seg (C := gC37) (pc1 := 152) (Lo1 := [some (.ref 29), some (.int r12)]) (st1' := [.int (0 : Int32)]) (w1 := (wv x I13 J13)) hC37 1 rfl ?_
          exact we_z rfl rfl (Or.inl rfl) k
        · have k := k.2 h
          refine wp_seg (C := gC37) (pc1 := 152) (Lo1 := [some (.ref 29), some (.int r12)]) (st1' := [.int (1 : Int32)]) (w1 := (wv x I13 J13)) hC37 2 rfl ?_
          exact we_z rfl rfl (Or.inr rfl) k
    · have k := k.2.2.2.2.2.1 (by omega)
      show wp S (d + 1) 37 98 [some (.ref 29), none] [] (wv x I1 J1) (rI x Q)
      refine wp_seg (C := gC37) (pc1 := 99) (Lo1 := [some (.ref 29), none]) (st1' := [.ref 29]) (w1 := (wv x I1 J1)) hC37 1 rfl ?_
      refine cv_I (mj := 46) (a := 29) (as := []) (r := []) rfl rfl rfl ⟨rfl, by decide, Nat.le_of_ble_eq_true rfl, Nat.le_of_ble_eq_true rfl⟩ rfl (wcI_mono k (fun r14 I14 J14 k => ?_))
      refine wp_seg (C := gC37) (pc1 := 132) (Lo1 := [some (.ref 29), some (.int r14)]) (st1' := [.int r14]) (w1 := (wv x I14 J14)) hC37 3 rfl ?_
      refine wi_eq (tgt := 151) rfl rfl (fun h => ?_) (fun h => ?_)
      · have k := k.1 h
        refine wp_seg (C := gC37) (pc1 := 152) (Lo1 := [some (.ref 29), some (.int r14)]) (st1' := [.int (0 : Int32)]) (w1 := (wv x I14 J14)) hC37 1 rfl ?_
        exact we_z rfl rfl (Or.inl rfl) k
      · have k := k.2 h
        refine wp_seg (C := gC37) (pc1 := 141) (Lo1 := [some (.ref 29), some (.int r14)]) (st1' := [.int (59 : Int32), .ref 28]) (w1 := (wv x I14 J14)) hC37 3 rfl ?_
        refine cv_I (mj := 78) (a := 28) (as := [.int (59 : Int32)]) (r := []) rfl rfl rfl ⟨rfl, by decide, Nat.le_of_ble_eq_true rfl, Nat.le_of_ble_eq_true rfl⟩ rfl (wcI_mono k (fun r15 I15 J15 k => ?_))
        refine wi_eq (tgt := 151) rfl rfl (fun h => ?_) (fun h => ?_)
        · have k := k.1 h
          refine wp_seg (C := gC37) (pc1 := 152) (Lo1 := [some (.ref 29), some (.int r14)]) (st1' := [.int (0 : Int32)]) (w1 := (wv x I15 J15)) hC37 1 rfl ?_
          exact we_z rfl rfl (Or.inl rfl) k
        · have k := k.2 h
          refine wp_seg (C := gC37) (pc1 := 152) (Lo1 := [some (.ref 29), some (.int r14)]) (st1' := [.int (1 : Int32)]) (w1 := (wv x I15 J15)) hC37 2 rfl ?_
          exact we_z rfl rfl (Or.inr rfl) k
    · have k := k.2.2.2.2.2.2.1 (by omega)
      show wp S (d + 1) 37 106 [some (.ref 29), none] [] (wv x I1 J1) (rI x Q)
      refine wp_seg (C := gC37) (pc1 := 107) (Lo1 := [some (.ref 29), none]) (st1' := [.ref 29]) (w1 := (wv x I1 J1)) hC37 1 rfl ?_
      refine cv_I (mj := 47) (a := 29) (as := []) (r := []) rfl rfl rfl ⟨rfl, by decide, Nat.le_of_ble_eq_true rfl, Nat.le_of_ble_eq_true rfl⟩ rfl (wcI_mono k (fun r16 I16 J16 k => ?_))
      refine wp_seg (C := gC37) (pc1 := 132) (Lo1 := [some (.ref 29), some (.int r16)]) (st1' := [.int r16]) (w1 := (wv x I16 J16)) hC37 3 rfl ?_
      refine wi_eq (tgt := 151) rfl rfl (fun h => ?_) (fun h => ?_)
      · have k := k.1 h
        refine wp_seg (C := gC37) (pc1 := 152) (Lo1 := [some (.ref 29), some (.int r16)]) (st1' := [.int (0 : Int32)]) (w1 := (wv x I16 J16)) hC37 1 rfl ?_
        exact we_z rfl rfl (Or.inl rfl) k
      · have k := k.2 h
        refine wp_seg (C := gC37) (pc1 := 141) (Lo1 := [some (.ref 29), some (.int r16)]) (st1' := [.int (59 : Int32), .ref 28]) (w1 := (wv x I16 J16)) hC37 3 rfl ?_
        refine cv_I (mj := 78) (a := 28) (as := [.int (59 : Int32)]) (r := []) rfl rfl rfl ⟨rfl, by decide, Nat.le_of_ble_eq_true rfl, Nat.le_of_ble_eq_true rfl⟩ rfl (wcI_mono k (fun r17 I17 J17 k => ?_))
        refine wi_eq (tgt := 151) rfl rfl (fun h => ?_) (fun h => ?_)
        · have k := k.1 h
          refine wp_seg (C := gC37) (pc1 := 152) (Lo1 := [some (.ref 29), some (.int r16)]) (st1' := [.int (0 : Int32)]) (w1 := (wv x I17 J17)) hC37 1 rfl ?_
          exact we_z rfl rfl (Or.inl rfl) k
        · have k := k.2 h
          refine wp_seg (C := gC37) (pc1 := 152) (Lo1 := [some (.ref 29), some (.int r16)]) (st1' := [.int (1 : Int32)]) (w1 := (wv x I17 J17)) hC37 2 rfl ?_
          exact we_z rfl rfl (Or.inr rfl) k
    · have k := k.2.2.2.2.2.2.2.1 (by omega)
      show wp S (d + 1) 37 114 [some (.ref 29), none] [] (wv x I1 J1) (rI x Q)
      refine wp_seg (C := gC37) (pc1 := 115) (Lo1 := [some (.ref 29), none]) (st1' := [.ref 29]) (w1 := (wv x I1 J1)) hC37 1 rfl ?_
      refine cv_I (mj := 48) (a := 29) (as := []) (r := []) rfl rfl rfl ⟨rfl, by decide, Nat.le_of_ble_eq_true rfl, Nat.le_of_ble_eq_true rfl⟩ rfl (wcI_mono k (fun r18 I18 J18 k => ?_))
      refine wp_seg (C := gC37) (pc1 := 132) (Lo1 := [some (.ref 29), some (.int r18)]) (st1' := [.int r18]) (w1 := (wv x I18 J18)) hC37 3 rfl ?_
      refine wi_eq (tgt := 151) rfl rfl (fun h => ?_) (fun h => ?_)
      · have k := k.1 h
        refine wp_seg (C := gC37) (pc1 := 152) (Lo1 := [some (.ref 29), some (.int r18)]) (st1' := [.int (0 : Int32)]) (w1 := (wv x I18 J18)) hC37 1 rfl ?_
        exact we_z rfl rfl (Or.inl rfl) k
      · have k := k.2 h
        refine wp_seg (C := gC37) (pc1 := 141) (Lo1 := [some (.ref 29), some (.int r18)]) (st1' := [.int (59 : Int32), .ref 28]) (w1 := (wv x I18 J18)) hC37 3 rfl ?_
        refine cv_I (mj := 78) (a := 28) (as := [.int (59 : Int32)]) (r := []) rfl rfl rfl ⟨rfl, by decide, Nat.le_of_ble_eq_true rfl, Nat.le_of_ble_eq_true rfl⟩ rfl (wcI_mono k (fun r19 I19 J19 k => ?_))
        refine wi_eq (tgt := 151) rfl rfl (fun h => ?_) (fun h => ?_)
        · have k := k.1 h
          refine wp_seg (C := gC37) (pc1 := 152) (Lo1 := [some (.ref 29), some (.int r18)]) (st1' := [.int (0 : Int32)]) (w1 := (wv x I19 J19)) hC37 1 rfl ?_
          exact we_z rfl rfl (Or.inl rfl) k
        · have k := k.2 h
          refine wp_seg (C := gC37) (pc1 := 152) (Lo1 := [some (.ref 29), some (.int r18)]) (st1' := [.int (1 : Int32)]) (w1 := (wv x I19 J19)) hC37 2 rfl ?_
          exact we_z rfl rfl (Or.inr rfl) k
set_option maxRecDepth 20000 in
theorem v32_16_0 {S : Nat × (Nat → Int32)} {d : Nat} {x : mX} {I : rI0} {J : rJ0} {Q : rI0 → rJ0 → Prop} (k : wp S (d + 1) 32 7 [some (.ref 16), some (.int (0 : Int32))] [] (wv x I (mSet J 16 5 (0 : Int64))) (rV x Q)) : wp S (d + 1) 32 0 [some (.ref 16), none] [] (wv x I J) (rV x Q) := by
  refine wp_seg (C := gC32) (pc1 := 7) (Lo1 := [some (.ref 16), some (.int (0 : Int32))]) (st1' := []) (w1 := (wv x I (mSet J 16 5 (0 : Int64)))) hC32 5 rfl ?_
  exact k
set_option maxRecDepth 20000 in
theorem v32_16_7 {S : Nat × (Nat → Int32)} {d : Nat} {x : mX} {I : rI0} {J : rJ0} {l1 : Int32} {Q : rI0 → rJ0 → Prop} (k : (wcI S d 23 [.ref 16] x I J (fun r1 I1 J1 => ((l1 < r1 → ((l1 < (64 : Int32) → (¬ mOut l1 64 ∧ (wcV S d 31 [.ref 16, .int l1, .int (I1 17 l1.toNatClampNeg)] x I1 J1 (fun I2 J2 => (¬ mOut l1 64 ∧ (((I2 17 l1.toNatClampNeg) = (-1 : Int32) → wp S (d + 1) 32 7 [some (.ref 16), some (.int (l1 + (1 : Int32)))] [] (wv x I2 (mSet J2 16 5 ((J2 16 5) ||| (0 : Int64)))) (rV x Q)) ∧ (¬ (I2 17 l1.toNatClampNeg) = (-1 : Int32) → wp S (d + 1) 32 7 [some (.ref 16), some (.int (l1 + (1 : Int32)))] [] (wv x I2 (mSet J2 16 5 ((J2 16 5) ||| ((1 : Int64) <<< (l1.toInt64 &&& 63))))) (rV x Q)))))))) ∧ (¬ l1 < (64 : Int32) → wp S (d + 1) 32 66 [some (.ref 16), some (.int (0 : Int32))] [] (wv x I1 J1) (rV x Q)))) ∧ (¬ l1 < r1 → wp S (d + 1) 32 66 [some (.ref 16), some (.int (0 : Int32))] [] (wv x I1 J1) (rV x Q)))))) : wp S (d + 1) 32 7 [some (.ref 16), some (.int l1)] [] (wv x I J) (rV x Q) := by
  refine wp_seg (C := gC32) (pc1 := 9) (Lo1 := [some (.ref 16), some (.int l1)]) (st1' := [.ref 16, .int l1]) (w1 := (wv x I J)) hC32 2 rfl ?_
  refine cv_I (mj := 23) (a := 16) (as := []) (r := [.int l1]) rfl rfl rfl ⟨rfl, by decide, Nat.le_of_ble_eq_true rfl, Nat.le_of_ble_eq_true rfl⟩ rfl (wcI_mono k (fun r1 I1 J1 k => ?_))
  refine wj_ge (tgt := 64) rfl rfl (fun h => ?_) (fun h => ?_)
  · have k := k.1 h
    refine wp_seg (C := gC32) (pc1 := 18) (Lo1 := [some (.ref 16), some (.int l1)]) (st1' := [.int (64 : Int32), .int l1]) (w1 := (wv x I1 J1)) hC32 2 rfl ?_
    refine wj_ge (tgt := 64) rfl rfl (fun h => ?_) (fun h => ?_)
    · have k := k.1 h
      refine wp_seg (C := gC32) (pc1 := 28) (Lo1 := [some (.ref 16), some (.int l1)]) (st1' := [.int l1, .ref 17, .int l1, .ref 16]) (w1 := (wv x I1 J1)) hC32 5 rfl ?_
      refine wa_i (n := 64) rfl (by decide) rfl k.1 ?_
      have k := k.2
      refine cv_V (mj := 31) (a := 16) (as := [.int l1, .int (I1 17 l1.toNatClampNeg)]) (r := []) rfl rfl rfl ⟨rfl, by decide, Nat.le_of_ble_eq_true rfl, Nat.le_of_ble_eq_true rfl⟩ rfl (wcV_mono k (fun I2 J2 k => ?_))
      refine wp_seg (C := gC32) (pc1 := 42) (Lo1 := [some (.ref 16), some (.int l1)]) (st1' := [.int l1, .ref 17, .long (J2 16 5), .ref 16]) (w1 := (wv x I2 J2)) hC32 6 rfl ?_
      refine wa_i (n := 64) rfl (by decide) rfl k.1 ?_
      have k := k.2
      refine wp_seg (C := gC32) (pc1 := 44) (Lo1 := [some (.ref 16), some (.int l1)]) (st1' := [.int (-1 : Int32), .int (I2 17 l1.toNatClampNeg), .long (J2 16 5), .ref 16]) (w1 := (wv x I2 J2)) hC32 1 rfl ?_
      refine wj_ne (tgt := 51) rfl rfl (fun h => ?_) (fun h => ?_)
      · have k := k.1 h
        refine wp_seg (C := gC32) (pc1 := 7) (Lo1 := [some (.ref 16), some (.int (l1 + (1 : Int32)))]) (st1' := []) (w1 := (wv x I2 (mSet J2 16 5 ((J2 16 5) ||| (0 : Int64))))) hC32 6 rfl ?_
        exact k
      · have k := k.2 h
        refine wp_seg (C := gC32) (pc1 := 7) (Lo1 := [some (.ref 16), some (.int (l1 + (1 : Int32)))]) (st1' := []) (w1 := (wv x I2 (mSet J2 16 5 ((J2 16 5) ||| ((1 : Int64) <<< (l1.toInt64 &&& 63)))))) hC32 7 rfl ?_
        exact k
    · have k := k.2 h
      refine wp_seg (C := gC32) (pc1 := 66) (Lo1 := [some (.ref 16), some (.int (0 : Int32))]) (st1' := []) (w1 := (wv x I1 J1)) hC32 2 rfl ?_
      exact k
  · have k := k.2 h
    refine wp_seg (C := gC32) (pc1 := 66) (Lo1 := [some (.ref 16), some (.int (0 : Int32))]) (st1' := []) (w1 := (wv x I1 J1)) hC32 2 rfl ?_
    exact k
set_option maxRecDepth 20000 in
theorem v32_16_66 {S : Nat × (Nat → Int32)} {d : Nat} {x : mX} {I : rI0} {J : rJ0} {l1 : Int32} {Q : rI0 → rJ0 → Prop} (k : ((l1 < (64 : Int32) → (wcI S d 24 [.ref 16, .int l1] x I J (fun r1 I1 J1 => ((r1 = (0 : Int32) → wp S (d + 1) 32 66 [some (.ref 16), some (.int (l1 + (1 : Int32)))] [] (wv x I1 J1) (rV x Q)) ∧ (¬ r1 = (0 : Int32) → (wcV S d 33 [.ref 16, .int l1] x I1 J1 (fun I2 J2 => wp S (d + 1) 32 66 [some (.ref 16), some (.int (l1 + (1 : Int32)))] [] (wv x I2 J2) (rV x Q)))))))) ∧ (¬ l1 < (64 : Int32) → Q I J))) : wp S (d + 1) 32 66 [some (.ref 16), some (.int l1)] [] (wv x I J) (rV x Q) := by
  refine wp_seg (C := gC32) (pc1 := 69) (Lo1 := [some (.ref 16), some (.int l1)]) (st1' := [.int (64 : Int32), .int l1]) (w1 := (wv x I J)) hC32 2 rfl ?_
  refine wj_ge (tgt := 91) rfl rfl (fun h => ?_) (fun h => ?_)
  · have k := k.1 h
    refine wp_seg (C := gC32) (pc1 := 74) (Lo1 := [some (.ref 16), some (.int l1)]) (st1' := [.int l1, .ref 16]) (w1 := (wv x I J)) hC32 2 rfl ?_
    refine cv_I (mj := 24) (a := 16) (as := [.int l1]) (r := []) rfl rfl rfl ⟨rfl, by decide, Nat.le_of_ble_eq_true rfl, Nat.le_of_ble_eq_true rfl⟩ rfl (wcI_mono k (fun r1 I1 J1 k => ?_))
    refine wi_eq (tgt := 85) rfl rfl (fun h => ?_) (fun h => ?_)
    · have k := k.1 h
      refine wp_seg (C := gC32) (pc1 := 66) (Lo1 := [some (.ref 16), some (.int (l1 + (1 : Int32)))]) (st1' := []) (w1 := (wv x I1 J1)) hC32 2 rfl ?_
      exact k
    · have k := k.2 h
      refine wp_seg (C := gC32) (pc1 := 82) (Lo1 := [some (.ref 16), some (.int l1)]) (st1' := [.int l1, .ref 16]) (w1 := (wv x I1 J1)) hC32 2 rfl ?_
      refine cv_V (mj := 33) (a := 16) (as := [.int l1]) (r := []) rfl rfl rfl ⟨rfl, by decide, Nat.le_of_ble_eq_true rfl, Nat.le_of_ble_eq_true rfl⟩ rfl (wcV_mono k (fun I2 J2 k => ?_))
      refine wp_seg (C := gC32) (pc1 := 66) (Lo1 := [some (.ref 16), some (.int (l1 + (1 : Int32)))]) (st1' := []) (w1 := (wv x I2 J2)) hC32 2 rfl ?_
      exact k
  · have k := k.2 h
    exact we_v rfl rfl k
set_option maxRecDepth 20000 in
theorem v15_3_15_0 {S : Nat × (Nat → Int32)} {d : Nat} {x : mX} {I : rI0} {J : rJ0} {Q : rI0 → rJ0 → Prop} (k : (wcV S d 22 [.ref 4, .ref 16] x I J (fun I1 J1 => (wcV S d 16 [.ref 3, .ref 15] x I1 J1 (fun I2 J2 => Q I2 (mSet (mSet J2 3 5 (J2 15 5)) 3 6 (J2 15 6))))))) : wp S (d + 1) 15 0 [some (.ref 3), some (.ref 15)] [] (wv x I J) (rV x Q) := by
  refine wp_seg (C := gC15) (pc1 := 8) (Lo1 := [some (.ref 3), some (.ref 15)]) (st1' := [.ref 16, .ref 4]) (w1 := (wv x I J)) hC15 4 rfl ?_
  refine cv_V (mj := 22) (a := 4) (as := [.ref 16]) (r := []) rfl rfl rfl ⟨rfl, by decide, Nat.le_of_ble_eq_true rfl, Nat.le_of_ble_eq_true rfl⟩ rfl (wcV_mono k (fun I1 J1 k => ?_))
  refine wp_seg (C := gC15) (pc1 := 13) (Lo1 := [some (.ref 3), some (.ref 15)]) (st1' := [.ref 15, .ref 3]) (w1 := (wv x I1 J1)) hC15 2 rfl ?_
  refine cv_V (mj := 16) (a := 3) (as := [.ref 15]) (r := []) rfl rfl rfl ⟨rfl, by decide, Nat.le_of_ble_eq_true rfl, Nat.le_of_ble_eq_true rfl⟩ rfl (wcV_mono k (fun I2 J2 k => ?_))
  refine wp_seg (C := gC15) (pc1 := 32) (Lo1 := [some (.ref 3), some (.ref 15)]) (st1' := []) (w1 := (wv x I2 (mSet (mSet J2 3 5 (J2 15 5)) 3 6 (J2 15 6)))) hC15 8 rfl ?_
  exact we_v rfl rfl k
set_option maxRecDepth 20000 in
theorem v6_31_0 {S : Nat × (Nat → Int32)} {d : Nat} {x : mX} {I : rI0} {J : rJ0} {Q : rI0 → rJ0 → Prop} (k : Q (mSet I 31 6 (0 : Int32)) J) : wp S d 6 0 [some (.ref 31)] [] (wv x I J) (rV x Q) := by
  refine wp_seg (C := gC6) (pc1 := 5) (Lo1 := [some (.ref 31)]) (st1' := []) (w1 := (wv x (mSet I 31 6 (0 : Int32)) J)) hC6 3 rfl ?_
  exact we_v rfl rfl k
set_option maxRecDepth 20000 in
theorem v24_4_0 {S : Nat × (Nat → Int32)} {d : Nat} {x : mX} {I : rI0} {J : rJ0} {p1 : Int32} {Q : Int32 → rI0 → rJ0 → Prop} (k : ((p1 < (0 : Int32) → Q (0 : Int32) I J) ∧ (¬ p1 < (0 : Int32) → ((p1 < (64 : Int32) → (((lg_cmp ((((J 4 5).toUInt64 >>> (p1.toInt64.toUInt64 &&& Int64.toUInt64 63)).toInt64) &&& (1 : Int64)) (0 : Int64)) = (0 : Int32) → Q (0 : Int32) I J) ∧ (¬ (lg_cmp ((((J 4 5).toUInt64 >>> (p1.toInt64.toUInt64 &&& Int64.toUInt64 63)).toInt64) &&& (1 : Int64)) (0 : Int64)) = (0 : Int32) → Q (1 : Int32) I J))) ∧ (¬ p1 < (64 : Int32) → Q (0 : Int32) I J))))) : wp S d 24 0 [some (.ref 4), some (.int p1)] [] (wv x I J) (rI x Q) := by
  refine wp_seg (C := gC24) (pc1 := 1) (Lo1 := [some (.ref 4), some (.int p1)]) (st1' := [.int p1]) (w1 := (wv x I J)) hC24 1 rfl ?_
  refine wi_lt (tgt := 27) rfl rfl (fun h => ?_) (fun h => ?_)
  · have k := k.1 h
    refine wp_seg (C := gC24) (pc1 := 28) (Lo1 := [some (.ref 4), some (.int p1)]) (st1' := [.int (0 : Int32)]) (w1 := (wv x I J)) hC24 1 rfl ?_
    exact we_z rfl rfl (Or.inl rfl) k
  · have k := k.2 h
    refine wp_seg (C := gC24) (pc1 := 7) (Lo1 := [some (.ref 4), some (.int p1)]) (st1' := [.int (64 : Int32), .int p1]) (w1 := (wv x I J)) hC24 2 rfl ?_
    refine wj_ge (tgt := 27) rfl rfl (fun h => ?_) (fun h => ?_)
    · have k := k.1 h
      refine wp_seg (C := gC24) (pc1 := 20) (Lo1 := [some (.ref 4), some (.int p1)]) (st1' := [.int (lg_cmp ((((J 4 5).toUInt64 >>> (p1.toInt64.toUInt64 &&& Int64.toUInt64 63)).toInt64) &&& (1 : Int64)) (0 : Int64))]) (w1 := (wv x I J)) hC24 8 rfl ?_
      refine wi_eq (tgt := 27) rfl rfl (fun h => ?_) (fun h => ?_)
      · have k := k.1 h
        refine wp_seg (C := gC24) (pc1 := 28) (Lo1 := [some (.ref 4), some (.int p1)]) (st1' := [.int (0 : Int32)]) (w1 := (wv x I J)) hC24 1 rfl ?_
        exact we_z rfl rfl (Or.inl rfl) k
      · have k := k.2 h
        refine wp_seg (C := gC24) (pc1 := 28) (Lo1 := [some (.ref 4), some (.int p1)]) (st1' := [.int (1 : Int32)]) (w1 := (wv x I J)) hC24 2 rfl ?_
        exact we_z rfl rfl (Or.inr rfl) k
    · have k := k.2 h
      refine wp_seg (C := gC24) (pc1 := 28) (Lo1 := [some (.ref 4), some (.int p1)]) (st1' := [.int (0 : Int32)]) (w1 := (wv x I J)) hC24 1 rfl ?_
      exact we_z rfl rfl (Or.inl rfl) k
set_option maxRecDepth 20000 in
theorem v143_0 {S : Nat × (Nat → Int32)} {d : Nat} {x : mX} {I : rI0} {J : rJ0} {p0 : Int64} {p1 : Int32} {p2 : Int32} {Q : Int64 → rI0 → rJ0 → Prop} (k : Q ((p0 &&& (((1 : Int64) <<< (p1.toInt64 &&& 63)) ^^^ (-1 : Int64))) ||| (p2.toInt64 <<< (p1.toInt64 &&& 63))) I J) : wp S d 143 0 [some (.long p0), none, some (.int p1), some (.int p2)] [] (wv x I J) (rJ x Q) := by
  refine wp_seg (C := gC143) (pc1 := 14) (Lo1 := [some (.long p0), none, some (.int p1), some (.int p2)]) (st1' := [.long ((p0 &&& (((1 : Int64) <<< (p1.toInt64 &&& 63)) ^^^ (-1 : Int64))) ||| (p2.toInt64 <<< (p1.toInt64 &&& 63)))]) (w1 := (wv x I J)) hC143 12 rfl ?_
  exact we_l rfl rfl k
set_option maxRecDepth 20000 in
theorem v2_30_0 {S : Nat × (Nat → Int32)} {d : Nat} {x : mX} {I : rI0} {J : rJ0} {Q : rI0 → rJ0 → Prop} (k : wp S (d + 1) 2 10 [some (.ref 30), some (.int (0 : Int32))] [] (wv x (mSet I 15 4 (0 : Int32)) J) (rV x Q)) : wp S (d + 1) 2 0 [some (.ref 30), none] [] (wv x I J) (rV x Q) := by
  refine wp_seg (C := gC2) (pc1 := 10) (Lo1 := [some (.ref 30), some (.int (0 : Int32))]) (st1' := []) (w1 := (wv x (mSet I 15 4 (0 : Int32)) J)) hC2 6 rfl ?_
  exact k
set_option maxRecDepth 20000 in
theorem v2_30_10 {S : Nat × (Nat → Int32)} {d : Nat} {x : mX} {I : rI0} {J : rJ0} {l1 : Int32} {Q : rI0 → rJ0 → Prop} (k : ((l1 < (400 : Int32) → (((I 28 3) = (1 : Int32) → Q I J) ∧ (¬ (I 28 3) = (1 : Int32) → (wcI S d 3 [.ref 30] x I J (fun r1 I1 J1 => ((r1 = (0 : Int32) → Q I1 J1) ∧ (¬ r1 = (0 : Int32) → wp S (d + 1) 2 10 [some (.ref 30), some (.int (l1 + (1 : Int32)))] [] (wv x I1 J1) (rV x Q)))))))) ∧ (¬ l1 < (400 : Int32) → Q I J))) : wp S (d + 1) 2 10 [some (.ref 30), some (.int l1)] [] (wv x I J) (rV x Q) := by
  refine wp_seg (C := gC2) (pc1 := 14) (Lo1 := [some (.ref 30), some (.int l1)]) (st1' := [.int (400 : Int32), .int l1]) (w1 := (wv x I J)) hC2 2 rfl ?_
  refine wj_ge (tgt := 41) rfl rfl (fun h => ?_) (fun h => ?_)
  · have k := k.1 h
    refine wp_seg (C := gC2) (pc1 := 25) (Lo1 := [some (.ref 30), some (.int l1)]) (st1' := [.int (1 : Int32), .int (I 28 3)]) (w1 := (wv x I J)) hC2 4 rfl ?_
    refine wj_eq (tgt := 41) rfl rfl (fun h => ?_) (fun h => ?_)
    · have k := k.1 h
      exact we_v rfl rfl k
    · have k := k.2 h
      refine wp_seg (C := gC2) (pc1 := 29) (Lo1 := [some (.ref 30), some (.int l1)]) (st1' := [.ref 30]) (w1 := (wv x I J)) hC2 1 rfl ?_
      refine cv_I (mj := 3) (a := 30) (as := []) (r := []) rfl rfl rfl ⟨rfl, by decide, Nat.le_of_ble_eq_true rfl, Nat.le_of_ble_eq_true rfl⟩ rfl (wcI_mono k (fun r1 I1 J1 k => ?_))
      refine wi_eq (tgt := 41) rfl rfl (fun h => ?_) (fun h => ?_)
      · have k := k.1 h
        exact we_v rfl rfl k
      · have k := k.2 h
        refine wp_seg (C := gC2) (pc1 := 10) (Lo1 := [some (.ref 30), some (.int (l1 + (1 : Int32)))]) (st1' := []) (w1 := (wv x I1 J1)) hC2 2 rfl ?_
        exact k
  · have k := k.2 h
    exact we_v rfl rfl k
set_option maxRecDepth 20000 in
theorem v16_3_15_0 {S : Nat × (Nat → Int32)} {d : Nat} {x : mX} {I : rI0} {J : rJ0} {Q : rI0 → rJ0 → Prop} (k : ((¬ (0 : Int32) < 0 ∧ ¬ (0 : Int32) < 0 ∧ ¬ (30 : Int32) < 0 ∧ (0 : Int32).toNatClampNeg + (30 : Int32).toNatClampNeg ≤ 30 ∧ (0 : Int32).toNatClampNeg + (30 : Int32).toNatClampNeg ≤ 30) ∧ ∀ I1, I1 = va_up (mSet I 3 4 (I 15 4)) 12 (va_cpy ((mSet I 3 4 (I 15 4)) 24) ((mSet I 3 4 (I 15 4)) 12) (0 : Int32).toNatClampNeg (0 : Int32).toNatClampNeg (30 : Int32).toNatClampNeg) → ((¬ (0 : Int32) < 0 ∧ ¬ (0 : Int32) < 0 ∧ ¬ (30 : Int32) < 0 ∧ (0 : Int32).toNatClampNeg + (30 : Int32).toNatClampNeg ≤ 30 ∧ (0 : Int32).toNatClampNeg + (30 : Int32).toNatClampNeg ≤ 30) ∧ ∀ I2, I2 = va_up I1 13 (va_cpy (I1 25) (I1 13) (0 : Int32).toNatClampNeg (0 : Int32).toNatClampNeg (30 : Int32).toNatClampNeg) → ((¬ (0 : Int32) < 0 ∧ ¬ (0 : Int32) < 0 ∧ ¬ (30 : Int32) < 0 ∧ (0 : Int32).toNatClampNeg + (30 : Int32).toNatClampNeg ≤ 30 ∧ (0 : Int32).toNatClampNeg + (30 : Int32).toNatClampNeg ≤ 30) ∧ ∀ I3, I3 = va_up I2 14 (va_cpy (I2 26) (I2 14) (0 : Int32).toNatClampNeg (0 : Int32).toNatClampNeg (30 : Int32).toNatClampNeg) → Q I3 J)))) : wp S (d + 1) 16 0 [some (.ref 3), some (.ref 15)] [] (wv x I J) (rV x Q) := by
  refine wp_seg (C := gC16) (pc1 := 20) (Lo1 := [some (.ref 3), some (.ref 15)]) (st1' := [.int (30 : Int32), .int (0 : Int32), .ref 12, .int (0 : Int32), .ref 24]) (w1 := (wv x (mSet I 3 4 (I 15 4)) J)) hC16 11 rfl ?_
  refine wq_cpI (n0 := 30) (n1 := 30) rfl rfl rfl rfl k.1 (Nat.le_of_ble_eq_true rfl) ?_
  obtain ⟨I1, eI1⟩ : ∃ z, z = va_up (mSet I 3 4 (I 15 4)) 12 (va_cpy ((mSet I 3 4 (I 15 4)) 24) ((mSet I 3 4 (I 15 4)) 12) (0 : Int32).toNatClampNeg (0 : Int32).toNatClampNeg (30 : Int32).toNatClampNeg) := ⟨_, rfl⟩
  have k := k.2 I1 eI1
  rw [← eI1]
  refine wp_seg (C := gC16) (pc1 := 35) (Lo1 := [some (.ref 3), some (.ref 15)]) (st1' := [.int (30 : Int32), .int (0 : Int32), .ref 13, .int (0 : Int32), .ref 25]) (w1 := (wv x I1 J)) hC16 7 rfl ?_
  refine wq_cpI (n0 := 30) (n1 := 30) rfl rfl rfl rfl k.1 (Nat.le_of_ble_eq_true rfl) ?_
  obtain ⟨I2, eI2⟩ : ∃ z, z = va_up I1 13 (va_cpy (I1 25) (I1 13) (0 : Int32).toNatClampNeg (0 : Int32).toNatClampNeg (30 : Int32).toNatClampNeg) := ⟨_, rfl⟩
  have k := k.2 I2 eI2
  rw [← eI2]
  refine wp_seg (C := gC16) (pc1 := 50) (Lo1 := [some (.ref 3), some (.ref 15)]) (st1' := [.int (30 : Int32), .int (0 : Int32), .ref 14, .int (0 : Int32), .ref 26]) (w1 := (wv x I2 J)) hC16 7 rfl ?_
  refine wq_cpI (n0 := 30) (n1 := 30) rfl rfl rfl rfl k.1 (Nat.le_of_ble_eq_true rfl) ?_
  obtain ⟨I3, eI3⟩ : ∃ z, z = va_up I2 14 (va_cpy (I2 26) (I2 14) (0 : Int32).toNatClampNeg (0 : Int32).toNatClampNeg (30 : Int32).toNatClampNeg) := ⟨_, rfl⟩
  have k := k.2 I3 eI3
  rw [← eI3]
  exact we_v rfl rfl k
set_option maxRecDepth 20000 in
theorem v141_0 {S : Nat × (Nat → Int32)} {d : Nat} {x : mX} {I : rI0} {J : rJ0} {p0 : Int32} {Q : Int32 → rI0 → rJ0 → Prop} (k : ((p0 < (0 : Int32) → Q (0 : Int32) I J) ∧ (¬ p0 < (0 : Int32) → (((600 : Int32) < p0 → Q (0 : Int32) I J) ∧ (¬ (600 : Int32) < p0 → Q (1 : Int32) I J))))) : wp S d 141 0 [some (.int p0)] [] (wv x I J) (rI x Q) := by
  refine wp_seg (C := gC141) (pc1 := 1) (Lo1 := [some (.int p0)]) (st1' := [.int p0]) (w1 := (wv x I J)) hC141 1 rfl ?_
  refine wi_lt (tgt := 15) rfl rfl (fun h => ?_) (fun h => ?_)
  · have k := k.1 h
    refine wp_seg (C := gC141) (pc1 := 16) (Lo1 := [some (.int p0)]) (st1' := [.int (0 : Int32)]) (w1 := (wv x I J)) hC141 1 rfl ?_
    exact we_z rfl rfl (Or.inl rfl) k
  · have k := k.2 h
    refine wp_seg (C := gC141) (pc1 := 8) (Lo1 := [some (.int p0)]) (st1' := [.int (600 : Int32), .int p0]) (w1 := (wv x I J)) hC141 2 rfl ?_
    refine wj_gt (tgt := 15) rfl rfl (fun h => ?_) (fun h => ?_)
    · have k := k.1 h
      refine wp_seg (C := gC141) (pc1 := 16) (Lo1 := [some (.int p0)]) (st1' := [.int (0 : Int32)]) (w1 := (wv x I J)) hC141 1 rfl ?_
      exact we_z rfl rfl (Or.inl rfl) k
    · have k := k.2 h
      refine wp_seg (C := gC141) (pc1 := 16) (Lo1 := [some (.int p0)]) (st1' := [.int (1 : Int32)]) (w1 := (wv x I J)) hC141 2 rfl ?_
      exact we_z rfl rfl (Or.inr rfl) k
set_option maxRecDepth 20000 in
theorem v7_31_0 {S : Nat × (Nat → Int32)} {d : Nat} {x : mX} {I : rI0} {J : rJ0} {p1 : Int32} {Q : Int32 → rI0 → rJ0 → Prop} (k : (((I 31 6) = (0 : Int32) → (wcV S d 52 [.ref 36, .long (J 3 5), .long (J 3 6)] x I J (fun I1 J1 => (wcV S d 8 [.ref 31] x I1 J1 (fun I2 J2 => wp S (d + 1) 7 37 [some (.ref 31), some (.int p1), some (.int (I2 31 6))] [] (wv x I2 J2) (rI x Q)))))) ∧ (¬ (I 31 6) = (0 : Int32) → wp S (d + 1) 7 37 [some (.ref 31), some (.int p1), some (.int (I 31 6))] [] (wv x I J) (rI x Q)))) : wp S (d + 1) 7 0 [some (.ref 31), some (.int p1), none] [] (wv x I J) (rI x Q) := by
  refine wp_seg (C := gC7) (pc1 := 4) (Lo1 := [some (.ref 31), some (.int p1), none]) (st1' := [.int (I 31 6)]) (w1 := (wv x I J)) hC7 2 rfl ?_
  refine wi_ne (tgt := 32) rfl rfl (fun h => ?_) (fun h => ?_)
  · have k := k.1 h
    refine wp_seg (C := gC7) (pc1 := 25) (Lo1 := [some (.ref 31), some (.int p1), none]) (st1' := [.long (J 3 6), .long (J 3 5), .ref 36]) (w1 := (wv x I J)) hC7 8 rfl ?_
    refine cv_V (mj := 52) (a := 36) (as := [.long (J 3 5), .long (J 3 6)]) (r := []) rfl rfl rfl ⟨rfl, by decide, Nat.le_of_ble_eq_true rfl, Nat.le_of_ble_eq_true rfl⟩ rfl (wcV_mono k (fun I1 J1 k => ?_))
    refine wp_seg (C := gC7) (pc1 := 29) (Lo1 := [some (.ref 31), some (.int p1), none]) (st1' := [.ref 31]) (w1 := (wv x I1 J1)) hC7 1 rfl ?_
    refine cv_V (mj := 8) (a := 31) (as := []) (r := []) rfl rfl rfl ⟨rfl, by decide, Nat.le_of_ble_eq_true rfl, Nat.le_of_ble_eq_true rfl⟩ rfl (wcV_mono k (fun I2 J2 k => ?_))
    refine wp_seg (C := gC7) (pc1 := 37) (Lo1 := [some (.ref 31), some (.int p1), some (.int (I2 31 6))]) (st1' := []) (w1 := (wv x I2 J2)) hC7 3 rfl ?_
    exact k
  · have k := k.2 h
    refine wp_seg (C := gC7) (pc1 := 37) (Lo1 := [some (.ref 31), some (.int p1), some (.int (I 31 6))]) (st1' := []) (w1 := (wv x I J)) hC7 3 rfl ?_
    exact k
set_option maxRecDepth 20000 in
theorem v7_31_37 {S : Nat × (Nat → Int32)} {d : Nat} {x : mX} {I : rI0} {J : rJ0} {l1 : Int32} {l2 : Int32} {Q : Int32 → rI0 → rJ0 → Prop} (k : ((l1 < l2 → Q (if (0 : Int32) < (if ((I 31 6) - (1 : Int32)) < l1 then (I 31 6) - (1 : Int32) else l1) then if ((I 31 6) - (1 : Int32)) < l1 then (I 31 6) - (1 : Int32) else l1 else (0 : Int32)) I J) ∧ (¬ l1 < l2 → (((600 : Int32) < l2 → Q (if (0 : Int32) < (if ((I 31 6) - (1 : Int32)) < l1 then (I 31 6) - (1 : Int32) else l1) then if ((I 31 6) - (1 : Int32)) < l1 then (I 31 6) - (1 : Int32) else l1 else (0 : Int32)) I J) ∧ (¬ (600 : Int32) < l2 → (((I 36 12) = (0 : Int32) → (wcV S d 55 [.ref 36] x I J (fun I1 J1 => (wcV S d 8 [.ref 31] x I1 J1 (fun I2 J2 => wp S (d + 1) 7 37 [some (.ref 31), some (.int l1), some (.int (l2 + (1 : Int32)))] [] (wv x I2 J2) (rI x Q)))))) ∧ (¬ (I 36 12) = (0 : Int32) → Q (if (0 : Int32) < (if ((I 31 6) - (1 : Int32)) < l1 then (I 31 6) - (1 : Int32) else l1) then if ((I 31 6) - (1 : Int32)) < l1 then (I 31 6) - (1 : Int32) else l1 else (0 : Int32)) I J))))))) : wp S (d + 1) 7 37 [some (.ref 31), some (.int l1), some (.int l2)] [] (wv x I J) (rI x Q) := by
  refine wp_seg (C := gC7) (pc1 := 39) (Lo1 := [some (.ref 31), some (.int l1), some (.int l2)]) (st1' := [.int l1, .int l2]) (w1 := (wv x I J)) hC7 2 rfl ?_
  refine wj_gt (tgt := 76) rfl rfl (fun h => ?_) (fun h => ?_)
  · have k := k.1 h
    refine wp_seg (C := gC7) (pc1 := 84) (Lo1 := [some (.ref 31), some (.int l1), some (.int l2)]) (st1' := [.int ((I 31 6) - (1 : Int32)), .int l1, .int (0 : Int32)]) (w1 := (wv x I J)) hC7 6 rfl ?_
    refine wm_2 (f := fun x y => if y < x then y else x) rfl rfl (Or.inr ⟨rfl, rfl⟩) (Nat.le_of_ble_eq_true rfl) ?_
    refine wm_2 (f := fun x y => if x < y then y else x) rfl rfl (Or.inl ⟨rfl, rfl⟩) (Nat.le_of_ble_eq_true rfl) ?_
    exact we_i rfl rfl k
  · have k := k.2 h
    refine wp_seg (C := gC7) (pc1 := 46) (Lo1 := [some (.ref 31), some (.int l1), some (.int l2)]) (st1' := [.int (600 : Int32), .int l2]) (w1 := (wv x I J)) hC7 2 rfl ?_
    refine wj_gt (tgt := 76) rfl rfl (fun h => ?_) (fun h => ?_)
    · have k := k.1 h
      refine wp_seg (C := gC7) (pc1 := 84) (Lo1 := [some (.ref 31), some (.int l1), some (.int l2)]) (st1' := [.int ((I 31 6) - (1 : Int32)), .int l1, .int (0 : Int32)]) (w1 := (wv x I J)) hC7 6 rfl ?_
      refine wm_2 (f := fun x y => if y < x then y else x) rfl rfl (Or.inr ⟨rfl, rfl⟩) (Nat.le_of_ble_eq_true rfl) ?_
      refine wm_2 (f := fun x y => if x < y then y else x) rfl rfl (Or.inl ⟨rfl, rfl⟩) (Nat.le_of_ble_eq_true rfl) ?_
      exact we_i rfl rfl k
    · have k := k.2 h
      refine wp_seg (C := gC7) (pc1 := 56) (Lo1 := [some (.ref 31), some (.int l1), some (.int l2)]) (st1' := [.int (I 36 12)]) (w1 := (wv x I J)) hC7 3 rfl ?_
      refine wi_ne (tgt := 76) rfl rfl (fun h => ?_) (fun h => ?_)
      · have k := k.1 h
        refine wp_seg (C := gC7) (pc1 := 63) (Lo1 := [some (.ref 31), some (.int l1), some (.int l2)]) (st1' := [.ref 36]) (w1 := (wv x I J)) hC7 2 rfl ?_
        refine cv_V (mj := 55) (a := 36) (as := []) (r := []) rfl rfl rfl ⟨rfl, by decide, Nat.le_of_ble_eq_true rfl, Nat.le_of_ble_eq_true rfl⟩ rfl (wcV_mono k (fun I1 J1 k => ?_))
        refine wp_seg (C := gC7) (pc1 := 67) (Lo1 := [some (.ref 31), some (.int l1), some (.int l2)]) (st1' := [.ref 31]) (w1 := (wv x I1 J1)) hC7 1 rfl ?_
        refine cv_V (mj := 8) (a := 31) (as := []) (r := []) rfl rfl rfl ⟨rfl, by decide, Nat.le_of_ble_eq_true rfl, Nat.le_of_ble_eq_true rfl⟩ rfl (wcV_mono k (fun I2 J2 k => ?_))
        refine wp_seg (C := gC7) (pc1 := 37) (Lo1 := [some (.ref 31), some (.int l1), some (.int (l2 + (1 : Int32)))]) (st1' := []) (w1 := (wv x I2 J2)) hC7 2 rfl ?_
        exact k
      · have k := k.2 h
        refine wp_seg (C := gC7) (pc1 := 84) (Lo1 := [some (.ref 31), some (.int l1), some (.int l2)]) (st1' := [.int ((I 31 6) - (1 : Int32)), .int l1, .int (0 : Int32)]) (w1 := (wv x I J)) hC7 6 rfl ?_
        refine wm_2 (f := fun x y => if y < x then y else x) rfl rfl (Or.inr ⟨rfl, rfl⟩) (Nat.le_of_ble_eq_true rfl) ?_
        refine wm_2 (f := fun x y => if x < y then y else x) rfl rfl (Or.inl ⟨rfl, rfl⟩) (Nat.le_of_ble_eq_true rfl) ?_
        exact we_i rfl rfl k
set_option maxRecDepth 20000 in
theorem v250_0 {S : Nat × (Nat → Int32)} {d : Nat} {x : mX} {I : rI0} {J : rJ0} {p0 : Int64} {Q : Int32 → rI0 → rJ0 → Prop} (k : Q ((((((((((p0 - (((p0.toUInt64 >>> ((1 : Int32).toInt64.toUInt64 &&& Int64.toUInt64 63)).toInt64) &&& (6148914691236517205 : Int64))) &&& (3689348814741910323 : Int64)) + ((((p0 - (((p0.toUInt64 >>> ((1 : Int32).toInt64.toUInt64 &&& Int64.toUInt64 63)).toInt64) &&& (6148914691236517205 : Int64))).toUInt64 >>> ((2 : Int32).toInt64.toUInt64 &&& Int64.toUInt64 63)).toInt64) &&& (3689348814741910323 : Int64))) + (((((p0 - (((p0.toUInt64 >>> ((1 : Int32).toInt64.toUInt64 &&& Int64.toUInt64 63)).toInt64) &&& (6148914691236517205 : Int64))) &&& (3689348814741910323 : Int64)) + ((((p0 - (((p0.toUInt64 >>> ((1 : Int32).toInt64.toUInt64 &&& Int64.toUInt64 63)).toInt64) &&& (6148914691236517205 : Int64))).toUInt64 >>> ((2 : Int32).toInt64.toUInt64 &&& Int64.toUInt64 63)).toInt64) &&& (3689348814741910323 : Int64))).toUInt64 >>> ((4 : Int32).toInt64.toUInt64 &&& Int64.toUInt64 63)).toInt64)) &&& (1085102592571150095 : Int64)) + (((((((p0 - (((p0.toUInt64 >>> ((1 : Int32).toInt64.toUInt64 &&& Int64.toUInt64 63)).toInt64) &&& (6148914691236517205 : Int64))) &&& (3689348814741910323 : Int64)) + ((((p0 - (((p0.toUInt64 >>> ((1 : Int32).toInt64.toUInt64 &&& Int64.toUInt64 63)).toInt64) &&& (6148914691236517205 : Int64))).toUInt64 >>> ((2 : Int32).toInt64.toUInt64 &&& Int64.toUInt64 63)).toInt64) &&& (3689348814741910323 : Int64))) + (((((p0 - (((p0.toUInt64 >>> ((1 : Int32).toInt64.toUInt64 &&& Int64.toUInt64 63)).toInt64) &&& (6148914691236517205 : Int64))) &&& (3689348814741910323 : Int64)) + ((((p0 - (((p0.toUInt64 >>> ((1 : Int32).toInt64.toUInt64 &&& Int64.toUInt64 63)).toInt64) &&& (6148914691236517205 : Int64))).toUInt64 >>> ((2 : Int32).toInt64.toUInt64 &&& Int64.toUInt64 63)).toInt64) &&& (3689348814741910323 : Int64))).toUInt64 >>> ((4 : Int32).toInt64.toUInt64 &&& Int64.toUInt64 63)).toInt64)) &&& (1085102592571150095 : Int64)).toUInt64 >>> ((8 : Int32).toInt64.toUInt64 &&& Int64.toUInt64 63)).toInt64)) + ((((((((p0 - (((p0.toUInt64 >>> ((1 : Int32).toInt64.toUInt64 &&& Int64.toUInt64 63)).toInt64) &&& (6148914691236517205 : Int64))) &&& (3689348814741910323 : Int64)) + ((((p0 - (((p0.toUInt64 >>> ((1 : Int32).toInt64.toUInt64 &&& Int64.toUInt64 63)).toInt64) &&& (6148914691236517205 : Int64))).toUInt64 >>> ((2 : Int32).toInt64.toUInt64 &&& Int64.toUInt64 63)).toInt64) &&& (3689348814741910323 : Int64))) + (((((p0 - (((p0.toUInt64 >>> ((1 : Int32).toInt64.toUInt64 &&& Int64.toUInt64 63)).toInt64) &&& (6148914691236517205 : Int64))) &&& (3689348814741910323 : Int64)) + ((((p0 - (((p0.toUInt64 >>> ((1 : Int32).toInt64.toUInt64 &&& Int64.toUInt64 63)).toInt64) &&& (6148914691236517205 : Int64))).toUInt64 >>> ((2 : Int32).toInt64.toUInt64 &&& Int64.toUInt64 63)).toInt64) &&& (3689348814741910323 : Int64))).toUInt64 >>> ((4 : Int32).toInt64.toUInt64 &&& Int64.toUInt64 63)).toInt64)) &&& (1085102592571150095 : Int64)) + (((((((p0 - (((p0.toUInt64 >>> ((1 : Int32).toInt64.toUInt64 &&& Int64.toUInt64 63)).toInt64) &&& (6148914691236517205 : Int64))) &&& (3689348814741910323 : Int64)) + ((((p0 - (((p0.toUInt64 >>> ((1 : Int32).toInt64.toUInt64 &&& Int64.toUInt64 63)).toInt64) &&& (6148914691236517205 : Int64))).toUInt64 >>> ((2 : Int32).toInt64.toUInt64 &&& Int64.toUInt64 63)).toInt64) &&& (3689348814741910323 : Int64))) + (((((p0 - (((p0.toUInt64 >>> ((1 : Int32).toInt64.toUInt64 &&& Int64.toUInt64 63)).toInt64) &&& (6148914691236517205 : Int64))) &&& (3689348814741910323 : Int64)) + ((((p0 - (((p0.toUInt64 >>> ((1 : Int32).toInt64.toUInt64 &&& Int64.toUInt64 63)).toInt64) &&& (6148914691236517205 : Int64))).toUInt64 >>> ((2 : Int32).toInt64.toUInt64 &&& Int64.toUInt64 63)).toInt64) &&& (3689348814741910323 : Int64))).toUInt64 >>> ((4 : Int32).toInt64.toUInt64 &&& Int64.toUInt64 63)).toInt64)) &&& (1085102592571150095 : Int64)).toUInt64 >>> ((8 : Int32).toInt64.toUInt64 &&& Int64.toUInt64 63)).toInt64)).toUInt64 >>> ((16 : Int32).toInt64.toUInt64 &&& Int64.toUInt64 63)).toInt64)) + (((((((((p0 - (((p0.toUInt64 >>> ((1 : Int32).toInt64.toUInt64 &&& Int64.toUInt64 63)).toInt64) &&& (6148914691236517205 : Int64))) &&& (3689348814741910323 : Int64)) + ((((p0 - (((p0.toUInt64 >>> ((1 : Int32).toInt64.toUInt64 &&& Int64.toUInt64 63)).toInt64) &&& (6148914691236517205 : Int64))).toUInt64 >>> ((2 : Int32).toInt64.toUInt64 &&& Int64.toUInt64 63)).toInt64) &&& (3689348814741910323 : Int64))) + (((((p0 - (((p0.toUInt64 >>> ((1 : Int32).toInt64.toUInt64 &&& Int64.toUInt64 63)).toInt64) &&& (6148914691236517205 : Int64))) &&& (3689348814741910323 : Int64)) + ((((p0 - (((p0.toUInt64 >>> ((1 : Int32).toInt64.toUInt64 &&& Int64.toUInt64 63)).toInt64) &&& (6148914691236517205 : Int64))).toUInt64 >>> ((2 : Int32).toInt64.toUInt64 &&& Int64.toUInt64 63)).toInt64) &&& (3689348814741910323 : Int64))).toUInt64 >>> ((4 : Int32).toInt64.toUInt64 &&& Int64.toUInt64 63)).toInt64)) &&& (1085102592571150095 : Int64)) + (((((((p0 - (((p0.toUInt64 >>> ((1 : Int32).toInt64.toUInt64 &&& Int64.toUInt64 63)).toInt64) &&& (6148914691236517205 : Int64))) &&& (3689348814741910323 : Int64)) + ((((p0 - (((p0.toUInt64 >>> ((1 : Int32).toInt64.toUInt64 &&& Int64.toUInt64 63)).toInt64) &&& (6148914691236517205 : Int64))).toUInt64 >>> ((2 : Int32).toInt64.toUInt64 &&& Int64.toUInt64 63)).toInt64) &&& (3689348814741910323 : Int64))) + (((((p0 - (((p0.toUInt64 >>> ((1 : Int32).toInt64.toUInt64 &&& Int64.toUInt64 63)).toInt64) &&& (6148914691236517205 : Int64))) &&& (3689348814741910323 : Int64)) + ((((p0 - (((p0.toUInt64 >>> ((1 : Int32).toInt64.toUInt64 &&& Int64.toUInt64 63)).toInt64) &&& (6148914691236517205 : Int64))).toUInt64 >>> ((2 : Int32).toInt64.toUInt64 &&& Int64.toUInt64 63)).toInt64) &&& (3689348814741910323 : Int64))).toUInt64 >>> ((4 : Int32).toInt64.toUInt64 &&& Int64.toUInt64 63)).toInt64)) &&& (1085102592571150095 : Int64)).toUInt64 >>> ((8 : Int32).toInt64.toUInt64 &&& Int64.toUInt64 63)).toInt64)) + ((((((((p0 - (((p0.toUInt64 >>> ((1 : Int32).toInt64.toUInt64 &&& Int64.toUInt64 63)).toInt64) &&& (6148914691236517205 : Int64))) &&& (3689348814741910323 : Int64)) + ((((p0 - (((p0.toUInt64 >>> ((1 : Int32).toInt64.toUInt64 &&& Int64.toUInt64 63)).toInt64) &&& (6148914691236517205 : Int64))).toUInt64 >>> ((2 : Int32).toInt64.toUInt64 &&& Int64.toUInt64 63)).toInt64) &&& (3689348814741910323 : Int64))) + (((((p0 - (((p0.toUInt64 >>> ((1 : Int32).toInt64.toUInt64 &&& Int64.toUInt64 63)).toInt64) &&& (6148914691236517205 : Int64))) &&& (3689348814741910323 : Int64)) + ((((p0 - (((p0.toUInt64 >>> ((1 : Int32).toInt64.toUInt64 &&& Int64.toUInt64 63)).toInt64) &&& (6148914691236517205 : Int64))).toUInt64 >>> ((2 : Int32).toInt64.toUInt64 &&& Int64.toUInt64 63)).toInt64) &&& (3689348814741910323 : Int64))).toUInt64 >>> ((4 : Int32).toInt64.toUInt64 &&& Int64.toUInt64 63)).toInt64)) &&& (1085102592571150095 : Int64)) + (((((((p0 - (((p0.toUInt64 >>> ((1 : Int32).toInt64.toUInt64 &&& Int64.toUInt64 63)).toInt64) &&& (6148914691236517205 : Int64))) &&& (3689348814741910323 : Int64)) + ((((p0 - (((p0.toUInt64 >>> ((1 : Int32).toInt64.toUInt64 &&& Int64.toUInt64 63)).toInt64) &&& (6148914691236517205 : Int64))).toUInt64 >>> ((2 : Int32).toInt64.toUInt64 &&& Int64.toUInt64 63)).toInt64) &&& (3689348814741910323 : Int64))) + (((((p0 - (((p0.toUInt64 >>> ((1 : Int32).toInt64.toUInt64 &&& Int64.toUInt64 63)).toInt64) &&& (6148914691236517205 : Int64))) &&& (3689348814741910323 : Int64)) + ((((p0 - (((p0.toUInt64 >>> ((1 : Int32).toInt64.toUInt64 &&& Int64.toUInt64 63)).toInt64) &&& (6148914691236517205 : Int64))).toUInt64 >>> ((2 : Int32).toInt64.toUInt64 &&& Int64.toUInt64 63)).toInt64) &&& (3689348814741910323 : Int64))).toUInt64 >>> ((4 : Int32).toInt64.toUInt64 &&& Int64.toUInt64 63)).toInt64)) &&& (1085102592571150095 : Int64)).toUInt64 >>> ((8 : Int32).toInt64.toUInt64 &&& Int64.toUInt64 63)).toInt64)).toUInt64 >>> ((16 : Int32).toInt64.toUInt64 &&& Int64.toUInt64 63)).toInt64)).toUInt64 >>> ((32 : Int32).toInt64.toUInt64 &&& Int64.toUInt64 63)).toInt64)).toInt32) &&& (127 : Int32)) I J) : wp S d 250 0 [some (.long p0), none] [] (wv x I J) (rI x Q) := by
  refine wp_seg (C := gC250) (pc1 := 16) (Lo1 := [some (.long (p0 - (((p0.toUInt64 >>> ((1 : Int32).toInt64.toUInt64 &&& Int64.toUInt64 63)).toInt64) &&& (6148914691236517205 : Int64)))), none]) (st1' := [.long (p0 - (((p0.toUInt64 >>> ((1 : Int32).toInt64.toUInt64 &&& Int64.toUInt64 63)).toInt64) &&& (6148914691236517205 : Int64))), .long ((p0 - (((p0.toUInt64 >>> ((1 : Int32).toInt64.toUInt64 &&& Int64.toUInt64 63)).toInt64) &&& (6148914691236517205 : Int64))) &&& (3689348814741910323 : Int64))]) (w1 := (wv x I J)) hC250 12 rfl ?_
  refine wp_seg (C := gC250) (pc1 := 32) (Lo1 := [some (.long (((p0 - (((p0.toUInt64 >>> ((1 : Int32).toInt64.toUInt64 &&& Int64.toUInt64 63)).toInt64) &&& (6148914691236517205 : Int64))) &&& (3689348814741910323 : Int64)) + ((((p0 - (((p0.toUInt64 >>> ((1 : Int32).toInt64.toUInt64 &&& Int64.toUInt64 63)).toInt64) &&& (6148914691236517205 : Int64))).toUInt64 >>> ((2 : Int32).toInt64.toUInt64 &&& Int64.toUInt64 63)).toInt64) &&& (3689348814741910323 : Int64)))), none]) (st1' := [.long (1085102592571150095 : Int64), .long ((((p0 - (((p0.toUInt64 >>> ((1 : Int32).toInt64.toUInt64 &&& Int64.toUInt64 63)).toInt64) &&& (6148914691236517205 : Int64))) &&& (3689348814741910323 : Int64)) + ((((p0 - (((p0.toUInt64 >>> ((1 : Int32).toInt64.toUInt64 &&& Int64.toUInt64 63)).toInt64) &&& (6148914691236517205 : Int64))).toUInt64 >>> ((2 : Int32).toInt64.toUInt64 &&& Int64.toUInt64 63)).toInt64) &&& (3689348814741910323 : Int64))) + (((((p0 - (((p0.toUInt64 >>> ((1 : Int32).toInt64.toUInt64 &&& Int64.toUInt64 63)).toInt64) &&& (6148914691236517205 : Int64))) &&& (3689348814741910323 : Int64)) + ((((p0 - (((p0.toUInt64 >>> ((1 : Int32).toInt64.toUInt64 &&& Int64.toUInt64 63)).toInt64) &&& (6148914691236517205 : Int64))).toUInt64 >>> ((2 : Int32).toInt64.toUInt64 &&& Int64.toUInt64 63)).toInt64) &&& (3689348814741910323 : Int64))).toUInt64 >>> ((4 : Int32).toInt64.toUInt64 &&& Int64.toUInt64 63)).toInt64))]) (w1 := (wv x I J)) hC250 12 rfl ?_
  refine wp_seg (C := gC250) (pc1 := 41) (Lo1 := [some (.long ((((((p0 - (((p0.toUInt64 >>> ((1 : Int32).toInt64.toUInt64 &&& Int64.toUInt64 63)).toInt64) &&& (6148914691236517205 : Int64))) &&& (3689348814741910323 : Int64)) + ((((p0 - (((p0.toUInt64 >>> ((1 : Int32).toInt64.toUInt64 &&& Int64.toUInt64 63)).toInt64) &&& (6148914691236517205 : Int64))).toUInt64 >>> ((2 : Int32).toInt64.toUInt64 &&& Int64.toUInt64 63)).toInt64) &&& (3689348814741910323 : Int64))) + (((((p0 - (((p0.toUInt64 >>> ((1 : Int32).toInt64.toUInt64 &&& Int64.toUInt64 63)).toInt64) &&& (6148914691236517205 : Int64))) &&& (3689348814741910323 : Int64)) + ((((p0 - (((p0.toUInt64 >>> ((1 : Int32).toInt64.toUInt64 &&& Int64.toUInt64 63)).toInt64) &&& (6148914691236517205 : Int64))).toUInt64 >>> ((2 : Int32).toInt64.toUInt64 &&& Int64.toUInt64 63)).toInt64) &&& (3689348814741910323 : Int64))).toUInt64 >>> ((4 : Int32).toInt64.toUInt64 &&& Int64.toUInt64 63)).toInt64)) &&& (1085102592571150095 : Int64)) + (((((((p0 - (((p0.toUInt64 >>> ((1 : Int32).toInt64.toUInt64 &&& Int64.toUInt64 63)).toInt64) &&& (6148914691236517205 : Int64))) &&& (3689348814741910323 : Int64)) + ((((p0 - (((p0.toUInt64 >>> ((1 : Int32).toInt64.toUInt64 &&& Int64.toUInt64 63)).toInt64) &&& (6148914691236517205 : Int64))).toUInt64 >>> ((2 : Int32).toInt64.toUInt64 &&& Int64.toUInt64 63)).toInt64) &&& (3689348814741910323 : Int64))) + (((((p0 - (((p0.toUInt64 >>> ((1 : Int32).toInt64.toUInt64 &&& Int64.toUInt64 63)).toInt64) &&& (6148914691236517205 : Int64))) &&& (3689348814741910323 : Int64)) + ((((p0 - (((p0.toUInt64 >>> ((1 : Int32).toInt64.toUInt64 &&& Int64.toUInt64 63)).toInt64) &&& (6148914691236517205 : Int64))).toUInt64 >>> ((2 : Int32).toInt64.toUInt64 &&& Int64.toUInt64 63)).toInt64) &&& (3689348814741910323 : Int64))).toUInt64 >>> ((4 : Int32).toInt64.toUInt64 &&& Int64.toUInt64 63)).toInt64)) &&& (1085102592571150095 : Int64)).toUInt64 >>> ((8 : Int32).toInt64.toUInt64 &&& Int64.toUInt64 63)).toInt64))), none]) (st1' := []) (w1 := (wv x I J)) hC250 8 rfl ?_
  refine wp_seg (C := gC250) (pc1 := 55) (Lo1 := [some (.long ((((((((p0 - (((p0.toUInt64 >>> ((1 : Int32).toInt64.toUInt64 &&& Int64.toUInt64 63)).toInt64) &&& (6148914691236517205 : Int64))) &&& (3689348814741910323 : Int64)) + ((((p0 - (((p0.toUInt64 >>> ((1 : Int32).toInt64.toUInt64 &&& Int64.toUInt64 63)).toInt64) &&& (6148914691236517205 : Int64))).toUInt64 >>> ((2 : Int32).toInt64.toUInt64 &&& Int64.toUInt64 63)).toInt64) &&& (3689348814741910323 : Int64))) + (((((p0 - (((p0.toUInt64 >>> ((1 : Int32).toInt64.toUInt64 &&& Int64.toUInt64 63)).toInt64) &&& (6148914691236517205 : Int64))) &&& (3689348814741910323 : Int64)) + ((((p0 - (((p0.toUInt64 >>> ((1 : Int32).toInt64.toUInt64 &&& Int64.toUInt64 63)).toInt64) &&& (6148914691236517205 : Int64))).toUInt64 >>> ((2 : Int32).toInt64.toUInt64 &&& Int64.toUInt64 63)).toInt64) &&& (3689348814741910323 : Int64))).toUInt64 >>> ((4 : Int32).toInt64.toUInt64 &&& Int64.toUInt64 63)).toInt64)) &&& (1085102592571150095 : Int64)) + (((((((p0 - (((p0.toUInt64 >>> ((1 : Int32).toInt64.toUInt64 &&& Int64.toUInt64 63)).toInt64) &&& (6148914691236517205 : Int64))) &&& (3689348814741910323 : Int64)) + ((((p0 - (((p0.toUInt64 >>> ((1 : Int32).toInt64.toUInt64 &&& Int64.toUInt64 63)).toInt64) &&& (6148914691236517205 : Int64))).toUInt64 >>> ((2 : Int32).toInt64.toUInt64 &&& Int64.toUInt64 63)).toInt64) &&& (3689348814741910323 : Int64))) + (((((p0 - (((p0.toUInt64 >>> ((1 : Int32).toInt64.toUInt64 &&& Int64.toUInt64 63)).toInt64) &&& (6148914691236517205 : Int64))) &&& (3689348814741910323 : Int64)) + ((((p0 - (((p0.toUInt64 >>> ((1 : Int32).toInt64.toUInt64 &&& Int64.toUInt64 63)).toInt64) &&& (6148914691236517205 : Int64))).toUInt64 >>> ((2 : Int32).toInt64.toUInt64 &&& Int64.toUInt64 63)).toInt64) &&& (3689348814741910323 : Int64))).toUInt64 >>> ((4 : Int32).toInt64.toUInt64 &&& Int64.toUInt64 63)).toInt64)) &&& (1085102592571150095 : Int64)).toUInt64 >>> ((8 : Int32).toInt64.toUInt64 &&& Int64.toUInt64 63)).toInt64)) + ((((((((p0 - (((p0.toUInt64 >>> ((1 : Int32).toInt64.toUInt64 &&& Int64.toUInt64 63)).toInt64) &&& (6148914691236517205 : Int64))) &&& (3689348814741910323 : Int64)) + ((((p0 - (((p0.toUInt64 >>> ((1 : Int32).toInt64.toUInt64 &&& Int64.toUInt64 63)).toInt64) &&& (6148914691236517205 : Int64))).toUInt64 >>> ((2 : Int32).toInt64.toUInt64 &&& Int64.toUInt64 63)).toInt64) &&& (3689348814741910323 : Int64))) + (((((p0 - (((p0.toUInt64 >>> ((1 : Int32).toInt64.toUInt64 &&& Int64.toUInt64 63)).toInt64) &&& (6148914691236517205 : Int64))) &&& (3689348814741910323 : Int64)) + ((((p0 - (((p0.toUInt64 >>> ((1 : Int32).toInt64.toUInt64 &&& Int64.toUInt64 63)).toInt64) &&& (6148914691236517205 : Int64))).toUInt64 >>> ((2 : Int32).toInt64.toUInt64 &&& Int64.toUInt64 63)).toInt64) &&& (3689348814741910323 : Int64))).toUInt64 >>> ((4 : Int32).toInt64.toUInt64 &&& Int64.toUInt64 63)).toInt64)) &&& (1085102592571150095 : Int64)) + (((((((p0 - (((p0.toUInt64 >>> ((1 : Int32).toInt64.toUInt64 &&& Int64.toUInt64 63)).toInt64) &&& (6148914691236517205 : Int64))) &&& (3689348814741910323 : Int64)) + ((((p0 - (((p0.toUInt64 >>> ((1 : Int32).toInt64.toUInt64 &&& Int64.toUInt64 63)).toInt64) &&& (6148914691236517205 : Int64))).toUInt64 >>> ((2 : Int32).toInt64.toUInt64 &&& Int64.toUInt64 63)).toInt64) &&& (3689348814741910323 : Int64))) + (((((p0 - (((p0.toUInt64 >>> ((1 : Int32).toInt64.toUInt64 &&& Int64.toUInt64 63)).toInt64) &&& (6148914691236517205 : Int64))) &&& (3689348814741910323 : Int64)) + ((((p0 - (((p0.toUInt64 >>> ((1 : Int32).toInt64.toUInt64 &&& Int64.toUInt64 63)).toInt64) &&& (6148914691236517205 : Int64))).toUInt64 >>> ((2 : Int32).toInt64.toUInt64 &&& Int64.toUInt64 63)).toInt64) &&& (3689348814741910323 : Int64))).toUInt64 >>> ((4 : Int32).toInt64.toUInt64 &&& Int64.toUInt64 63)).toInt64)) &&& (1085102592571150095 : Int64)).toUInt64 >>> ((8 : Int32).toInt64.toUInt64 &&& Int64.toUInt64 63)).toInt64)).toUInt64 >>> ((16 : Int32).toInt64.toUInt64 &&& Int64.toUInt64 63)).toInt64)) + (((((((((p0 - (((p0.toUInt64 >>> ((1 : Int32).toInt64.toUInt64 &&& Int64.toUInt64 63)).toInt64) &&& (6148914691236517205 : Int64))) &&& (3689348814741910323 : Int64)) + ((((p0 - (((p0.toUInt64 >>> ((1 : Int32).toInt64.toUInt64 &&& Int64.toUInt64 63)).toInt64) &&& (6148914691236517205 : Int64))).toUInt64 >>> ((2 : Int32).toInt64.toUInt64 &&& Int64.toUInt64 63)).toInt64) &&& (3689348814741910323 : Int64))) + (((((p0 - (((p0.toUInt64 >>> ((1 : Int32).toInt64.toUInt64 &&& Int64.toUInt64 63)).toInt64) &&& (6148914691236517205 : Int64))) &&& (3689348814741910323 : Int64)) + ((((p0 - (((p0.toUInt64 >>> ((1 : Int32).toInt64.toUInt64 &&& Int64.toUInt64 63)).toInt64) &&& (6148914691236517205 : Int64))).toUInt64 >>> ((2 : Int32).toInt64.toUInt64 &&& Int64.toUInt64 63)).toInt64) &&& (3689348814741910323 : Int64))).toUInt64 >>> ((4 : Int32).toInt64.toUInt64 &&& Int64.toUInt64 63)).toInt64)) &&& (1085102592571150095 : Int64)) + (((((((p0 - (((p0.toUInt64 >>> ((1 : Int32).toInt64.toUInt64 &&& Int64.toUInt64 63)).toInt64) &&& (6148914691236517205 : Int64))) &&& (3689348814741910323 : Int64)) + ((((p0 - (((p0.toUInt64 >>> ((1 : Int32).toInt64.toUInt64 &&& Int64.toUInt64 63)).toInt64) &&& (6148914691236517205 : Int64))).toUInt64 >>> ((2 : Int32).toInt64.toUInt64 &&& Int64.toUInt64 63)).toInt64) &&& (3689348814741910323 : Int64))) + (((((p0 - (((p0.toUInt64 >>> ((1 : Int32).toInt64.toUInt64 &&& Int64.toUInt64 63)).toInt64) &&& (6148914691236517205 : Int64))) &&& (3689348814741910323 : Int64)) + ((((p0 - (((p0.toUInt64 >>> ((1 : Int32).toInt64.toUInt64 &&& Int64.toUInt64 63)).toInt64) &&& (6148914691236517205 : Int64))).toUInt64 >>> ((2 : Int32).toInt64.toUInt64 &&& Int64.toUInt64 63)).toInt64) &&& (3689348814741910323 : Int64))).toUInt64 >>> ((4 : Int32).toInt64.toUInt64 &&& Int64.toUInt64 63)).toInt64)) &&& (1085102592571150095 : Int64)).toUInt64 >>> ((8 : Int32).toInt64.toUInt64 &&& Int64.toUInt64 63)).toInt64)) + ((((((((p0 - (((p0.toUInt64 >>> ((1 : Int32).toInt64.toUInt64 &&& Int64.toUInt64 63)).toInt64) &&& (6148914691236517205 : Int64))) &&& (3689348814741910323 : Int64)) + ((((p0 - (((p0.toUInt64 >>> ((1 : Int32).toInt64.toUInt64 &&& Int64.toUInt64 63)).toInt64) &&& (6148914691236517205 : Int64))).toUInt64 >>> ((2 : Int32).toInt64.toUInt64 &&& Int64.toUInt64 63)).toInt64) &&& (3689348814741910323 : Int64))) + (((((p0 - (((p0.toUInt64 >>> ((1 : Int32).toInt64.toUInt64 &&& Int64.toUInt64 63)).toInt64) &&& (6148914691236517205 : Int64))) &&& (3689348814741910323 : Int64)) + ((((p0 - (((p0.toUInt64 >>> ((1 : Int32).toInt64.toUInt64 &&& Int64.toUInt64 63)).toInt64) &&& (6148914691236517205 : Int64))).toUInt64 >>> ((2 : Int32).toInt64.toUInt64 &&& Int64.toUInt64 63)).toInt64) &&& (3689348814741910323 : Int64))).toUInt64 >>> ((4 : Int32).toInt64.toUInt64 &&& Int64.toUInt64 63)).toInt64)) &&& (1085102592571150095 : Int64)) + (((((((p0 - (((p0.toUInt64 >>> ((1 : Int32).toInt64.toUInt64 &&& Int64.toUInt64 63)).toInt64) &&& (6148914691236517205 : Int64))) &&& (3689348814741910323 : Int64)) + ((((p0 - (((p0.toUInt64 >>> ((1 : Int32).toInt64.toUInt64 &&& Int64.toUInt64 63)).toInt64) &&& (6148914691236517205 : Int64))).toUInt64 >>> ((2 : Int32).toInt64.toUInt64 &&& Int64.toUInt64 63)).toInt64) &&& (3689348814741910323 : Int64))) + (((((p0 - (((p0.toUInt64 >>> ((1 : Int32).toInt64.toUInt64 &&& Int64.toUInt64 63)).toInt64) &&& (6148914691236517205 : Int64))) &&& (3689348814741910323 : Int64)) + ((((p0 - (((p0.toUInt64 >>> ((1 : Int32).toInt64.toUInt64 &&& Int64.toUInt64 63)).toInt64) &&& (6148914691236517205 : Int64))).toUInt64 >>> ((2 : Int32).toInt64.toUInt64 &&& Int64.toUInt64 63)).toInt64) &&& (3689348814741910323 : Int64))).toUInt64 >>> ((4 : Int32).toInt64.toUInt64 &&& Int64.toUInt64 63)).toInt64)) &&& (1085102592571150095 : Int64)).toUInt64 >>> ((8 : Int32).toInt64.toUInt64 &&& Int64.toUInt64 63)).toInt64)).toUInt64 >>> ((16 : Int32).toInt64.toUInt64 &&& Int64.toUInt64 63)).toInt64)).toUInt64 >>> ((32 : Int32).toInt64.toUInt64 &&& Int64.toUInt64 63)).toInt64))), none]) (st1' := []) (w1 := (wv x I J)) hC250 12 rfl ?_
  refine wp_seg (C := gC250) (pc1 := 60) (Lo1 := [some (.long ((((((((p0 - (((p0.toUInt64 >>> ((1 : Int32).toInt64.toUInt64 &&& Int64.toUInt64 63)).toInt64) &&& (6148914691236517205 : Int64))) &&& (3689348814741910323 : Int64)) + ((((p0 - (((p0.toUInt64 >>> ((1 : Int32).toInt64.toUInt64 &&& Int64.toUInt64 63)).toInt64) &&& (6148914691236517205 : Int64))).toUInt64 >>> ((2 : Int32).toInt64.toUInt64 &&& Int64.toUInt64 63)).toInt64) &&& (3689348814741910323 : Int64))) + (((((p0 - (((p0.toUInt64 >>> ((1 : Int32).toInt64.toUInt64 &&& Int64.toUInt64 63)).toInt64) &&& (6148914691236517205 : Int64))) &&& (3689348814741910323 : Int64)) + ((((p0 - (((p0.toUInt64 >>> ((1 : Int32).toInt64.toUInt64 &&& Int64.toUInt64 63)).toInt64) &&& (6148914691236517205 : Int64))).toUInt64 >>> ((2 : Int32).toInt64.toUInt64 &&& Int64.toUInt64 63)).toInt64) &&& (3689348814741910323 : Int64))).toUInt64 >>> ((4 : Int32).toInt64.toUInt64 &&& Int64.toUInt64 63)).toInt64)) &&& (1085102592571150095 : Int64)) + (((((((p0 - (((p0.toUInt64 >>> ((1 : Int32).toInt64.toUInt64 &&& Int64.toUInt64 63)).toInt64) &&& (6148914691236517205 : Int64))) &&& (3689348814741910323 : Int64)) + ((((p0 - (((p0.toUInt64 >>> ((1 : Int32).toInt64.toUInt64 &&& Int64.toUInt64 63)).toInt64) &&& (6148914691236517205 : Int64))).toUInt64 >>> ((2 : Int32).toInt64.toUInt64 &&& Int64.toUInt64 63)).toInt64) &&& (3689348814741910323 : Int64))) + (((((p0 - (((p0.toUInt64 >>> ((1 : Int32).toInt64.toUInt64 &&& Int64.toUInt64 63)).toInt64) &&& (6148914691236517205 : Int64))) &&& (3689348814741910323 : Int64)) + ((((p0 - (((p0.toUInt64 >>> ((1 : Int32).toInt64.toUInt64 &&& Int64.toUInt64 63)).toInt64) &&& (6148914691236517205 : Int64))).toUInt64 >>> ((2 : Int32).toInt64.toUInt64 &&& Int64.toUInt64 63)).toInt64) &&& (3689348814741910323 : Int64))).toUInt64 >>> ((4 : Int32).toInt64.toUInt64 &&& Int64.toUInt64 63)).toInt64)) &&& (1085102592571150095 : Int64)).toUInt64 >>> ((8 : Int32).toInt64.toUInt64 &&& Int64.toUInt64 63)).toInt64)) + ((((((((p0 - (((p0.toUInt64 >>> ((1 : Int32).toInt64.toUInt64 &&& Int64.toUInt64 63)).toInt64) &&& (6148914691236517205 : Int64))) &&& (3689348814741910323 : Int64)) + ((((p0 - (((p0.toUInt64 >>> ((1 : Int32).toInt64.toUInt64 &&& Int64.toUInt64 63)).toInt64) &&& (6148914691236517205 : Int64))).toUInt64 >>> ((2 : Int32).toInt64.toUInt64 &&& Int64.toUInt64 63)).toInt64) &&& (3689348814741910323 : Int64))) + (((((p0 - (((p0.toUInt64 >>> ((1 : Int32).toInt64.toUInt64 &&& Int64.toUInt64 63)).toInt64) &&& (6148914691236517205 : Int64))) &&& (3689348814741910323 : Int64)) + ((((p0 - (((p0.toUInt64 >>> ((1 : Int32).toInt64.toUInt64 &&& Int64.toUInt64 63)).toInt64) &&& (6148914691236517205 : Int64))).toUInt64 >>> ((2 : Int32).toInt64.toUInt64 &&& Int64.toUInt64 63)).toInt64) &&& (3689348814741910323 : Int64))).toUInt64 >>> ((4 : Int32).toInt64.toUInt64 &&& Int64.toUInt64 63)).toInt64)) &&& (1085102592571150095 : Int64)) + (((((((p0 - (((p0.toUInt64 >>> ((1 : Int32).toInt64.toUInt64 &&& Int64.toUInt64 63)).toInt64) &&& (6148914691236517205 : Int64))) &&& (3689348814741910323 : Int64)) + ((((p0 - (((p0.toUInt64 >>> ((1 : Int32).toInt64.toUInt64 &&& Int64.toUInt64 63)).toInt64) &&& (6148914691236517205 : Int64))).toUInt64 >>> ((2 : Int32).toInt64.toUInt64 &&& Int64.toUInt64 63)).toInt64) &&& (3689348814741910323 : Int64))) + (((((p0 - (((p0.toUInt64 >>> ((1 : Int32).toInt64.toUInt64 &&& Int64.toUInt64 63)).toInt64) &&& (6148914691236517205 : Int64))) &&& (3689348814741910323 : Int64)) + ((((p0 - (((p0.toUInt64 >>> ((1 : Int32).toInt64.toUInt64 &&& Int64.toUInt64 63)).toInt64) &&& (6148914691236517205 : Int64))).toUInt64 >>> ((2 : Int32).toInt64.toUInt64 &&& Int64.toUInt64 63)).toInt64) &&& (3689348814741910323 : Int64))).toUInt64 >>> ((4 : Int32).toInt64.toUInt64 &&& Int64.toUInt64 63)).toInt64)) &&& (1085102592571150095 : Int64)).toUInt64 >>> ((8 : Int32).toInt64.toUInt64 &&& Int64.toUInt64 63)).toInt64)).toUInt64 >>> ((16 : Int32).toInt64.toUInt64 &&& Int64.toUInt64 63)).toInt64)) + (((((((((p0 - (((p0.toUInt64 >>> ((1 : Int32).toInt64.toUInt64 &&& Int64.toUInt64 63)).toInt64) &&& (6148914691236517205 : Int64))) &&& (3689348814741910323 : Int64)) + ((((p0 - (((p0.toUInt64 >>> ((1 : Int32).toInt64.toUInt64 &&& Int64.toUInt64 63)).toInt64) &&& (6148914691236517205 : Int64))).toUInt64 >>> ((2 : Int32).toInt64.toUInt64 &&& Int64.toUInt64 63)).toInt64) &&& (3689348814741910323 : Int64))) + (((((p0 - (((p0.toUInt64 >>> ((1 : Int32).toInt64.toUInt64 &&& Int64.toUInt64 63)).toInt64) &&& (6148914691236517205 : Int64))) &&& (3689348814741910323 : Int64)) + ((((p0 - (((p0.toUInt64 >>> ((1 : Int32).toInt64.toUInt64 &&& Int64.toUInt64 63)).toInt64) &&& (6148914691236517205 : Int64))).toUInt64 >>> ((2 : Int32).toInt64.toUInt64 &&& Int64.toUInt64 63)).toInt64) &&& (3689348814741910323 : Int64))).toUInt64 >>> ((4 : Int32).toInt64.toUInt64 &&& Int64.toUInt64 63)).toInt64)) &&& (1085102592571150095 : Int64)) + (((((((p0 - (((p0.toUInt64 >>> ((1 : Int32).toInt64.toUInt64 &&& Int64.toUInt64 63)).toInt64) &&& (6148914691236517205 : Int64))) &&& (3689348814741910323 : Int64)) + ((((p0 - (((p0.toUInt64 >>> ((1 : Int32).toInt64.toUInt64 &&& Int64.toUInt64 63)).toInt64) &&& (6148914691236517205 : Int64))).toUInt64 >>> ((2 : Int32).toInt64.toUInt64 &&& Int64.toUInt64 63)).toInt64) &&& (3689348814741910323 : Int64))) + (((((p0 - (((p0.toUInt64 >>> ((1 : Int32).toInt64.toUInt64 &&& Int64.toUInt64 63)).toInt64) &&& (6148914691236517205 : Int64))) &&& (3689348814741910323 : Int64)) + ((((p0 - (((p0.toUInt64 >>> ((1 : Int32).toInt64.toUInt64 &&& Int64.toUInt64 63)).toInt64) &&& (6148914691236517205 : Int64))).toUInt64 >>> ((2 : Int32).toInt64.toUInt64 &&& Int64.toUInt64 63)).toInt64) &&& (3689348814741910323 : Int64))).toUInt64 >>> ((4 : Int32).toInt64.toUInt64 &&& Int64.toUInt64 63)).toInt64)) &&& (1085102592571150095 : Int64)).toUInt64 >>> ((8 : Int32).toInt64.toUInt64 &&& Int64.toUInt64 63)).toInt64)) + ((((((((p0 - (((p0.toUInt64 >>> ((1 : Int32).toInt64.toUInt64 &&& Int64.toUInt64 63)).toInt64) &&& (6148914691236517205 : Int64))) &&& (3689348814741910323 : Int64)) + ((((p0 - (((p0.toUInt64 >>> ((1 : Int32).toInt64.toUInt64 &&& Int64.toUInt64 63)).toInt64) &&& (6148914691236517205 : Int64))).toUInt64 >>> ((2 : Int32).toInt64.toUInt64 &&& Int64.toUInt64 63)).toInt64) &&& (3689348814741910323 : Int64))) + (((((p0 - (((p0.toUInt64 >>> ((1 : Int32).toInt64.toUInt64 &&& Int64.toUInt64 63)).toInt64) &&& (6148914691236517205 : Int64))) &&& (3689348814741910323 : Int64)) + ((((p0 - (((p0.toUInt64 >>> ((1 : Int32).toInt64.toUInt64 &&& Int64.toUInt64 63)).toInt64) &&& (6148914691236517205 : Int64))).toUInt64 >>> ((2 : Int32).toInt64.toUInt64 &&& Int64.toUInt64 63)).toInt64) &&& (3689348814741910323 : Int64))).toUInt64 >>> ((4 : Int32).toInt64.toUInt64 &&& Int64.toUInt64 63)).toInt64)) &&& (1085102592571150095 : Int64)) + (((((((p0 - (((p0.toUInt64 >>> ((1 : Int32).toInt64.toUInt64 &&& Int64.toUInt64 63)).toInt64) &&& (6148914691236517205 : Int64))) &&& (3689348814741910323 : Int64)) + ((((p0 - (((p0.toUInt64 >>> ((1 : Int32).toInt64.toUInt64 &&& Int64.toUInt64 63)).toInt64) &&& (6148914691236517205 : Int64))).toUInt64 >>> ((2 : Int32).toInt64.toUInt64 &&& Int64.toUInt64 63)).toInt64) &&& (3689348814741910323 : Int64))) + (((((p0 - (((p0.toUInt64 >>> ((1 : Int32).toInt64.toUInt64 &&& Int64.toUInt64 63)).toInt64) &&& (6148914691236517205 : Int64))) &&& (3689348814741910323 : Int64)) + ((((p0 - (((p0.toUInt64 >>> ((1 : Int32).toInt64.toUInt64 &&& Int64.toUInt64 63)).toInt64) &&& (6148914691236517205 : Int64))).toUInt64 >>> ((2 : Int32).toInt64.toUInt64 &&& Int64.toUInt64 63)).toInt64) &&& (3689348814741910323 : Int64))).toUInt64 >>> ((4 : Int32).toInt64.toUInt64 &&& Int64.toUInt64 63)).toInt64)) &&& (1085102592571150095 : Int64)).toUInt64 >>> ((8 : Int32).toInt64.toUInt64 &&& Int64.toUInt64 63)).toInt64)).toUInt64 >>> ((16 : Int32).toInt64.toUInt64 &&& Int64.toUInt64 63)).toInt64)).toUInt64 >>> ((32 : Int32).toInt64.toUInt64 &&& Int64.toUInt64 63)).toInt64))), none]) (st1' := [.int ((((((((((p0 - (((p0.toUInt64 >>> ((1 : Int32).toInt64.toUInt64 &&& Int64.toUInt64 63)).toInt64) &&& (6148914691236517205 : Int64))) &&& (3689348814741910323 : Int64)) + ((((p0 - (((p0.toUInt64 >>> ((1 : Int32).toInt64.toUInt64 &&& Int64.toUInt64 63)).toInt64) &&& (6148914691236517205 : Int64))).toUInt64 >>> ((2 : Int32).toInt64.toUInt64 &&& Int64.toUInt64 63)).toInt64) &&& (3689348814741910323 : Int64))) + (((((p0 - (((p0.toUInt64 >>> ((1 : Int32).toInt64.toUInt64 &&& Int64.toUInt64 63)).toInt64) &&& (6148914691236517205 : Int64))) &&& (3689348814741910323 : Int64)) + ((((p0 - (((p0.toUInt64 >>> ((1 : Int32).toInt64.toUInt64 &&& Int64.toUInt64 63)).toInt64) &&& (6148914691236517205 : Int64))).toUInt64 >>> ((2 : Int32).toInt64.toUInt64 &&& Int64.toUInt64 63)).toInt64) &&& (3689348814741910323 : Int64))).toUInt64 >>> ((4 : Int32).toInt64.toUInt64 &&& Int64.toUInt64 63)).toInt64)) &&& (1085102592571150095 : Int64)) + (((((((p0 - (((p0.toUInt64 >>> ((1 : Int32).toInt64.toUInt64 &&& Int64.toUInt64 63)).toInt64) &&& (6148914691236517205 : Int64))) &&& (3689348814741910323 : Int64)) + ((((p0 - (((p0.toUInt64 >>> ((1 : Int32).toInt64.toUInt64 &&& Int64.toUInt64 63)).toInt64) &&& (6148914691236517205 : Int64))).toUInt64 >>> ((2 : Int32).toInt64.toUInt64 &&& Int64.toUInt64 63)).toInt64) &&& (3689348814741910323 : Int64))) + (((((p0 - (((p0.toUInt64 >>> ((1 : Int32).toInt64.toUInt64 &&& Int64.toUInt64 63)).toInt64) &&& (6148914691236517205 : Int64))) &&& (3689348814741910323 : Int64)) + ((((p0 - (((p0.toUInt64 >>> ((1 : Int32).toInt64.toUInt64 &&& Int64.toUInt64 63)).toInt64) &&& (6148914691236517205 : Int64))).toUInt64 >>> ((2 : Int32).toInt64.toUInt64 &&& Int64.toUInt64 63)).toInt64) &&& (3689348814741910323 : Int64))).toUInt64 >>> ((4 : Int32).toInt64.toUInt64 &&& Int64.toUInt64 63)).toInt64)) &&& (1085102592571150095 : Int64)).toUInt64 >>> ((8 : Int32).toInt64.toUInt64 &&& Int64.toUInt64 63)).toInt64)) + ((((((((p0 - (((p0.toUInt64 >>> ((1 : Int32).toInt64.toUInt64 &&& Int64.toUInt64 63)).toInt64) &&& (6148914691236517205 : Int64))) &&& (3689348814741910323 : Int64)) + ((((p0 - (((p0.toUInt64 >>> ((1 : Int32).toInt64.toUInt64 &&& Int64.toUInt64 63)).toInt64) &&& (6148914691236517205 : Int64))).toUInt64 >>> ((2 : Int32).toInt64.toUInt64 &&& Int64.toUInt64 63)).toInt64) &&& (3689348814741910323 : Int64))) + (((((p0 - (((p0.toUInt64 >>> ((1 : Int32).toInt64.toUInt64 &&& Int64.toUInt64 63)).toInt64) &&& (6148914691236517205 : Int64))) &&& (3689348814741910323 : Int64)) + ((((p0 - (((p0.toUInt64 >>> ((1 : Int32).toInt64.toUInt64 &&& Int64.toUInt64 63)).toInt64) &&& (6148914691236517205 : Int64))).toUInt64 >>> ((2 : Int32).toInt64.toUInt64 &&& Int64.toUInt64 63)).toInt64) &&& (3689348814741910323 : Int64))).toUInt64 >>> ((4 : Int32).toInt64.toUInt64 &&& Int64.toUInt64 63)).toInt64)) &&& (1085102592571150095 : Int64)) + (((((((p0 - (((p0.toUInt64 >>> ((1 : Int32).toInt64.toUInt64 &&& Int64.toUInt64 63)).toInt64) &&& (6148914691236517205 : Int64))) &&& (3689348814741910323 : Int64)) + ((((p0 - (((p0.toUInt64 >>> ((1 : Int32).toInt64.toUInt64 &&& Int64.toUInt64 63)).toInt64) &&& (6148914691236517205 : Int64))).toUInt64 >>> ((2 : Int32).toInt64.toUInt64 &&& Int64.toUInt64 63)).toInt64) &&& (3689348814741910323 : Int64))) + (((((p0 - (((p0.toUInt64 >>> ((1 : Int32).toInt64.toUInt64 &&& Int64.toUInt64 63)).toInt64) &&& (6148914691236517205 : Int64))) &&& (3689348814741910323 : Int64)) + ((((p0 - (((p0.toUInt64 >>> ((1 : Int32).toInt64.toUInt64 &&& Int64.toUInt64 63)).toInt64) &&& (6148914691236517205 : Int64))).toUInt64 >>> ((2 : Int32).toInt64.toUInt64 &&& Int64.toUInt64 63)).toInt64) &&& (3689348814741910323 : Int64))).toUInt64 >>> ((4 : Int32).toInt64.toUInt64 &&& Int64.toUInt64 63)).toInt64)) &&& (1085102592571150095 : Int64)).toUInt64 >>> ((8 : Int32).toInt64.toUInt64 &&& Int64.toUInt64 63)).toInt64)).toUInt64 >>> ((16 : Int32).toInt64.toUInt64 &&& Int64.toUInt64 63)).toInt64)) + (((((((((p0 - (((p0.toUInt64 >>> ((1 : Int32).toInt64.toUInt64 &&& Int64.toUInt64 63)).toInt64) &&& (6148914691236517205 : Int64))) &&& (3689348814741910323 : Int64)) + ((((p0 - (((p0.toUInt64 >>> ((1 : Int32).toInt64.toUInt64 &&& Int64.toUInt64 63)).toInt64) &&& (6148914691236517205 : Int64))).toUInt64 >>> ((2 : Int32).toInt64.toUInt64 &&& Int64.toUInt64 63)).toInt64) &&& (3689348814741910323 : Int64))) + (((((p0 - (((p0.toUInt64 >>> ((1 : Int32).toInt64.toUInt64 &&& Int64.toUInt64 63)).toInt64) &&& (6148914691236517205 : Int64))) &&& (3689348814741910323 : Int64)) + ((((p0 - (((p0.toUInt64 >>> ((1 : Int32).toInt64.toUInt64 &&& Int64.toUInt64 63)).toInt64) &&& (6148914691236517205 : Int64))).toUInt64 >>> ((2 : Int32).toInt64.toUInt64 &&& Int64.toUInt64 63)).toInt64) &&& (3689348814741910323 : Int64))).toUInt64 >>> ((4 : Int32).toInt64.toUInt64 &&& Int64.toUInt64 63)).toInt64)) &&& (1085102592571150095 : Int64)) + (((((((p0 - (((p0.toUInt64 >>> ((1 : Int32).toInt64.toUInt64 &&& Int64.toUInt64 63)).toInt64) &&& (6148914691236517205 : Int64))) &&& (3689348814741910323 : Int64)) + ((((p0 - (((p0.toUInt64 >>> ((1 : Int32).toInt64.toUInt64 &&& Int64.toUInt64 63)).toInt64) &&& (6148914691236517205 : Int64))).toUInt64 >>> ((2 : Int32).toInt64.toUInt64 &&& Int64.toUInt64 63)).toInt64) &&& (3689348814741910323 : Int64))) + (((((p0 - (((p0.toUInt64 >>> ((1 : Int32).toInt64.toUInt64 &&& Int64.toUInt64 63)).toInt64) &&& (6148914691236517205 : Int64))) &&& (3689348814741910323 : Int64)) + ((((p0 - (((p0.toUInt64 >>> ((1 : Int32).toInt64.toUInt64 &&& Int64.toUInt64 63)).toInt64) &&& (6148914691236517205 : Int64))).toUInt64 >>> ((2 : Int32).toInt64.toUInt64 &&& Int64.toUInt64 63)).toInt64) &&& (3689348814741910323 : Int64))).toUInt64 >>> ((4 : Int32).toInt64.toUInt64 &&& Int64.toUInt64 63)).toInt64)) &&& (1085102592571150095 : Int64)).toUInt64 >>> ((8 : Int32).toInt64.toUInt64 &&& Int64.toUInt64 63)).toInt64)) + ((((((((p0 - (((p0.toUInt64 >>> ((1 : Int32).toInt64.toUInt64 &&& Int64.toUInt64 63)).toInt64) &&& (6148914691236517205 : Int64))) &&& (3689348814741910323 : Int64)) + ((((p0 - (((p0.toUInt64 >>> ((1 : Int32).toInt64.toUInt64 &&& Int64.toUInt64 63)).toInt64) &&& (6148914691236517205 : Int64))).toUInt64 >>> ((2 : Int32).toInt64.toUInt64 &&& Int64.toUInt64 63)).toInt64) &&& (3689348814741910323 : Int64))) + (((((p0 - (((p0.toUInt64 >>> ((1 : Int32).toInt64.toUInt64 &&& Int64.toUInt64 63)).toInt64) &&& (6148914691236517205 : Int64))) &&& (3689348814741910323 : Int64)) + ((((p0 - (((p0.toUInt64 >>> ((1 : Int32).toInt64.toUInt64 &&& Int64.toUInt64 63)).toInt64) &&& (6148914691236517205 : Int64))).toUInt64 >>> ((2 : Int32).toInt64.toUInt64 &&& Int64.toUInt64 63)).toInt64) &&& (3689348814741910323 : Int64))).toUInt64 >>> ((4 : Int32).toInt64.toUInt64 &&& Int64.toUInt64 63)).toInt64)) &&& (1085102592571150095 : Int64)) + (((((((p0 - (((p0.toUInt64 >>> ((1 : Int32).toInt64.toUInt64 &&& Int64.toUInt64 63)).toInt64) &&& (6148914691236517205 : Int64))) &&& (3689348814741910323 : Int64)) + ((((p0 - (((p0.toUInt64 >>> ((1 : Int32).toInt64.toUInt64 &&& Int64.toUInt64 63)).toInt64) &&& (6148914691236517205 : Int64))).toUInt64 >>> ((2 : Int32).toInt64.toUInt64 &&& Int64.toUInt64 63)).toInt64) &&& (3689348814741910323 : Int64))) + (((((p0 - (((p0.toUInt64 >>> ((1 : Int32).toInt64.toUInt64 &&& Int64.toUInt64 63)).toInt64) &&& (6148914691236517205 : Int64))) &&& (3689348814741910323 : Int64)) + ((((p0 - (((p0.toUInt64 >>> ((1 : Int32).toInt64.toUInt64 &&& Int64.toUInt64 63)).toInt64) &&& (6148914691236517205 : Int64))).toUInt64 >>> ((2 : Int32).toInt64.toUInt64 &&& Int64.toUInt64 63)).toInt64) &&& (3689348814741910323 : Int64))).toUInt64 >>> ((4 : Int32).toInt64.toUInt64 &&& Int64.toUInt64 63)).toInt64)) &&& (1085102592571150095 : Int64)).toUInt64 >>> ((8 : Int32).toInt64.toUInt64 &&& Int64.toUInt64 63)).toInt64)).toUInt64 >>> ((16 : Int32).toInt64.toUInt64 &&& Int64.toUInt64 63)).toInt64)).toUInt64 >>> ((32 : Int32).toInt64.toUInt64 &&& Int64.toUInt64 63)).toInt64)).toInt32) &&& (127 : Int32))]) (w1 := (wv x I J)) hC250 4 rfl ?_
  exact we_i rfl rfl k
