set_option maxRecDepth 20000 in
theorem v132_0_0 {S : Nat × (Nat → Int32)} {d : Nat} {x : mX} {I : rI0} {J : rJ0} {p1 : Int32} {Q : Int32 → rI0 → rJ0 → Prop} (k : (wcI S d 24 [.ref 4, .int p1] x I J (fun r1 I1 J1 => ((r1 = (0 : Int32) → Q (-1 : Int32) I1 J1) ∧ (¬ r1 = (0 : Int32) → (wcI S d 54 [.ref 41, .long ((1 : Int64) <<< (p1.toInt64 &&& 63)), .long (J1 3 6), .int (64 : Int32)] x I1 J1 (fun r2 I2 J2 => Q r2 I2 J2))))))) : wp S (d + 1) 132 0 [some (.ref 0), some (.int p1)] [] (wv x I J) (rI x Q) := by
  refine wp_seg (C := gC132) (pc1 := 8) (Lo1 := [some (.ref 0), some (.int p1)]) (st1' := [.int p1, .ref 4]) (w1 := (wv x I J)) hC132 4 rfl ?_
  refine cv_I (mj := 24) (a := 4) (as := [.int p1]) (r := []) rfl rfl rfl ⟨rfl, by decide, Nat.le_of_ble_eq_true rfl, Nat.le_of_ble_eq_true rfl⟩ rfl (wcI_mono k (fun r1 I1 J1 k => ?_))
  refine wi_ne (tgt := 16) rfl rfl (fun h => ?_) (fun h => ?_)
  · have k := k.1 h
    refine wp_seg (C := gC132) (pc1 := 15) (Lo1 := [some (.ref 0), some (.int p1)]) (st1' := [.int (-1 : Int32)]) (w1 := (wv x I1 J1)) hC132 1 rfl ?_
    exact we_i rfl rfl k
  · have k := k.2 h
    refine wp_seg (C := gC132) (pc1 := 35) (Lo1 := [some (.ref 0), some (.int p1)]) (st1' := [.int (64 : Int32), .long (J1 3 6), .long ((1 : Int64) <<< (p1.toInt64 &&& 63)), .ref 41]) (w1 := (wv x I1 J1)) hC132 10 rfl ?_
    refine cv_I (mj := 54) (a := 41) (as := [.long ((1 : Int64) <<< (p1.toInt64 &&& 63)), .long (J1 3 6), .int (64 : Int32)]) (r := []) rfl rfl rfl ⟨rfl, by decide, Nat.le_of_ble_eq_true rfl, Nat.le_of_ble_eq_true rfl⟩ rfl (wcI_mono k (fun r2 I2 J2 k => ?_))
    exact we_i rfl rfl k
set_option maxRecDepth 20000 in
theorem v133_0_0 {S : Nat × (Nat → Int32)} {d : Nat} {x : mX} {I : rI0} {J : rJ0} {p1 : Int32} {Q : Int32 → rI0 → rJ0 → Prop} (k : ((p1 < (0 : Int32) → Q (-1 : Int32) I J) ∧ (¬ p1 < (0 : Int32) → (((1 : Int32) < p1 → Q (-1 : Int32) I J) ∧ (¬ (1 : Int32) < p1 → wp S (d + 1) 133 18 [some (.ref 0), some (.int p1), some (.int (-1 : Int32)), some (.int (-1 : Int32)), some (.int (0 : Int32)), none] [] (wv x I J) (rI x Q)))))) : wp S (d + 1) 133 0 [some (.ref 0), some (.int p1), none, none, none, none] [] (wv x I J) (rI x Q) := by
  refine wp_seg (C := gC133) (pc1 := 1) (Lo1 := [some (.ref 0), some (.int p1), none, none, none, none]) (st1' := [.int p1]) (w1 := (wv x I J)) hC133 1 rfl ?_
  refine wi_lt (tgt := 9) rfl rfl (fun h => ?_) (fun h => ?_)
  · have k := k.1 h
    refine wp_seg (C := gC133) (pc1 := 10) (Lo1 := [some (.ref 0), some (.int p1), none, none, none, none]) (st1' := [.int (-1 : Int32)]) (w1 := (wv x I J)) hC133 1 rfl ?_
    exact we_i rfl rfl k
  · have k := k.2 h
    refine wp_seg (C := gC133) (pc1 := 6) (Lo1 := [some (.ref 0), some (.int p1), none, none, none, none]) (st1' := [.int (1 : Int32), .int p1]) (w1 := (wv x I J)) hC133 2 rfl ?_
    refine wj_le (tgt := 11) rfl rfl (fun h => ?_) (fun h => ?_)
    · have k := k.1 h
      refine wp_seg (C := gC133) (pc1 := 10) (Lo1 := [some (.ref 0), some (.int p1), none, none, none, none]) (st1' := [.int (-1 : Int32)]) (w1 := (wv x I J)) hC133 1 rfl ?_
      exact we_i rfl rfl k
    · have k := k.2 h
      refine wp_seg (C := gC133) (pc1 := 15) (Lo1 := [some (.ref 0), some (.int p1), some (.int (-1 : Int32)), some (.int (-1 : Int32)), none, none]) (st1' := []) (w1 := (wv x I J)) hC133 4 rfl ?_
      refine wp_seg (C := gC133) (pc1 := 18) (Lo1 := [some (.ref 0), some (.int p1), some (.int (-1 : Int32)), some (.int (-1 : Int32)), some (.int (0 : Int32)), none]) (st1' := []) (w1 := (wv x I J)) hC133 2 rfl ?_
      exact k
set_option maxRecDepth 20000 in
theorem v133_0_18 {S : Nat × (Nat → Int32)} {d : Nat} {x : mX} {I : rI0} {J : rJ0} {l1 : Int32} {l2 : Int32} {l3 : Int32} {l4 : Int32} {Q : Int32 → rI0 → rJ0 → Prop} (k : ((l4 < (64 : Int32) → (wcI S d 132 [.ref 0, .int l4] x I J (fun r1 I1 J1 => ((l3 < r1 → wp S (d + 1) 133 18 [some (.ref 0), some (.int l1), some (.int l4), some (.int r1), some (.int (l4 + (1 : Int32))), none] [] (wv x I1 J1) (rI x Q)) ∧ (¬ l3 < r1 → ((l2 = (-1 : Int32) → wp S (d + 1) 133 18 [some (.ref 0), some (.int l1), some (.int l2), some (.int l3), some (.int (l4 + (1 : Int32))), none] [] (wv x I1 J1) (rI x Q)) ∧ (¬ l2 = (-1 : Int32) → ((r1 = l3 → (wcI S d 26 [.ref 4, .int l4] x I1 J1 (fun r2 I2 J2 => (wcI S d 26 [.ref 4, .int l2] x I2 J2 (fun r3 I3 J3 => ((r2 < r3 → wp S (d + 1) 133 18 [some (.ref 0), some (.int l1), some (.int l4), some (.int r1), some (.int (l4 + (1 : Int32))), none] [] (wv x I3 J3) (rI x Q)) ∧ (¬ r2 < r3 → wp S (d + 1) 133 18 [some (.ref 0), some (.int l1), some (.int l2), some (.int l3), some (.int (l4 + (1 : Int32))), none] [] (wv x I3 J3) (rI x Q)))))))) ∧ (¬ r1 = l3 → wp S (d + 1) 133 18 [some (.ref 0), some (.int l1), some (.int l2), some (.int l3), some (.int (l4 + (1 : Int32))), none] [] (wv x I1 J1) (rI x Q)))))))))) ∧ (¬ l4 < (64 : Int32) → ((l1 = (0 : Int32) → Q l2 I J) ∧ (¬ l1 = (0 : Int32) → Q l3 I J))))) : wp S (d + 1) 133 18 [some (.ref 0), some (.int l1), some (.int l2), some (.int l3), some (.int l4), none] [] (wv x I J) (rI x Q) := by
  refine wp_seg (C := gC133) (pc1 := 22) (Lo1 := [some (.ref 0), some (.int l1), some (.int l2), some (.int l3), some (.int l4), none]) (st1' := [.int (64 : Int32), .int l4]) (w1 := (wv x I J)) hC133 2 rfl ?_
  refine wj_ge (tgt := 88) rfl rfl (fun h => ?_) (fun h => ?_)
  · have k := k.1 h
    refine wp_seg (C := gC133) (pc1 := 28) (Lo1 := [some (.ref 0), some (.int l1), some (.int l2), some (.int l3), some (.int l4), none]) (st1' := [.int l4, .ref 0]) (w1 := (wv x I J)) hC133 2 rfl ?_
    refine cv_I (mj := 132) (a := 0) (as := [.int l4]) (r := []) rfl rfl rfl ⟨rfl, by decide, Nat.le_of_ble_eq_true rfl, Nat.le_of_ble_eq_true rfl⟩ rfl (wcI_mono k (fun r1 I1 J1 k => ?_))
    refine wp_seg (C := gC133) (pc1 := 36) (Lo1 := [some (.ref 0), some (.int l1), some (.int l2), some (.int l3), some (.int l4), some (.int r1)]) (st1' := [.int l3, .int r1]) (w1 := (wv x I1 J1)) hC133 3 rfl ?_
    refine wj_gt (tgt := 76) rfl rfl (fun h => ?_) (fun h => ?_)
    · have k := k.1 h
      refine wp_seg (C := gC133) (pc1 := 82) (Lo1 := [some (.ref 0), some (.int l1), some (.int l4), some (.int r1), some (.int l4), some (.int r1)]) (st1' := []) (w1 := (wv x I1 J1)) hC133 4 rfl ?_
      refine wp_seg (C := gC133) (pc1 := 18) (Lo1 := [some (.ref 0), some (.int l1), some (.int l4), some (.int r1), some (.int (l4 + (1 : Int32))), some (.int r1)]) (st1' := []) (w1 := (wv x I1 J1)) hC133 2 rfl ?_
      exact wp_sub (Lo := [some (.ref 0), some (.int l1), some (.int l4), some (.int r1), some (.int (l4 + (1 : Int32))), none]) (And.intro rfl (And.intro rfl (And.intro rfl (And.intro rfl (And.intro rfl (trivial)))))) k
    · have k := k.2 h
      refine wp_seg (C := gC133) (pc1 := 41) (Lo1 := [some (.ref 0), some (.int l1), some (.int l2), some (.int l3), some (.int l4), some (.int r1)]) (st1' := [.int (-1 : Int32), .int l2]) (w1 := (wv x I1 J1)) hC133 2 rfl ?_
      refine wj_eq (tgt := 82) rfl rfl (fun h => ?_) (fun h => ?_)
      · have k := k.1 h
        refine wp_seg (C := gC133) (pc1 := 18) (Lo1 := [some (.ref 0), some (.int l1), some (.int l2), some (.int l3), some (.int (l4 + (1 : Int32))), some (.int r1)]) (st1' := []) (w1 := (wv x I1 J1)) hC133 2 rfl ?_
        exact wp_sub (Lo := [some (.ref 0), some (.int l1), some (.int l2), some (.int l3), some (.int (l4 + (1 : Int32))), none]) (And.intro rfl (And.intro rfl (And.intro rfl (And.intro rfl (And.intro rfl (trivial)))))) k
      · have k := k.2 h
        refine wp_seg (C := gC133) (pc1 := 47) (Lo1 := [some (.ref 0), some (.int l1), some (.int l2), some (.int l3), some (.int l4), some (.int r1)]) (st1' := [.int l3, .int r1]) (w1 := (wv x I1 J1)) hC133 2 rfl ?_
        refine wj_ne (tgt := 82) rfl rfl (fun h => ?_) (fun h => ?_)
        · have k := k.1 h
          refine wp_seg (C := gC133) (pc1 := 59) (Lo1 := [some (.ref 0), some (.int l1), some (.int l2), some (.int l3), some (.int l4), some (.int r1)]) (st1' := [.int l4, .ref 4]) (w1 := (wv x I1 J1)) hC133 4 rfl ?_
          refine cv_I (mj := 26) (a := 4) (as := [.int l4]) (r := []) rfl rfl rfl ⟨rfl, by decide, Nat.le_of_ble_eq_true rfl, Nat.le_of_ble_eq_true rfl⟩ rfl (wcI_mono k (fun r2 I2 J2 k => ?_))
          refine wp_seg (C := gC133) (pc1 := 70) (Lo1 := [some (.ref 0), some (.int l1), some (.int l2), some (.int l3), some (.int l4), some (.int r1)]) (st1' := [.int l2, .ref 4, .int r2]) (w1 := (wv x I2 J2)) hC133 4 rfl ?_
          refine cv_I (mj := 26) (a := 4) (as := [.int l2]) (r := [.int r2]) rfl rfl rfl ⟨rfl, by decide, Nat.le_of_ble_eq_true rfl, Nat.le_of_ble_eq_true rfl⟩ rfl (wcI_mono k (fun r3 I3 J3 k => ?_))
          refine wj_ge (tgt := 82) rfl rfl (fun h => ?_) (fun h => ?_)
          · have k := k.1 h
            refine wp_seg (C := gC133) (pc1 := 82) (Lo1 := [some (.ref 0), some (.int l1), some (.int l4), some (.int r1), some (.int l4), some (.int r1)]) (st1' := []) (w1 := (wv x I3 J3)) hC133 4 rfl ?_
            refine wp_seg (C := gC133) (pc1 := 18) (Lo1 := [some (.ref 0), some (.int l1), some (.int l4), some (.int r1), some (.int (l4 + (1 : Int32))), some (.int r1)]) (st1' := []) (w1 := (wv x I3 J3)) hC133 2 rfl ?_
            exact wp_sub (Lo := [some (.ref 0), some (.int l1), some (.int l4), some (.int r1), some (.int (l4 + (1 : Int32))), none]) (And.intro rfl (And.intro rfl (And.intro rfl (And.intro rfl (And.intro rfl (trivial)))))) k
          · have k := k.2 h
            refine wp_seg (C := gC133) (pc1 := 18) (Lo1 := [some (.ref 0), some (.int l1), some (.int l2), some (.int l3), some (.int (l4 + (1 : Int32))), some (.int r1)]) (st1' := []) (w1 := (wv x I3 J3)) hC133 2 rfl ?_
            exact wp_sub (Lo := [some (.ref 0), some (.int l1), some (.int l2), some (.int l3), some (.int (l4 + (1 : Int32))), none]) (And.intro rfl (And.intro rfl (And.intro rfl (And.intro rfl (And.intro rfl (trivial)))))) k
        · have k := k.2 h
          refine wp_seg (C := gC133) (pc1 := 18) (Lo1 := [some (.ref 0), some (.int l1), some (.int l2), some (.int l3), some (.int (l4 + (1 : Int32))), some (.int r1)]) (st1' := []) (w1 := (wv x I1 J1)) hC133 2 rfl ?_
          exact wp_sub (Lo := [some (.ref 0), some (.int l1), some (.int l2), some (.int l3), some (.int (l4 + (1 : Int32))), none]) (And.intro rfl (And.intro rfl (And.intro rfl (And.intro rfl (And.intro rfl (trivial)))))) k
  · have k := k.2 h
    refine wp_seg (C := gC133) (pc1 := 89) (Lo1 := [some (.ref 0), some (.int l1), some (.int l2), some (.int l3), some (.int l4), none]) (st1' := [.int l1]) (w1 := (wv x I J)) hC133 1 rfl ?_
    refine wi_ne (tgt := 96) rfl rfl (fun h => ?_) (fun h => ?_)
    · have k := k.1 h
      refine wp_seg (C := gC133) (pc1 := 97) (Lo1 := [some (.ref 0), some (.int l1), some (.int l2), some (.int l3), some (.int l4), none]) (st1' := [.int l2]) (w1 := (wv x I J)) hC133 2 rfl ?_
      exact we_i rfl rfl k
    · have k := k.2 h
      refine wp_seg (C := gC133) (pc1 := 97) (Lo1 := [some (.ref 0), some (.int l1), some (.int l2), some (.int l3), some (.int l4), none]) (st1' := [.int l3]) (w1 := (wv x I J)) hC133 1 rfl ?_
      exact we_i rfl rfl k
set_option maxRecDepth 20000 in
theorem v134_0_0 {S : Nat × (Nat → Int32)} {d : Nat} {x : mX} {I : rI0} {J : rJ0} {p1 : Int32} {p2 : Int32} {Q : Int32 → rI0 → rJ0 → Prop} (k : (wcI S d 250 [.long (J 4 5)] x I J (fun r1 I1 J1 => ((p1 < (1 : Int32) → Q (0 : Int32) I1 J1) ∧ (¬ p1 < (1 : Int32) → ((r1 < p1 → Q (0 : Int32) I1 J1) ∧ (¬ r1 < p1 → wp S (d + 1) 134 44 [some (.ref 0), some (.int p1), some (.int p2), some (.int r1), some (.long (J1 4 5)), none, some (.int p2), some (.int (0 : Int32))] [] (wv x I1 J1) (rI x Q)))))))) : wp S (d + 1) 134 0 [some (.ref 0), some (.int p1), some (.int p2), none, none, none, none, none] [] (wv x I J) (rI x Q) := by
  refine wp_seg (C := gC134) (pc1 := 10) (Lo1 := [some (.ref 0), some (.int p1), some (.int p2), none, none, none, none, none]) (st1' := [.long (J 4 5)]) (w1 := (wv x I J)) hC134 4 rfl ?_
  refine cs_I (mj := 250) (nn := 0) (as := [.long (J 4 5)]) (r := []) rfl rfl rfl ⟨rfl, by decide, Nat.le_of_ble_eq_true rfl, Nat.le_of_ble_eq_true rfl⟩ (by decide) (wcI_mono k (fun r1 I1 J1 k => ?_))
  refine wp_seg (C := gC134) (pc1 := 16) (Lo1 := [some (.ref 0), some (.int p1), some (.int p2), some (.int r1), none, none, none, none]) (st1' := [.int (1 : Int32), .int p1]) (w1 := (wv x I1 J1)) hC134 3 rfl ?_
  refine wj_lt (tgt := 24) rfl rfl (fun h => ?_) (fun h => ?_)
  · have k := k.1 h
    refine wp_seg (C := gC134) (pc1 := 25) (Lo1 := [some (.ref 0), some (.int p1), some (.int p2), some (.int r1), none, none, none, none]) (st1' := [.int (0 : Int32)]) (w1 := (wv x I1 J1)) hC134 1 rfl ?_
    exact we_z rfl rfl (Or.inl rfl) k
  · have k := k.2 h
    refine wp_seg (C := gC134) (pc1 := 21) (Lo1 := [some (.ref 0), some (.int p1), some (.int p2), some (.int r1), none, none, none, none]) (st1' := [.int r1, .int p1]) (w1 := (wv x I1 J1)) hC134 2 rfl ?_
    refine wj_le (tgt := 26) rfl rfl (fun h => ?_) (fun h => ?_)
    · have k := k.1 h
      refine wp_seg (C := gC134) (pc1 := 25) (Lo1 := [some (.ref 0), some (.int p1), some (.int p2), some (.int r1), none, none, none, none]) (st1' := [.int (0 : Int32)]) (w1 := (wv x I1 J1)) hC134 1 rfl ?_
      exact we_z rfl rfl (Or.inl rfl) k
    · have k := k.2 h
      refine wp_seg (C := gC134) (pc1 := 41) (Lo1 := [some (.ref 0), some (.int p1), some (.int p2), some (.int r1), some (.long (J1 4 5)), none, some (.int p2), none]) (st1' := []) (w1 := (wv x I1 J1)) hC134 7 rfl ?_
      refine wp_seg (C := gC134) (pc1 := 44) (Lo1 := [some (.ref 0), some (.int p1), some (.int p2), some (.int r1), some (.long (J1 4 5)), none, some (.int p2), some (.int (0 : Int32))]) (st1' := []) (w1 := (wv x I1 J1)) hC134 2 rfl ?_
      exact k
set_option maxRecDepth 20000 in
theorem v134_0_44 {S : Nat × (Nat → Int32)} {d : Nat} {x : mX} {I : rI0} {J : rJ0} {l1 : Int32} {l2 : Int32} {l3 : Int32} {l4 : Int64} {l6 : Int32} {l7 : Int32} {Q : Int32 → rI0 → rJ0 → Prop} (k : ((l7 < l1 → ((l7 < l3 → (¬ (l3 - l7) = 0 ∧ (wcJ S d 144 [.long l4, .int (((((l6 * (1103515245 : Int32)) + (12345 : Int32)).toUInt32 >>> ((8 : Int32).toUInt32 &&& Int32.toUInt32 31)).toInt32) - ((((l6 * (1103515245 : Int32)) + (12345 : Int32)).toUInt32 >>> ((8 : Int32).toUInt32 &&& Int32.toUInt32 31)).toInt32) / (l3 - l7) * (l3 - l7))] x I J (fun r1 I1 J1 => wp S (d + 1) 134 44 [some (.ref 0), some (.int l1), some (.int l2), some (.int l3), some (.long r1), none, some (.int ((l6 * (1103515245 : Int32)) + (12345 : Int32))), some (.int (l7 + (1 : Int32)))] [] (wv x I1 J1) (rI x Q))))) ∧ (¬ l7 < l3 → wp S (d + 1) 134 91 [some (.ref 0), some (.int l1), some (.int l2), some (.int l3), some (.long l4), none, some (.int l6), some (.int l7)] [] (wv x I J) (rI x Q)))) ∧ (¬ l7 < l1 → wp S (d + 1) 134 91 [some (.ref 0), some (.int l1), some (.int l2), some (.int l3), some (.long l4), none, some (.int l6), some (.int l7)] [] (wv x I J) (rI x Q)))) : wp S (d + 1) 134 44 [some (.ref 0), some (.int l1), some (.int l2), some (.int l3), some (.long l4), none, some (.int l6), some (.int l7)] [] (wv x I J) (rI x Q) := by
  refine wp_seg (C := gC134) (pc1 := 47) (Lo1 := [some (.ref 0), some (.int l1), some (.int l2), some (.int l3), some (.long l4), none, some (.int l6), some (.int l7)]) (st1' := [.int l1, .int l7]) (w1 := (wv x I J)) hC134 2 rfl ?_
  refine wj_ge (tgt := 91) rfl rfl (fun h => ?_) (fun h => ?_)
  · have k := k.1 h
    refine wp_seg (C := gC134) (pc1 := 53) (Lo1 := [some (.ref 0), some (.int l1), some (.int l2), some (.int l3), some (.long l4), none, some (.int l6), some (.int l7)]) (st1' := [.int l3, .int l7]) (w1 := (wv x I J)) hC134 2 rfl ?_
    refine wj_ge (tgt := 91) rfl rfl (fun h => ?_) (fun h => ?_)
    · have k := k.1 h
      refine wp_seg (C := gC134) (pc1 := 78) (Lo1 := [some (.ref 0), some (.int l1), some (.int l2), some (.int l3), some (.long l4), none, some (.int ((l6 * (1103515245 : Int32)) + (12345 : Int32))), some (.int l7)]) (st1' := [.int l7, .int l3, .int ((((l6 * (1103515245 : Int32)) + (12345 : Int32)).toUInt32 >>> ((8 : Int32).toUInt32 &&& Int32.toUInt32 31)).toInt32), .long l4]) (w1 := (wv x I J)) hC134 12 rfl ?_
      refine wp_seg (C := gC134) (pc1 := 79) (Lo1 := [some (.ref 0), some (.int l1), some (.int l2), some (.int l3), some (.long l4), none, some (.int ((l6 * (1103515245 : Int32)) + (12345 : Int32))), some (.int l7)]) (st1' := [.int (l3 - l7), .int ((((l6 * (1103515245 : Int32)) + (12345 : Int32)).toUInt32 >>> ((8 : Int32).toUInt32 &&& Int32.toUInt32 31)).toInt32), .long l4]) (w1 := (wv x I J)) hC134 1 rfl ?_
      refine wd_r rfl k.1 ?_
      have k := k.2
      refine cs_J (mj := 144) (nn := 0) (as := [.long l4, .int (((((l6 * (1103515245 : Int32)) + (12345 : Int32)).toUInt32 >>> ((8 : Int32).toUInt32 &&& Int32.toUInt32 31)).toInt32) - ((((l6 * (1103515245 : Int32)) + (12345 : Int32)).toUInt32 >>> ((8 : Int32).toUInt32 &&& Int32.toUInt32 31)).toInt32) / (l3 - l7) * (l3 - l7))]) (r := []) rfl rfl rfl ⟨rfl, by decide, Nat.le_of_ble_eq_true rfl, Nat.le_of_ble_eq_true rfl⟩ (by decide) (wcJ_mono k (fun r1 I1 J1 k => ?_))
      refine wp_seg (C := gC134) (pc1 := 88) (Lo1 := [some (.ref 0), some (.int l1), some (.int l2), some (.int l3), some (.long r1), none, some (.int ((l6 * (1103515245 : Int32)) + (12345 : Int32))), some (.int (l7 + (1 : Int32)))]) (st1' := []) (w1 := (wv x I1 J1)) hC134 2 rfl ?_
      refine wp_seg (C := gC134) (pc1 := 44) (Lo1 := [some (.ref 0), some (.int l1), some (.int l2), some (.int l3), some (.long r1), none, some (.int ((l6 * (1103515245 : Int32)) + (12345 : Int32))), some (.int (l7 + (1 : Int32)))]) (st1' := []) (w1 := (wv x I1 J1)) hC134 1 rfl ?_
      exact k
    · have k := k.2 h
      exact k
  · have k := k.2 h
    exact k
set_option maxRecDepth 20000 in
theorem v134_0_91 {S : Nat × (Nat → Int32)} {d : Nat} {x : mX} {I : rI0} {J : rJ0} {l1 : Int32} {l2 : Int32} {l3 : Int32} {l4 : Int64} {l6 : Int32} {l7 : Int32} {Q : Int32 → rI0 → rJ0 → Prop} (k : (wcV S d 6 [.ref 31] x I (mSet J 3 5 ((J 4 5) &&& (l4 ^^^ (-1 : Int64)))) (fun I1 J1 => Q (1 : Int32) I1 J1))) : wp S (d + 1) 134 91 [some (.ref 0), some (.int l1), some (.int l2), some (.int l3), some (.long l4), none, some (.int l6), some (.int l7)] [] (wv x I J) (rI x Q) := by
  refine wp_seg (C := gC134) (pc1 := 116) (Lo1 := [some (.ref 0), some (.int l1), some (.int l2), some (.int l3), some (.long l4), none, some (.int l6), some (.int l7)]) (st1' := [.ref 0]) (w1 := (wv x I (mSet J 3 5 ((J 4 5) &&& (l4 ^^^ (-1 : Int64)))))) hC134 12 rfl ?_
  refine wp_seg (C := gC134) (pc1 := 119) (Lo1 := [some (.ref 0), some (.int l1), some (.int l2), some (.int l3), some (.long l4), none, some (.int l6), some (.int l7)]) (st1' := [.ref 31]) (w1 := (wv x I (mSet J 3 5 ((J 4 5) &&& (l4 ^^^ (-1 : Int64)))))) hC134 1 rfl ?_
  refine cv_V (mj := 6) (a := 31) (as := []) (r := []) rfl rfl rfl ⟨rfl, by decide, Nat.le_of_ble_eq_true rfl, Nat.le_of_ble_eq_true rfl⟩ rfl (wcV_mono k (fun I1 J1 k => ?_))
  refine wp_seg (C := gC134) (pc1 := 123) (Lo1 := [some (.ref 0), some (.int l1), some (.int l2), some (.int l3), some (.long l4), none, some (.int l6), some (.int l7)]) (st1' := [.int (1 : Int32)]) (w1 := (wv x I1 J1)) hC134 1 rfl ?_
  exact we_z rfl rfl (Or.inr rfl) k
set_option maxRecDepth 20000 in
theorem v135_0_0 {S : Nat × (Nat → Int32)} {d : Nat} {x : mX} {I : rI0} {J : rJ0} {Q : Int32 → rI0 → rJ0 → Prop} (k : (wcI S d 140 [.ref 0] x I J (fun r1 I1 J1 => ((r1 = (0 : Int32) → (wcI S d 10 [.ref 31] x I1 J1 (fun r2 I2 J2 => wp S (d + 1) 135 19 [some (.ref 0), some (.int r2), some (.int (0 : Int32)), none] [] (wv x I2 J2) (rI x Q)))) ∧ (¬ r1 = (0 : Int32) → Q (-1 : Int32) I1 J1))))) : wp S (d + 1) 135 0 [some (.ref 0), none, none, none] [] (wv x I J) (rI x Q) := by
  refine wp_seg (C := gC135) (pc1 := 1) (Lo1 := [some (.ref 0), none, none, none]) (st1' := [.ref 0]) (w1 := (wv x I J)) hC135 1 rfl ?_
  refine cv_I (mj := 140) (a := 0) (as := []) (r := []) rfl rfl rfl ⟨rfl, by decide, Nat.le_of_ble_eq_true rfl, Nat.le_of_ble_eq_true rfl⟩ rfl (wcI_mono k (fun r1 I1 J1 k => ?_))
  refine wi_eq (tgt := 9) rfl rfl (fun h => ?_) (fun h => ?_)
  · have k := k.1 h
    refine wp_seg (C := gC135) (pc1 := 13) (Lo1 := [some (.ref 0), none, none, none]) (st1' := [.ref 31]) (w1 := (wv x I1 J1)) hC135 2 rfl ?_
    refine cv_I (mj := 10) (a := 31) (as := []) (r := []) rfl rfl rfl ⟨rfl, by decide, Nat.le_of_ble_eq_true rfl, Nat.le_of_ble_eq_true rfl⟩ rfl (wcI_mono k (fun r2 I2 J2 k => ?_))
    refine wp_seg (C := gC135) (pc1 := 19) (Lo1 := [some (.ref 0), some (.int r2), some (.int (0 : Int32)), none]) (st1' := []) (w1 := (wv x I2 J2)) hC135 3 rfl ?_
    exact k
  · have k := k.2 h
    refine wp_seg (C := gC135) (pc1 := 8) (Lo1 := [some (.ref 0), none, none, none]) (st1' := [.int (-1 : Int32)]) (w1 := (wv x I1 J1)) hC135 1 rfl ?_
    exact we_i rfl rfl k
set_option maxRecDepth 20000 in
theorem v135_0_19 {S : Nat × (Nat → Int32)} {d : Nat} {x : mX} {I : rI0} {J : rJ0} {l1 : Int32} {l2 : Int32} {Q : Int32 → rI0 → rJ0 → Prop} (k : ((l2 < (20 : Int32) → (wcI S d 97 [.ref 37, .int l1] x I J (fun r1 I1 J1 => ((r1 = (-1 : Int32) → (wcV S d 6 [.ref 31] x (mSet I1 0 10 l2) J1 (fun I2 J2 => Q l1 I2 J2))) ∧ (¬ r1 = (-1 : Int32) → (¬ (64 : Int32) = 0 ∧ (¬ (64 : Int32) = 0 ∧ (wcV S d 30 [.ref 4, .int (r1 / (64 : Int32)), .int (r1 - r1 / (64 : Int32) * (64 : Int32))] x I1 J1 (fun I3 J3 => (wcI S d 54 [.ref 41, .long (J3 3 5), .long (J3 3 6), .int (64 : Int32)] x I3 J3 (fun r4 I4 J4 => wp S (d + 1) 135 19 [some (.ref 0), some (.int r4), some (.int (l2 + (1 : Int32))), none] [] (wv x I4 J4) (rI x Q)))))))))))) ∧ (¬ l2 < (20 : Int32) → (wcV S d 6 [.ref 31] x (mSet I 0 10 l2) J (fun I5 J5 => Q l1 I5 J5))))) : wp S (d + 1) 135 19 [some (.ref 0), some (.int l1), some (.int l2), none] [] (wv x I J) (rI x Q) := by
  refine wp_seg (C := gC135) (pc1 := 22) (Lo1 := [some (.ref 0), some (.int l1), some (.int l2), none]) (st1' := [.int (20 : Int32), .int l2]) (w1 := (wv x I J)) hC135 2 rfl ?_
  refine wj_ge (tgt := 93) rfl rfl (fun h => ?_) (fun h => ?_)
  · have k := k.1 h
    refine wp_seg (C := gC135) (pc1 := 30) (Lo1 := [some (.ref 0), some (.int l1), some (.int l2), none]) (st1' := [.int l1, .ref 37]) (w1 := (wv x I J)) hC135 3 rfl ?_
    refine cv_I (mj := 97) (a := 37) (as := [.int l1]) (r := []) rfl rfl rfl ⟨rfl, by decide, Nat.le_of_ble_eq_true rfl, Nat.le_of_ble_eq_true rfl⟩ rfl (wcI_mono k (fun r1 I1 J1 k => ?_))
    refine wp_seg (C := gC135) (pc1 := 36) (Lo1 := [some (.ref 0), some (.int l1), some (.int l2), some (.int r1)]) (st1' := [.int (-1 : Int32), .int r1]) (w1 := (wv x I1 J1)) hC135 3 rfl ?_
    refine wj_ne (tgt := 42) rfl rfl (fun h => ?_) (fun h => ?_)
    · have k := k.1 h
      refine wp_seg (C := gC135) (pc1 := 102) (Lo1 := [some (.ref 0), some (.int l1), some (.int l2), some (.int r1)]) (st1' := [.ref 31]) (w1 := (wv x (mSet I1 0 10 l2) J1)) hC135 6 rfl ?_
      refine cv_V (mj := 6) (a := 31) (as := []) (r := []) rfl rfl rfl ⟨rfl, by decide, Nat.le_of_ble_eq_true rfl, Nat.le_of_ble_eq_true rfl⟩ rfl (wcV_mono k (fun I2 J2 k => ?_))
      refine wp_seg (C := gC135) (pc1 := 106) (Lo1 := [some (.ref 0), some (.int l1), some (.int l2), some (.int r1)]) (st1' := [.int l1]) (w1 := (wv x I2 J2)) hC135 1 rfl ?_
      exact we_i rfl rfl k
    · have k := k.2 h
      refine wp_seg (C := gC135) (pc1 := 52) (Lo1 := [some (.ref 0), some (.int l1), some (.int l2), some (.int r1)]) (st1' := [.int (64 : Int32), .int r1, .ref 4]) (w1 := (wv x I1 J1)) hC135 5 rfl ?_
      refine wd_i rfl k.1 ?_
      have k := k.2
      refine wp_seg (C := gC135) (pc1 := 56) (Lo1 := [some (.ref 0), some (.int l1), some (.int l2), some (.int r1)]) (st1' := [.int (64 : Int32), .int r1, .int (r1 / (64 : Int32)), .ref 4]) (w1 := (wv x I1 J1)) hC135 2 rfl ?_
      refine wd_r rfl k.1 ?_
      have k := k.2
      refine cv_V (mj := 30) (a := 4) (as := [.int (r1 / (64 : Int32)), .int (r1 - r1 / (64 : Int32) * (64 : Int32))]) (r := []) rfl rfl rfl ⟨rfl, by decide, Nat.le_of_ble_eq_true rfl, Nat.le_of_ble_eq_true rfl⟩ rfl (wcV_mono k (fun I3 J3 k => ?_))
      refine wp_seg (C := gC135) (pc1 := 83) (Lo1 := [some (.ref 0), some (.int l1), some (.int l2), some (.int r1)]) (st1' := [.int (64 : Int32), .long (J3 3 6), .long (J3 3 5), .ref 41]) (w1 := (wv x I3 J3)) hC135 10 rfl ?_
      refine cv_I (mj := 54) (a := 41) (as := [.long (J3 3 5), .long (J3 3 6), .int (64 : Int32)]) (r := []) rfl rfl rfl ⟨rfl, by decide, Nat.le_of_ble_eq_true rfl, Nat.le_of_ble_eq_true rfl⟩ rfl (wcI_mono k (fun r4 I4 J4 k => ?_))
      refine wp_seg (C := gC135) (pc1 := 90) (Lo1 := [some (.ref 0), some (.int r4), some (.int (l2 + (1 : Int32))), some (.int r1)]) (st1' := []) (w1 := (wv x I4 J4)) hC135 2 rfl ?_
      refine wp_seg (C := gC135) (pc1 := 19) (Lo1 := [some (.ref 0), some (.int r4), some (.int (l2 + (1 : Int32))), some (.int r1)]) (st1' := []) (w1 := (wv x I4 J4)) hC135 1 rfl ?_
      exact wp_sub (Lo := [some (.ref 0), some (.int r4), some (.int (l2 + (1 : Int32))), none]) (And.intro rfl (And.intro rfl (And.intro rfl (trivial)))) k
  · have k := k.2 h
    refine wp_seg (C := gC135) (pc1 := 102) (Lo1 := [some (.ref 0), some (.int l1), some (.int l2), none]) (st1' := [.ref 31]) (w1 := (wv x (mSet I 0 10 l2) J)) hC135 5 rfl ?_
    refine cv_V (mj := 6) (a := 31) (as := []) (r := []) rfl rfl rfl ⟨rfl, by decide, Nat.le_of_ble_eq_true rfl, Nat.le_of_ble_eq_true rfl⟩ rfl (wcV_mono k (fun I5 J5 k => ?_))
    refine wp_seg (C := gC135) (pc1 := 106) (Lo1 := [some (.ref 0), some (.int l1), some (.int l2), none]) (st1' := [.int l1]) (w1 := (wv x I5 J5)) hC135 1 rfl ?_
    exact we_i rfl rfl k
set_option maxRecDepth 20000 in
theorem v136_0_0 {S : Nat × (Nat → Int32)} {d : Nat} {x : mX} {I : rI0} {J : rJ0} {Q : Int32 → rI0 → rJ0 → Prop} (k : Q (I 0 10) I J) : wp S d 136 0 [some (.ref 0)] [] (wv x I J) (rI x Q) := by
  refine wp_seg (C := gC136) (pc1 := 4) (Lo1 := [some (.ref 0)]) (st1' := [.int (I 0 10)]) (w1 := (wv x I J)) hC136 2 rfl ?_
  exact we_i rfl rfl k
set_option maxRecDepth 20000 in
theorem v139_0_0 {S : Nat × (Nat → Int32)} {d : Nat} {x : mX} {I : rI0} {J : rJ0} {p1 : Int32} {Q : Int32 → rI0 → rJ0 → Prop} (k : ((p1.toInt < 0 ∨ 9 < p1.toInt → Q (-1 : Int32) I J) ∧ (p1.toInt = 0 → Q (I 4 0) I J) ∧ (p1.toInt = 1 → Q (I 4 1) I J) ∧ (p1.toInt = 2 → (wcI S d 250 [.long (J 4 5)] x I J (fun r1 I1 J1 => Q r1 I1 J1))) ∧ (p1.toInt = 3 → Q (I 4 2) I J) ∧ (p1.toInt = 4 → Q (I 4 3) I J) ∧ (p1.toInt = 5 → (((I 4 4) = (0 : Int32) → Q (0 : Int32) I J) ∧ (¬ (I 4 4) = (0 : Int32) → Q (1 : Int32) I J))) ∧ (p1.toInt = 6 → (wcI S d 250 [.long (J 3 5)] x I J (fun r2 I2 J2 => Q r2 I2 J2))) ∧ (p1.toInt = 7 → (wcI S d 250 [.long (J 3 6)] x I J (fun r3 I3 J3 => Q r3 I3 J3))) ∧ (p1.toInt = 8 → Q (I 1 1) I J) ∧ (p1.toInt = 9 → Q (I 3 4) I J) ∧ True)) : wp S (d + 1) 139 0 [some (.ref 0), some (.int p1)] [] (wv x I J) (rI x Q) := by
  refine wp_seg (C := gC139) (pc1 := 1) (Lo1 := [some (.ref 0), some (.int p1)]) (st1' := [.int p1]) (w1 := (wv x I J)) hC139 1 rfl ?_
  refine wt_tab (nn := 10) rfl ⟨rfl, rfl⟩ (fun h => ?_) (fun i hi hx => ?_)
  · have k := k.1 h
    show wp S (d + 1) 139 171 [some (.ref 0), some (.int p1)] [] (wv x I J) (rI x Q)
    refine wp_seg (C := gC139) (pc1 := 172) (Lo1 := [some (.ref 0), some (.int p1)]) (st1' := [.int (-1 : Int32)]) (w1 := (wv x I J)) hC139 1 rfl ?_
    exact we_i rfl rfl k
  · have k := k.2
    rcases (by omega : i = 0 ∨ i = 1 ∨ i = 2 ∨ i = 3 ∨ i = 4 ∨ i = 5 ∨ i = 6 ∨ i = 7 ∨ i = 8 ∨ i = 9) with rfl | rfl | rfl | rfl | rfl | rfl | rfl | rfl | rfl | rfl
    · have k := k.1 (by omega)
      show wp S (d + 1) 139 56 [some (.ref 0), some (.int p1)] [] (wv x I J) (rI x Q)
      refine wp_seg (C := gC139) (pc1 := 66) (Lo1 := [some (.ref 0), some (.int p1)]) (st1' := [.int (I 4 0)]) (w1 := (wv x I J)) hC139 4 rfl ?_
      exact we_i rfl rfl k
    · have k := k.2.1 (by omega)
      show wp S (d + 1) 139 67 [some (.ref 0), some (.int p1)] [] (wv x I J) (rI x Q)
      refine wp_seg (C := gC139) (pc1 := 77) (Lo1 := [some (.ref 0), some (.int p1)]) (st1' := [.int (I 4 1)]) (w1 := (wv x I J)) hC139 4 rfl ?_
      exact we_i rfl rfl k
    · have k := k.2.2.1 (by omega)
      show wp S (d + 1) 139 78 [some (.ref 0), some (.int p1)] [] (wv x I J) (rI x Q)
      refine wp_seg (C := gC139) (pc1 := 88) (Lo1 := [some (.ref 0), some (.int p1)]) (st1' := [.long (J 4 5)]) (w1 := (wv x I J)) hC139 4 rfl ?_
      refine cs_I (mj := 250) (nn := 0) (as := [.long (J 4 5)]) (r := []) rfl rfl rfl ⟨rfl, by decide, Nat.le_of_ble_eq_true rfl, Nat.le_of_ble_eq_true rfl⟩ (by decide) (wcI_mono k (fun r1 I1 J1 k => ?_))
      exact we_i rfl rfl k
    · have k := k.2.2.2.1 (by omega)
      show wp S (d + 1) 139 92 [some (.ref 0), some (.int p1)] [] (wv x I J) (rI x Q)
      refine wp_seg (C := gC139) (pc1 := 102) (Lo1 := [some (.ref 0), some (.int p1)]) (st1' := [.int (I 4 2)]) (w1 := (wv x I J)) hC139 4 rfl ?_
      exact we_i rfl rfl k
    · have k := k.2.2.2.2.1 (by omega)
      show wp S (d + 1) 139 103 [some (.ref 0), some (.int p1)] [] (wv x I J) (rI x Q)
      refine wp_seg (C := gC139) (pc1 := 113) (Lo1 := [some (.ref 0), some (.int p1)]) (st1' := [.int (I 4 3)]) (w1 := (wv x I J)) hC139 4 rfl ?_
      exact we_i rfl rfl k
    · have k := k.2.2.2.2.2.1 (by omega)
      show wp S (d + 1) 139 114 [some (.ref 0), some (.int p1)] [] (wv x I J) (rI x Q)
      refine wp_seg (C := gC139) (pc1 := 124) (Lo1 := [some (.ref 0), some (.int p1)]) (st1' := [.int (I 4 4)]) (w1 := (wv x I J)) hC139 4 rfl ?_
      refine wi_eq (tgt := 131) rfl rfl (fun h => ?_) (fun h => ?_)
      · have k := k.1 h
        refine wp_seg (C := gC139) (pc1 := 132) (Lo1 := [some (.ref 0), some (.int p1)]) (st1' := [.int (0 : Int32)]) (w1 := (wv x I J)) hC139 1 rfl ?_
        exact we_i rfl rfl k
      · have k := k.2 h
        refine wp_seg (C := gC139) (pc1 := 132) (Lo1 := [some (.ref 0), some (.int p1)]) (st1' := [.int (1 : Int32)]) (w1 := (wv x I J)) hC139 2 rfl ?_
        exact we_i rfl rfl k
    · have k := k.2.2.2.2.2.2.1 (by omega)
      show wp S (d + 1) 139 133 [some (.ref 0), some (.int p1)] [] (wv x I J) (rI x Q)
      refine wp_seg (C := gC139) (pc1 := 140) (Lo1 := [some (.ref 0), some (.int p1)]) (st1' := [.long (J 3 5)]) (w1 := (wv x I J)) hC139 3 rfl ?_
      refine cs_I (mj := 250) (nn := 0) (as := [.long (J 3 5)]) (r := []) rfl rfl rfl ⟨rfl, by decide, Nat.le_of_ble_eq_true rfl, Nat.le_of_ble_eq_true rfl⟩ (by decide) (wcI_mono k (fun r2 I2 J2 k => ?_))
      exact we_i rfl rfl k
    · have k := k.2.2.2.2.2.2.2.1 (by omega)
      show wp S (d + 1) 139 144 [some (.ref 0), some (.int p1)] [] (wv x I J) (rI x Q)
      refine wp_seg (C := gC139) (pc1 := 151) (Lo1 := [some (.ref 0), some (.int p1)]) (st1' := [.long (J 3 6)]) (w1 := (wv x I J)) hC139 3 rfl ?_
      refine cs_I (mj := 250) (nn := 0) (as := [.long (J 3 6)]) (r := []) rfl rfl rfl ⟨rfl, by decide, Nat.le_of_ble_eq_true rfl, Nat.le_of_ble_eq_true rfl⟩ (by decide) (wcI_mono k (fun r3 I3 J3 k => ?_))
      exact we_i rfl rfl k
    · have k := k.2.2.2.2.2.2.2.2.1 (by omega)
      show wp S (d + 1) 139 155 [some (.ref 0), some (.int p1)] [] (wv x I J) (rI x Q)
      refine wp_seg (C := gC139) (pc1 := 162) (Lo1 := [some (.ref 0), some (.int p1)]) (st1' := [.int (I 1 1)]) (w1 := (wv x I J)) hC139 3 rfl ?_
      exact we_i rfl rfl k
    · have k := k.2.2.2.2.2.2.2.2.2.1 (by omega)
      show wp S (d + 1) 139 163 [some (.ref 0), some (.int p1)] [] (wv x I J) (rI x Q)
      refine wp_seg (C := gC139) (pc1 := 170) (Lo1 := [some (.ref 0), some (.int p1)]) (st1' := [.int (I 3 4)]) (w1 := (wv x I J)) hC139 3 rfl ?_
      exact we_i rfl rfl k
set_option maxRecDepth 20000 in
theorem v140_0_0 {S : Nat × (Nat → Int32)} {d : Nat} {x : mX} {I : rI0} {J : rJ0} {Q : Int32 → rI0 → rJ0 → Prop} (k : (wcI S d 250 [.long (J 4 5)] x I J (fun r1 I1 J1 => (((24 : Int32) < r1 → Q (1 : Int32) I1 J1) ∧ (¬ (24 : Int32) < r1 → Q (0 : Int32) I1 J1))))) : wp S (d + 1) 140 0 [some (.ref 0)] [] (wv x I J) (rI x Q) := by
  refine wp_seg (C := gC140) (pc1 := 10) (Lo1 := [some (.ref 0)]) (st1' := [.long (J 4 5)]) (w1 := (wv x I J)) hC140 4 rfl ?_
  refine cs_I (mj := 250) (nn := 0) (as := [.long (J 4 5)]) (r := []) rfl rfl rfl ⟨rfl, by decide, Nat.le_of_ble_eq_true rfl, Nat.le_of_ble_eq_true rfl⟩ (by decide) (wcI_mono k (fun r1 I1 J1 k => ?_))
  refine wp_seg (C := gC140) (pc1 := 15) (Lo1 := [some (.ref 0)]) (st1' := [.int (24 : Int32), .int r1]) (w1 := (wv x I1 J1)) hC140 1 rfl ?_
  refine wj_le (tgt := 22) rfl rfl (fun h => ?_) (fun h => ?_)
  · have k := k.1 h
    refine wp_seg (C := gC140) (pc1 := 23) (Lo1 := [some (.ref 0)]) (st1' := [.int (1 : Int32)]) (w1 := (wv x I1 J1)) hC140 2 rfl ?_
    exact we_z rfl rfl (Or.inr rfl) k
  · have k := k.2 h
    refine wp_seg (C := gC140) (pc1 := 23) (Lo1 := [some (.ref 0)]) (st1' := [.int (0 : Int32)]) (w1 := (wv x I1 J1)) hC140 1 rfl ?_
    exact we_z rfl rfl (Or.inl rfl) k
set_option maxRecDepth 20000 in
theorem v145_43_0 {S : Nat × (Nat → Int32)} {d : Nat} {x : mX} {I : rI0} {J : rJ0} {p1 : Int32} {Q : Int32 → rI0 → rJ0 → Prop} (k : ((p1 = (0 : Int32) → ((p1 = 0 ∨ p1 = 1) ∧ Q p1 (mSet I 43 0 (0 : Int32)) J)) ∧ (¬ p1 = (0 : Int32) → ((p1 = 0 ∨ p1 = 1) ∧ Q p1 (mSet I 43 0 (1 : Int32)) J)))) : wp S d 145 0 [some (.ref 43), some (.int p1)] [] (wv x I J) (rI x Q) := by
  refine wp_seg (C := gC145) (pc1 := 2) (Lo1 := [some (.ref 43), some (.int p1)]) (st1' := [.int p1, .ref 43]) (w1 := (wv x I J)) hC145 2 rfl ?_
  refine wi_eq (tgt := 9) rfl rfl (fun h => ?_) (fun h => ?_)
  · have k := k.1 h
    refine wp_seg (C := gC145) (pc1 := 14) (Lo1 := [some (.ref 43), some (.int p1)]) (st1' := [.int p1]) (w1 := (wv x (mSet I 43 0 (0 : Int32)) J)) hC145 3 rfl ?_
    exact we_z rfl rfl k.1 k.2
  · have k := k.2 h
    refine wp_seg (C := gC145) (pc1 := 14) (Lo1 := [some (.ref 43), some (.int p1)]) (st1' := [.int p1]) (w1 := (wv x (mSet I 43 0 (1 : Int32)) J)) hC145 4 rfl ?_
    exact we_z rfl rfl k.1 k.2
set_option maxRecDepth 20000 in
theorem v146_43_0 {S : Nat × (Nat → Int32)} {d : Nat} {x : mX} {I : rI0} {J : rJ0} {p1 : Int32} {Q : Int32 → rI0 → rJ0 → Prop} (k : ((p1 = (0 : Int32) → ((p1 = 0 ∨ p1 = 1) ∧ Q p1 (mSet I 43 0 (0 : Int32)) J)) ∧ (¬ p1 = (0 : Int32) → ((p1 = 0 ∨ p1 = 1) ∧ Q p1 (mSet I 43 0 (1 : Int32)) J)))) : wp S d 146 0 [some (.ref 43), some (.int p1)] [] (wv x I J) (rI x Q) := by
  refine wp_seg (C := gC146) (pc1 := 2) (Lo1 := [some (.ref 43), some (.int p1)]) (st1' := [.int p1, .ref 43]) (w1 := (wv x I J)) hC146 2 rfl ?_
  refine wi_eq (tgt := 9) rfl rfl (fun h => ?_) (fun h => ?_)
  · have k := k.1 h
    refine wp_seg (C := gC146) (pc1 := 14) (Lo1 := [some (.ref 43), some (.int p1)]) (st1' := [.int p1]) (w1 := (wv x (mSet I 43 0 (0 : Int32)) J)) hC146 3 rfl ?_
    exact we_z rfl rfl k.1 k.2
  · have k := k.2 h
    refine wp_seg (C := gC146) (pc1 := 14) (Lo1 := [some (.ref 43), some (.int p1)]) (st1' := [.int p1]) (w1 := (wv x (mSet I 43 0 (1 : Int32)) J)) hC146 4 rfl ?_
    exact we_z rfl rfl k.1 k.2
set_option maxRecDepth 20000 in
theorem v147_43_0 {S : Nat × (Nat → Int32)} {d : Nat} {x : mX} {I : rI0} {J : rJ0} {p1 : Int32} {p2 : Int32} {p3 : Int32} {p4 : Int32} {p5 : Int32} {Q : Int32 → rI0 → rJ0 → Prop} (k : (((940 : Int32) < ((I 43 2) + (20 : Int32)) → Q (-1 : Int32) (mSet I 43 0 (0 : Int32)) J) ∧ (¬ (940 : Int32) < ((I 43 2) + (20 : Int32)) → (wcV S d 148 [.ref 43, .int p1] x (mSet I 43 0 (0 : Int32)) J (fun I1 J1 => (wcV S d 148 [.ref 43, .int p2] x I1 J1 (fun I2 J2 => (wcV S d 148 [.ref 43, .int p3] x I2 J2 (fun I3 J3 => (wcV S d 148 [.ref 43, .int p4] x I3 J3 (fun I4 J4 => (wcV S d 148 [.ref 43, .int p5] x I4 J4 (fun I5 J5 => Q (I5 43 2) I5 J5))))))))))))) : wp S (d + 1) 147 0 [some (.ref 43), some (.int p1), some (.int p2), some (.int p3), some (.int p4), some (.int p5)] [] (wv x I J) (rI x Q) := by
  refine wp_seg (C := gC147) (pc1 := 15) (Lo1 := [some (.ref 43), some (.int p1), some (.int p2), some (.int p3), some (.int p4), some (.int p5)]) (st1' := [.int (940 : Int32), .int ((I 43 2) + (20 : Int32))]) (w1 := (wv x (mSet I 43 0 (0 : Int32)) J)) hC147 8 rfl ?_
  refine wj_le (tgt := 20) rfl rfl (fun h => ?_) (fun h => ?_)
  · have k := k.1 h
    refine wp_seg (C := gC147) (pc1 := 19) (Lo1 := [some (.ref 43), some (.int p1), some (.int p2), some (.int p3), some (.int p4), some (.int p5)]) (st1' := [.int (-1 : Int32)]) (w1 := (wv x (mSet I 43 0 (0 : Int32)) J)) hC147 1 rfl ?_
    exact we_i rfl rfl k
  · have k := k.2 h
    refine wp_seg (C := gC147) (pc1 := 22) (Lo1 := [some (.ref 43), some (.int p1), some (.int p2), some (.int p3), some (.int p4), some (.int p5)]) (st1' := [.int p1, .ref 43]) (w1 := (wv x (mSet I 43 0 (0 : Int32)) J)) hC147 2 rfl ?_
    refine cv_V (mj := 148) (a := 43) (as := [.int p1]) (r := []) rfl rfl rfl ⟨rfl, by decide, Nat.le_of_ble_eq_true rfl, Nat.le_of_ble_eq_true rfl⟩ rfl (wcV_mono k (fun I1 J1 k => ?_))
    refine wp_seg (C := gC147) (pc1 := 27) (Lo1 := [some (.ref 43), some (.int p1), some (.int p2), some (.int p3), some (.int p4), some (.int p5)]) (st1' := [.int p2, .ref 43]) (w1 := (wv x I1 J1)) hC147 2 rfl ?_
    refine cv_V (mj := 148) (a := 43) (as := [.int p2]) (r := []) rfl rfl rfl ⟨rfl, by decide, Nat.le_of_ble_eq_true rfl, Nat.le_of_ble_eq_true rfl⟩ rfl (wcV_mono k (fun I2 J2 k => ?_))
    refine wp_seg (C := gC147) (pc1 := 32) (Lo1 := [some (.ref 43), some (.int p1), some (.int p2), some (.int p3), some (.int p4), some (.int p5)]) (st1' := [.int p3, .ref 43]) (w1 := (wv x I2 J2)) hC147 2 rfl ?_
    refine cv_V (mj := 148) (a := 43) (as := [.int p3]) (r := []) rfl rfl rfl ⟨rfl, by decide, Nat.le_of_ble_eq_true rfl, Nat.le_of_ble_eq_true rfl⟩ rfl (wcV_mono k (fun I3 J3 k => ?_))
    refine wp_seg (C := gC147) (pc1 := 38) (Lo1 := [some (.ref 43), some (.int p1), some (.int p2), some (.int p3), some (.int p4), some (.int p5)]) (st1' := [.int p4, .ref 43]) (w1 := (wv x I3 J3)) hC147 2 rfl ?_
    refine cv_V (mj := 148) (a := 43) (as := [.int p4]) (r := []) rfl rfl rfl ⟨rfl, by decide, Nat.le_of_ble_eq_true rfl, Nat.le_of_ble_eq_true rfl⟩ rfl (wcV_mono k (fun I4 J4 k => ?_))
    refine wp_seg (C := gC147) (pc1 := 44) (Lo1 := [some (.ref 43), some (.int p1), some (.int p2), some (.int p3), some (.int p4), some (.int p5)]) (st1' := [.int p5, .ref 43]) (w1 := (wv x I4 J4)) hC147 2 rfl ?_
    refine cv_V (mj := 148) (a := 43) (as := [.int p5]) (r := []) rfl rfl rfl ⟨rfl, by decide, Nat.le_of_ble_eq_true rfl, Nat.le_of_ble_eq_true rfl⟩ rfl (wcV_mono k (fun I5 J5 k => ?_))
    refine wp_seg (C := gC147) (pc1 := 51) (Lo1 := [some (.ref 43), some (.int p1), some (.int p2), some (.int p3), some (.int p4), some (.int p5)]) (st1' := [.int (I5 43 2)]) (w1 := (wv x I5 J5)) hC147 2 rfl ?_
    exact we_i rfl rfl k
set_option maxRecDepth 20000 in
theorem v148_43_0 {S : Nat × (Nat → Int32)} {d : Nat} {x : mX} {I : rI0} {J : rJ0} {p1 : Int32} {Q : rI0 → rJ0 → Prop} (k : wp S d 148 3 [some (.ref 43), some (.int p1), some (.int (24 : Int32))] [] (wv x I J) (rV x Q)) : wp S d 148 0 [some (.ref 43), some (.int p1), none] [] (wv x I J) (rV x Q) := by
  refine wp_seg (C := gC148) (pc1 := 3) (Lo1 := [some (.ref 43), some (.int p1), some (.int (24 : Int32))]) (st1' := []) (w1 := (wv x I J)) hC148 2 rfl ?_
  exact k
set_option maxRecDepth 20000 in
theorem v148_43_3 {S : Nat × (Nat → Int32)} {d : Nat} {x : mX} {I : rI0} {J : rJ0} {l1 : Int32} {l2 : Int32} {Q : rI0 → rJ0 → Prop} (k : ((l2 < (0 : Int32) → Q I J) ∧ (¬ l2 < (0 : Int32) → (¬ mOut (I 43 2) 940 ∧ wp S d 148 3 [some (.ref 43), some (.int l1), some (.int (l2 + (-8 : Int32)))] [] (wv x (mSet (mSet I 44 ((I 43 2).toNatClampNeg) (vp_nar .byte ((l1 >>> (l2 &&& 31)).toInt8.toInt32))) 43 2 ((I 43 2) + (1 : Int32))) J) (rV x Q))))) : wp S d 148 3 [some (.ref 43), some (.int l1), some (.int l2)] [] (wv x I J) (rV x Q) := by
  refine wp_seg (C := gC148) (pc1 := 4) (Lo1 := [some (.ref 43), some (.int l1), some (.int l2)]) (st1' := [.int l2]) (w1 := (wv x I J)) hC148 1 rfl ?_
  refine wi_lt (tgt := 36) rfl rfl (fun h => ?_) (fun h => ?_)
  · have k := k.1 h
    exact we_v rfl rfl k
  · have k := k.2 h
    refine wp_seg (C := gC148) (pc1 := 19) (Lo1 := [some (.ref 43), some (.int l1), some (.int l2)]) (st1' := [.int ((l1 >>> (l2 &&& 31)).toInt8.toInt32), .int (I 43 2), .ref 44]) (w1 := (wv x I J)) hC148 8 rfl ?_
    refine ws_b (n := 940) rfl rfl k.1 ?_
    have k := k.2
    refine wp_seg (C := gC148) (pc1 := 3) (Lo1 := [some (.ref 43), some (.int l1), some (.int (l2 + (-8 : Int32)))]) (st1' := []) (w1 := (wv x (mSet (mSet I 44 ((I 43 2).toNatClampNeg) (vp_nar .byte ((l1 >>> (l2 &&& 31)).toInt8.toInt32))) 43 2 ((I 43 2) + (1 : Int32))) J)) hC148 8 rfl ?_
    exact k
set_option maxRecDepth 20000 in
theorem v149_43_0 {S : Nat × (Nat → Int32)} {d : Nat} {x : mX} {I : rI0} {J : rJ0} {p1 : Int32} {Q : Int32 → rI0 → rJ0 → Prop} (k : ((p1 < (0 : Int32) → Q (0 : Int32) (mSet I 43 0 (0 : Int32)) J) ∧ (¬ p1 < (0 : Int32) → (((I 43 2) < p1 → Q (0 : Int32) (mSet I 43 0 (0 : Int32)) J) ∧ (¬ (I 43 2) < p1 → Q (1 : Int32) (mSet (mSet I 43 0 (0 : Int32)) 43 2 p1) J))))) : wp S d 149 0 [some (.ref 43), some (.int p1)] [] (wv x I J) (rI x Q) := by
  refine wp_seg (C := gC149) (pc1 := 6) (Lo1 := [some (.ref 43), some (.int p1)]) (st1' := [.int p1]) (w1 := (wv x (mSet I 43 0 (0 : Int32)) J)) hC149 4 rfl ?_
  refine wi_lt (tgt := 17) rfl rfl (fun h => ?_) (fun h => ?_)
  · have k := k.1 h
    refine wp_seg (C := gC149) (pc1 := 18) (Lo1 := [some (.ref 43), some (.int p1)]) (st1' := [.int (0 : Int32)]) (w1 := (wv x (mSet I 43 0 (0 : Int32)) J)) hC149 1 rfl ?_
    exact we_z rfl rfl (Or.inl rfl) k
  · have k := k.2 h
    refine wp_seg (C := gC149) (pc1 := 14) (Lo1 := [some (.ref 43), some (.int p1)]) (st1' := [.int (I 43 2), .int p1]) (w1 := (wv x (mSet I 43 0 (0 : Int32)) J)) hC149 3 rfl ?_
    refine wj_le (tgt := 19) rfl rfl (fun h => ?_) (fun h => ?_)
    · have k := k.1 h
      refine wp_seg (C := gC149) (pc1 := 18) (Lo1 := [some (.ref 43), some (.int p1)]) (st1' := [.int (0 : Int32)]) (w1 := (wv x (mSet I 43 0 (0 : Int32)) J)) hC149 1 rfl ?_
      exact we_z rfl rfl (Or.inl rfl) k
    · have k := k.2 h
      refine wp_seg (C := gC149) (pc1 := 25) (Lo1 := [some (.ref 43), some (.int p1)]) (st1' := [.int (1 : Int32)]) (w1 := (wv x (mSet (mSet I 43 0 (0 : Int32)) 43 2 p1) J)) hC149 4 rfl ?_
      exact we_z rfl rfl (Or.inr rfl) k
set_option maxRecDepth 20000 in
theorem v150_43_0 {S : Nat × (Nat → Int32)} {d : Nat} {x : mX} {I : rI0} {J : rJ0} {p1 : Int32} {Q : rI0 → rJ0 → Prop} (k : Q (mSet (mSet (mSet (mSet I 43 3 (I 43 2)) 43 2 (0 : Int32)) 43 4 (0 : Int32)) 43 5 p1) J) : wp S d 150 0 [some (.ref 43), some (.int p1)] [] (wv x I J) (rV x Q) := by
  refine wp_seg (C := gC150) (pc1 := 20) (Lo1 := [some (.ref 43), some (.int p1)]) (st1' := [.int p1, .ref 43]) (w1 := (wv x (mSet (mSet (mSet I 43 3 (I 43 2)) 43 2 (0 : Int32)) 43 4 (0 : Int32)) J)) hC150 12 rfl ?_
  refine wp_seg (C := gC150) (pc1 := 23) (Lo1 := [some (.ref 43), some (.int p1)]) (st1' := []) (w1 := (wv x (mSet (mSet (mSet (mSet I 43 3 (I 43 2)) 43 2 (0 : Int32)) 43 4 (0 : Int32)) 43 5 p1) J)) hC150 1 rfl ?_
  exact we_v rfl rfl k
set_option maxRecDepth 20000 in
theorem v155_43_0 {S : Nat × (Nat → Int32)} {d : Nat} {x : mX} {I : rI0} {J : rJ0} {p1 : Int32} {Q : Int32 → rI0 → rJ0 → Prop} (k : (¬ mOut p1 940 ∧ Q ((I 44 p1.toNatClampNeg) &&& (255 : Int32)) I J)) : wp S d 155 0 [some (.ref 43), some (.int p1)] [] (wv x I J) (rI x Q) := by
  refine wp_seg (C := gC155) (pc1 := 5) (Lo1 := [some (.ref 43), some (.int p1)]) (st1' := [.int p1, .ref 44]) (w1 := (wv x I J)) hC155 3 rfl ?_
  refine wa_b (n := 940) rfl (Or.inl rfl) k.1 ?_
  have k := k.2
  refine wp_seg (C := gC155) (pc1 := 10) (Lo1 := [some (.ref 43), some (.int p1)]) (st1' := [.int ((I 44 p1.toNatClampNeg) &&& (255 : Int32))]) (w1 := (wv x I J)) hC155 2 rfl ?_
  exact we_i rfl rfl k
set_option maxRecDepth 20000 in
theorem v157_43_0 {S : Nat × (Nat → Int32)} {d : Nat} {x : mX} {I : rI0} {J : rJ0} {Q : rI0 → rJ0 → Prop} (k : wp S d 157 2 [some (.ref 43), some (.int (0 : Int32))] [] (wv x I J) (rV x Q)) : wp S d 157 0 [some (.ref 43), none] [] (wv x I J) (rV x Q) := by
  refine wp_seg (C := gC157) (pc1 := 2) (Lo1 := [some (.ref 43), some (.int (0 : Int32))]) (st1' := []) (w1 := (wv x I J)) hC157 2 rfl ?_
  exact k
set_option maxRecDepth 20000 in
theorem v157_43_2 {S : Nat × (Nat → Int32)} {d : Nat} {x : mX} {I : rI0} {J : rJ0} {l1 : Int32} {Q : rI0 → rJ0 → Prop} (k : ((l1 < (590 : Int32) → (¬ mOut l1 590 ∧ wp S d 157 2 [some (.ref 43), some (.int (l1 + (1 : Int32)))] [] (wv x (mSet I 46 l1.toNatClampNeg (0 : Int32)) J) (rV x Q))) ∧ (¬ l1 < (590 : Int32) → wp S d 157 24 [some (.ref 43), some (.int (0 : Int32))] [] (wv x I J) (rV x Q)))) : wp S d 157 2 [some (.ref 43), some (.int l1)] [] (wv x I J) (rV x Q) := by
  refine wp_seg (C := gC157) (pc1 := 6) (Lo1 := [some (.ref 43), some (.int l1)]) (st1' := [.int (590 : Int32), .int l1]) (w1 := (wv x I J)) hC157 2 rfl ?_
  refine wj_ge (tgt := 22) rfl rfl (fun h => ?_) (fun h => ?_)
  · have k := k.1 h
    refine wp_seg (C := gC157) (pc1 := 15) (Lo1 := [some (.ref 43), some (.int l1)]) (st1' := [.int (0 : Int32), .int l1, .ref 46]) (w1 := (wv x I J)) hC157 4 rfl ?_
    refine ws_i (n := 590) rfl rfl k.1 ?_
    have k := k.2
    refine wp_seg (C := gC157) (pc1 := 2) (Lo1 := [some (.ref 43), some (.int (l1 + (1 : Int32)))]) (st1' := []) (w1 := (wv x (mSet I 46 l1.toNatClampNeg (0 : Int32)) J)) hC157 2 rfl ?_
    exact k
  · have k := k.2 h
    refine wp_seg (C := gC157) (pc1 := 24) (Lo1 := [some (.ref 43), some (.int (0 : Int32))]) (st1' := []) (w1 := (wv x I J)) hC157 2 rfl ?_
    exact k
set_option maxRecDepth 20000 in
theorem v157_43_24 {S : Nat × (Nat → Int32)} {d : Nat} {x : mX} {I : rI0} {J : rJ0} {l1 : Int32} {Q : rI0 → rJ0 → Prop} (k : ((l1 < (8 : Int32) → (¬ mOut ((70 : Int32) + l1) 590 ∧ wp S d 157 24 [some (.ref 43), some (.int (l1 + (1 : Int32)))] [] (wv x (mSet I 46 (((70 : Int32) + l1).toNatClampNeg) (10 : Int32)) J) (rV x Q))) ∧ (¬ l1 < (8 : Int32) → (¬ mOut (3 : Int32) 590 ∧ (¬ mOut (4 : Int32) 590 ∧ Q (mSet (mSet I 46 ((3 : Int32).toNatClampNeg) (1 : Int32)) 46 ((4 : Int32).toNatClampNeg) (600 : Int32)) J))))) : wp S d 157 24 [some (.ref 43), some (.int l1)] [] (wv x I J) (rV x Q) := by
  refine wp_seg (C := gC157) (pc1 := 27) (Lo1 := [some (.ref 43), some (.int l1)]) (st1' := [.int (8 : Int32), .int l1]) (w1 := (wv x I J)) hC157 2 rfl ?_
  refine wj_ge (tgt := 47) rfl rfl (fun h => ?_) (fun h => ?_)
  · have k := k.1 h
    refine wp_seg (C := gC157) (pc1 := 40) (Lo1 := [some (.ref 43), some (.int l1)]) (st1' := [.int (10 : Int32), .int ((70 : Int32) + l1), .ref 46]) (w1 := (wv x I J)) hC157 6 rfl ?_
    refine ws_i (n := 590) rfl rfl k.1 ?_
    have k := k.2
    refine wp_seg (C := gC157) (pc1 := 24) (Lo1 := [some (.ref 43), some (.int (l1 + (1 : Int32)))]) (st1' := []) (w1 := (wv x (mSet I 46 (((70 : Int32) + l1).toNatClampNeg) (10 : Int32)) J)) hC157 2 rfl ?_
    exact k
  · have k := k.2 h
    refine wp_seg (C := gC157) (pc1 := 53) (Lo1 := [some (.ref 43), some (.int l1)]) (st1' := [.int (1 : Int32), .int (3 : Int32), .ref 46]) (w1 := (wv x I J)) hC157 4 rfl ?_
    refine ws_i (n := 590) rfl rfl k.1 ?_
    have k := k.2
    refine wp_seg (C := gC157) (pc1 := 62) (Lo1 := [some (.ref 43), some (.int l1)]) (st1' := [.int (600 : Int32), .int (4 : Int32), .ref 46]) (w1 := (wv x (mSet I 46 ((3 : Int32).toNatClampNeg) (1 : Int32)) J)) hC157 4 rfl ?_
    refine ws_i (n := 590) rfl rfl k.1 ?_
    have k := k.2
    exact we_v rfl rfl k
set_option maxRecDepth 20000 in
theorem v158_43_0 {S : Nat × (Nat → Int32)} {d : Nat} {x : mX} {I : rI0} {J : rJ0} {Q : Int32 → rI0 → rJ0 → Prop} (k : (((I 43 4) < (I 43 3) → (¬ mOut (I 43 4) 940 ∧ Q ((I 44 ((I 43 4).toNatClampNeg)) &&& (255 : Int32)) I J)) ∧ (¬ (I 43 4) < (I 43 3) → Q (-1 : Int32) I J))) : wp S d 158 0 [some (.ref 43)] [] (wv x I J) (rI x Q) := by
  refine wp_seg (C := gC158) (pc1 := 8) (Lo1 := [some (.ref 43)]) (st1' := [.int (I 43 3), .int (I 43 4)]) (w1 := (wv x I J)) hC158 4 rfl ?_
  refine wj_ge (tgt := 27) rfl rfl (fun h => ?_) (fun h => ?_)
  · have k := k.1 h
    refine wp_seg (C := gC158) (pc1 := 19) (Lo1 := [some (.ref 43)]) (st1' := [.int (I 43 4), .ref 44]) (w1 := (wv x I J)) hC158 4 rfl ?_
    refine wa_b (n := 940) rfl (Or.inl rfl) k.1 ?_
    have k := k.2
    refine wp_seg (C := gC158) (pc1 := 28) (Lo1 := [some (.ref 43)]) (st1' := [.int ((I 44 ((I 43 4).toNatClampNeg)) &&& (255 : Int32))]) (w1 := (wv x I J)) hC158 3 rfl ?_
    exact we_i rfl rfl k
  · have k := k.2 h
    refine wp_seg (C := gC158) (pc1 := 28) (Lo1 := [some (.ref 43)]) (st1' := [.int (-1 : Int32)]) (w1 := (wv x I J)) hC158 1 rfl ?_
    exact we_i rfl rfl k
set_option maxRecDepth 20000 in
theorem v161_43_0 {S : Nat × (Nat → Int32)} {d : Nat} {x : mX} {I : rI0} {J : rJ0} {Q : rI0 → rJ0 → Prop} (k : (wcI S d 158 [.ref 43] x I J (fun r1 I1 J1 => ((r1 = (32 : Int32) → wp S (d + 1) 161 0 [some (.ref 43), none, none, none] [] (wv x (mSet I1 43 4 ((I1 43 4) + (1 : Int32))) J1) (rV x Q)) ∧ (¬ r1 = (32 : Int32) → (wcI S d 158 [.ref 43] x I1 J1 (fun r2 I2 J2 => ((r2 = (10 : Int32) → wp S (d + 1) 161 0 [some (.ref 43), none, none, none] [] (wv x (mSet I2 43 4 ((I2 43 4) + (1 : Int32))) J2) (rV x Q)) ∧ (¬ r2 = (10 : Int32) → (((I2 43 5) < (I2 43 3) → (((I2 43 4) < (I2 43 5) → wp S (d + 1) 161 80 [some (.ref 43), none, none, none] [] (wv x (mSet (mSet I2 43 10 (I2 43 4)) 43 11 (0 : Int32)) J2) (rV x Q)) ∧ (¬ (I2 43 4) < (I2 43 5) → Q (mSet (mSet (mSet (mSet I2 43 10 (I2 43 4)) 43 11 (0 : Int32)) 43 10 (I2 43 5)) 43 9 (4 : Int32)) J2))) ∧ (¬ (I2 43 5) < (I2 43 3) → wp S (d + 1) 161 80 [some (.ref 43), none, none, none] [] (wv x (mSet (mSet I2 43 10 (I2 43 4)) 43 11 (0 : Int32)) J2) (rV x Q)))))))))))) : wp S (d + 1) 161 0 [some (.ref 43), none, none, none] [] (wv x I J) (rV x Q) := by
  refine wp_seg (C := gC161) (pc1 := 1) (Lo1 := [some (.ref 43), none, none, none]) (st1' := [.ref 43]) (w1 := (wv x I J)) hC161 1 rfl ?_
  refine cv_I (mj := 158) (a := 43) (as := []) (r := []) rfl rfl rfl ⟨rfl, by decide, Nat.le_of_ble_eq_true rfl, Nat.le_of_ble_eq_true rfl⟩ rfl (wcI_mono k (fun r1 I1 J1 k => ?_))
  refine wp_seg (C := gC161) (pc1 := 6) (Lo1 := [some (.ref 43), none, none, none]) (st1' := [.int (32 : Int32), .int r1]) (w1 := (wv x I1 J1)) hC161 1 rfl ?_
  refine wj_eq (tgt := 18) rfl rfl (fun h => ?_) (fun h => ?_)
  · have k := k.1 h
    refine wp_seg (C := gC161) (pc1 := 0) (Lo1 := [some (.ref 43), none, none, none]) (st1' := []) (w1 := (wv x (mSet I1 43 4 ((I1 43 4) + (1 : Int32))) J1)) hC161 7 rfl ?_
    exact k
  · have k := k.2 h
    refine wp_seg (C := gC161) (pc1 := 10) (Lo1 := [some (.ref 43), none, none, none]) (st1' := [.ref 43]) (w1 := (wv x I1 J1)) hC161 1 rfl ?_
    refine cv_I (mj := 158) (a := 43) (as := []) (r := []) rfl rfl rfl ⟨rfl, by decide, Nat.le_of_ble_eq_true rfl, Nat.le_of_ble_eq_true rfl⟩ rfl (wcI_mono k (fun r2 I2 J2 k => ?_))
    refine wp_seg (C := gC161) (pc1 := 15) (Lo1 := [some (.ref 43), none, none, none]) (st1' := [.int (10 : Int32), .int r2]) (w1 := (wv x I2 J2)) hC161 1 rfl ?_
    refine wj_ne (tgt := 31) rfl rfl (fun h => ?_) (fun h => ?_)
    · have k := k.1 h
      refine wp_seg (C := gC161) (pc1 := 0) (Lo1 := [some (.ref 43), none, none, none]) (st1' := []) (w1 := (wv x (mSet I2 43 4 ((I2 43 4) + (1 : Int32))) J2)) hC161 7 rfl ?_
      exact k
    · have k := k.2 h
      refine wp_seg (C := gC161) (pc1 := 52) (Lo1 := [some (.ref 43), none, none, none]) (st1' := [.int (I2 43 5), .int (I2 43 3)]) (w1 := (wv x (mSet (mSet I2 43 10 (I2 43 4)) 43 11 (0 : Int32)) J2)) hC161 11 rfl ?_
      refine wj_le (tgt := 80) rfl rfl (fun h => ?_) (fun h => ?_)
      · have k := k.1 h
        refine wp_seg (C := gC161) (pc1 := 63) (Lo1 := [some (.ref 43), none, none, none]) (st1' := [.int (I2 43 5), .int (I2 43 4)]) (w1 := (wv x (mSet (mSet I2 43 10 (I2 43 4)) 43 11 (0 : Int32)) J2)) hC161 4 rfl ?_
        refine wj_lt (tgt := 80) rfl rfl (fun h => ?_) (fun h => ?_)
        · have k := k.1 h
          exact k
        · have k := k.2 h
          refine wp_seg (C := gC161) (pc1 := 79) (Lo1 := [some (.ref 43), none, none, none]) (st1' := []) (w1 := (wv x (mSet (mSet (mSet (mSet I2 43 10 (I2 43 4)) 43 11 (0 : Int32)) 43 10 (I2 43 5)) 43 9 (4 : Int32)) J2)) hC161 7 rfl ?_
          exact we_v rfl rfl k
      · have k := k.2 h
        exact k
set_option maxRecDepth 20000 in
theorem v161_43_80 {S : Nat × (Nat → Int32)} {d : Nat} {x : mX} {I : rI0} {J : rJ0} {Q : rI0 → rJ0 → Prop} (k : (wcI S d 158 [.ref 43] x I J (fun r1 I1 J1 => ((r1 < (0 : Int32) → Q (mSet I1 43 9 (0 : Int32)) J1) ∧ (¬ r1 < (0 : Int32) → (wcI S d 159 [.int r1] x I1 J1 (fun r2 I2 J2 => ((r2 = (0 : Int32) → (wcI S d 160 [.int r1] x I2 J2 (fun r3 I3 J3 => ((r3 = (0 : Int32) → ((r1 = (59 : Int32) → Q (mSet (mSet (mSet I3 43 9 (3 : Int32)) 43 12 r1) 43 4 ((I3 43 4) + (1 : Int32))) J3) ∧ (¬ r1 = (59 : Int32) → ((r1 = (40 : Int32) → Q (mSet (mSet (mSet I3 43 9 (3 : Int32)) 43 12 r1) 43 4 ((I3 43 4) + (1 : Int32))) J3) ∧ (¬ r1 = (40 : Int32) → ((r1 = (41 : Int32) → Q (mSet (mSet (mSet I3 43 9 (3 : Int32)) 43 12 r1) 43 4 ((I3 43 4) + (1 : Int32))) J3) ∧ (¬ r1 = (41 : Int32) → ((r1 < (60 : Int32) → Q (mSet (mSet (mSet I3 43 9 (4 : Int32)) 43 12 r1) 43 4 ((I3 43 4) + (1 : Int32))) J3) ∧ (¬ r1 < (60 : Int32) → (((62 : Int32) < r1 → Q (mSet (mSet (mSet I3 43 9 (4 : Int32)) 43 12 r1) 43 4 ((I3 43 4) + (1 : Int32))) J3) ∧ (¬ (62 : Int32) < r1 → Q (mSet (mSet (mSet I3 43 9 (3 : Int32)) 43 12 r1) 43 4 ((I3 43 4) + (1 : Int32))) J3))))))))))) ∧ (¬ r3 = (0 : Int32) → (wcI S d 159 [.int r1] x I3 J3 (fun r4 I4 J4 => wp S (d + 1) 161 181 [some (.ref 43), some (.int r1), some (.int r4), some (.int (1 : Int32))] [] (wv x (mSet I4 43 12 (0 : Int32)) (mSet J4 43 15 (0 : Int64))) (rV x Q)))))))) ∧ (¬ r2 = (0 : Int32) → (wcI S d 159 [.int r1] x I2 J2 (fun r5 I5 J5 => wp S (d + 1) 161 181 [some (.ref 43), some (.int r1), some (.int r5), some (.int (1 : Int32))] [] (wv x (mSet I5 43 12 (0 : Int32)) (mSet J5 43 15 (0 : Int64))) (rV x Q)))))))))))) : wp S (d + 1) 161 80 [some (.ref 43), none, none, none] [] (wv x I J) (rV x Q) := by
  refine wp_seg (C := gC161) (pc1 := 81) (Lo1 := [some (.ref 43), none, none, none]) (st1' := [.ref 43]) (w1 := (wv x I J)) hC161 1 rfl ?_
  refine cv_I (mj := 158) (a := 43) (as := []) (r := []) rfl rfl rfl ⟨rfl, by decide, Nat.le_of_ble_eq_true rfl, Nat.le_of_ble_eq_true rfl⟩ rfl (wcI_mono k (fun r1 I1 J1 k => ?_))
  refine wp_seg (C := gC161) (pc1 := 86) (Lo1 := [some (.ref 43), some (.int r1), none, none]) (st1' := [.int r1]) (w1 := (wv x I1 J1)) hC161 2 rfl ?_
  refine wi_ge (tgt := 95) rfl rfl (fun h => ?_) (fun h => ?_)
  · have k := k.1 h
    refine wp_seg (C := gC161) (pc1 := 94) (Lo1 := [some (.ref 43), some (.int r1), none, none]) (st1' := []) (w1 := (wv x (mSet I1 43 9 (0 : Int32)) J1)) hC161 3 rfl ?_
    exact we_v rfl rfl k
  · have k := k.2 h
    refine wp_seg (C := gC161) (pc1 := 96) (Lo1 := [some (.ref 43), some (.int r1), none, none]) (st1' := [.int r1]) (w1 := (wv x I1 J1)) hC161 1 rfl ?_
    refine cs_I (mj := 159) (nn := 0) (as := [.int r1]) (r := []) rfl rfl rfl ⟨rfl, by decide, Nat.le_of_ble_eq_true rfl, Nat.le_of_ble_eq_true rfl⟩ (by decide) (wcI_mono k (fun r2 I2 J2 k => ?_))
    refine wi_ne (tgt := 164) rfl rfl (fun h => ?_) (fun h => ?_)
    · have k := k.1 h
      refine wp_seg (C := gC161) (pc1 := 103) (Lo1 := [some (.ref 43), some (.int r1), none, none]) (st1' := [.int r1]) (w1 := (wv x I2 J2)) hC161 1 rfl ?_
      refine cs_I (mj := 160) (nn := 0) (as := [.int r1]) (r := []) rfl rfl rfl ⟨rfl, by decide, Nat.le_of_ble_eq_true rfl, Nat.le_of_ble_eq_true rfl⟩ (by decide) (wcI_mono k (fun r3 I3 J3 k => ?_))
      refine wi_ne (tgt := 164) rfl rfl (fun h => ?_) (fun h => ?_)
      · have k := k.1 h
        refine wp_seg (C := gC161) (pc1 := 113) (Lo1 := [some (.ref 43), some (.int r1), none, none]) (st1' := [.int (59 : Int32), .int r1, .ref 43]) (w1 := (wv x I3 J3)) hC161 3 rfl ?_
        refine wj_eq (tgt := 140) rfl rfl (fun h => ?_) (fun h => ?_)
        · have k := k.1 h
          refine wp_seg (C := gC161) (pc1 := 163) (Lo1 := [some (.ref 43), some (.int r1), none, none]) (st1' := []) (w1 := (wv x (mSet (mSet (mSet I3 43 9 (3 : Int32)) 43 12 r1) 43 4 ((I3 43 4) + (1 : Int32))) J3)) hC161 12 rfl ?_
          exact we_v rfl rfl k
        · have k := k.2 h
          refine wp_seg (C := gC161) (pc1 := 119) (Lo1 := [some (.ref 43), some (.int r1), none, none]) (st1' := [.int (40 : Int32), .int r1, .ref 43]) (w1 := (wv x I3 J3)) hC161 2 rfl ?_
          refine wj_eq (tgt := 140) rfl rfl (fun h => ?_) (fun h => ?_)
          · have k := k.1 h
            refine wp_seg (C := gC161) (pc1 := 163) (Lo1 := [some (.ref 43), some (.int r1), none, none]) (st1' := []) (w1 := (wv x (mSet (mSet (mSet I3 43 9 (3 : Int32)) 43 12 r1) 43 4 ((I3 43 4) + (1 : Int32))) J3)) hC161 12 rfl ?_
            exact we_v rfl rfl k
          · have k := k.2 h
            refine wp_seg (C := gC161) (pc1 := 125) (Lo1 := [some (.ref 43), some (.int r1), none, none]) (st1' := [.int (41 : Int32), .int r1, .ref 43]) (w1 := (wv x I3 J3)) hC161 2 rfl ?_
            refine wj_eq (tgt := 140) rfl rfl (fun h => ?_) (fun h => ?_)
            · have k := k.1 h
              refine wp_seg (C := gC161) (pc1 := 163) (Lo1 := [some (.ref 43), some (.int r1), none, none]) (st1' := []) (w1 := (wv x (mSet (mSet (mSet I3 43 9 (3 : Int32)) 43 12 r1) 43 4 ((I3 43 4) + (1 : Int32))) J3)) hC161 12 rfl ?_
              exact we_v rfl rfl k
            · have k := k.2 h
              refine wp_seg (C := gC161) (pc1 := 131) (Lo1 := [some (.ref 43), some (.int r1), none, none]) (st1' := [.int (60 : Int32), .int r1, .ref 43]) (w1 := (wv x I3 J3)) hC161 2 rfl ?_
              refine wj_lt (tgt := 144) rfl rfl (fun h => ?_) (fun h => ?_)
              · have k := k.1 h
                refine wp_seg (C := gC161) (pc1 := 163) (Lo1 := [some (.ref 43), some (.int r1), none, none]) (st1' := []) (w1 := (wv x (mSet (mSet (mSet I3 43 9 (4 : Int32)) 43 12 r1) 43 4 ((I3 43 4) + (1 : Int32))) J3)) hC161 11 rfl ?_
                exact we_v rfl rfl k
              · have k := k.2 h
                refine wp_seg (C := gC161) (pc1 := 137) (Lo1 := [some (.ref 43), some (.int r1), none, none]) (st1' := [.int (62 : Int32), .int r1, .ref 43]) (w1 := (wv x I3 J3)) hC161 2 rfl ?_
                refine wj_gt (tgt := 144) rfl rfl (fun h => ?_) (fun h => ?_)
                · have k := k.1 h
                  refine wp_seg (C := gC161) (pc1 := 163) (Lo1 := [some (.ref 43), some (.int r1), none, none]) (st1' := []) (w1 := (wv x (mSet (mSet (mSet I3 43 9 (4 : Int32)) 43 12 r1) 43 4 ((I3 43 4) + (1 : Int32))) J3)) hC161 11 rfl ?_
                  exact we_v rfl rfl k
                · have k := k.2 h
                  refine wp_seg (C := gC161) (pc1 := 163) (Lo1 := [some (.ref 43), some (.int r1), none, none]) (st1' := []) (w1 := (wv x (mSet (mSet (mSet I3 43 9 (3 : Int32)) 43 12 r1) 43 4 ((I3 43 4) + (1 : Int32))) J3)) hC161 12 rfl ?_
                  exact we_v rfl rfl k
      · have k := k.2 h
        refine wp_seg (C := gC161) (pc1 := 165) (Lo1 := [some (.ref 43), some (.int r1), none, none]) (st1' := [.int r1]) (w1 := (wv x I3 J3)) hC161 1 rfl ?_
        refine cs_I (mj := 159) (nn := 0) (as := [.int r1]) (r := []) rfl rfl rfl ⟨rfl, by decide, Nat.le_of_ble_eq_true rfl, Nat.le_of_ble_eq_true rfl⟩ (by decide) (wcI_mono k (fun r4 I4 J4 k => ?_))
        refine wp_seg (C := gC161) (pc1 := 171) (Lo1 := [some (.ref 43), some (.int r1), some (.int r4), some (.int (1 : Int32))]) (st1' := []) (w1 := (wv x I4 J4)) hC161 3 rfl ?_
        refine wp_seg (C := gC161) (pc1 := 181) (Lo1 := [some (.ref 43), some (.int r1), some (.int r4), some (.int (1 : Int32))]) (st1' := []) (w1 := (wv x (mSet I4 43 12 (0 : Int32)) (mSet J4 43 15 (0 : Int64)))) hC161 6 rfl ?_
        exact k
    · have k := k.2 h
      refine wp_seg (C := gC161) (pc1 := 165) (Lo1 := [some (.ref 43), some (.int r1), none, none]) (st1' := [.int r1]) (w1 := (wv x I2 J2)) hC161 1 rfl ?_
      refine cs_I (mj := 159) (nn := 0) (as := [.int r1]) (r := []) rfl rfl rfl ⟨rfl, by decide, Nat.le_of_ble_eq_true rfl, Nat.le_of_ble_eq_true rfl⟩ (by decide) (wcI_mono k (fun r5 I5 J5 k => ?_))
      refine wp_seg (C := gC161) (pc1 := 171) (Lo1 := [some (.ref 43), some (.int r1), some (.int r5), some (.int (1 : Int32))]) (st1' := []) (w1 := (wv x I5 J5)) hC161 3 rfl ?_
      refine wp_seg (C := gC161) (pc1 := 181) (Lo1 := [some (.ref 43), some (.int r1), some (.int r5), some (.int (1 : Int32))]) (st1' := []) (w1 := (wv x (mSet I5 43 12 (0 : Int32)) (mSet J5 43 15 (0 : Int64)))) hC161 6 rfl ?_
      exact k
set_option maxRecDepth 20000 in
theorem v161_43_181 {S : Nat × (Nat → Int32)} {d : Nat} {x : mX} {I : rI0} {J : rJ0} {l1 : Int32} {l2 : Int32} {l3 : Int32} {Q : rI0 → rJ0 → Prop} (k : (wcI S d 158 [.ref 43] x I J (fun r1 I1 J1 => (wcI S d 159 [.int r1] x I1 J1 (fun r2 I2 J2 => ((r2 = (0 : Int32) → (wcI S d 158 [.ref 43] x I2 J2 (fun r3 I3 J3 => (wcI S d 160 [.int r3] x I3 J3 (fun r4 I4 J4 => ((r4 = (0 : Int32) → ((l3 = (0 : Int32) → Q (mSet I4 43 9 (4 : Int32)) J4) ∧ (¬ l3 = (0 : Int32) → ((l2 = (0 : Int32) → (((3 : Int32) < (I4 43 11) → Q (mSet I4 43 9 (4 : Int32)) J4) ∧ (¬ (3 : Int32) < (I4 43 11) → ((l2 = (0 : Int32) → Q (mSet I4 43 9 (2 : Int32)) J4) ∧ (¬ l2 = (0 : Int32) → Q (mSet I4 43 9 (1 : Int32)) J4))))) ∧ (¬ l2 = (0 : Int32) → (((8 : Int32) < (I4 43 11) → Q (mSet I4 43 9 (4 : Int32)) J4) ∧ (¬ (8 : Int32) < (I4 43 11) → ((l2 = (0 : Int32) → Q (mSet I4 43 9 (2 : Int32)) J4) ∧ (¬ l2 = (0 : Int32) → Q (mSet I4 43 9 (1 : Int32)) J4))))))))) ∧ (¬ r4 = (0 : Int32) → ((l3 = (0 : Int32) → wp S (d + 1) 161 221 [some (.ref 43), some (.int l1), some (.int l2), some (.int l3)] [.int (0 : Int32)] (wv x I4 J4) (rV x Q)) ∧ (¬ l3 = (0 : Int32) → (wcI S d 158 [.ref 43] x I4 J4 (fun r5 I5 J5 => (wcI S d 159 [.int r5] x I5 J5 (fun r6 I6 J6 => ((r6 = l2 → wp S (d + 1) 161 221 [some (.ref 43), some (.int l1), some (.int l2), some (.int l3)] [.int (1 : Int32)] (wv x I6 J6) (rV x Q)) ∧ (¬ r6 = l2 → wp S (d + 1) 161 221 [some (.ref 43), some (.int l1), some (.int l2), some (.int l3)] [.int (0 : Int32)] (wv x I6 J6) (rV x Q)))))))))))))))) ∧ (¬ r2 = (0 : Int32) → ((l3 = (0 : Int32) → wp S (d + 1) 161 221 [some (.ref 43), some (.int l1), some (.int l2), some (.int l3)] [.int (0 : Int32)] (wv x I2 J2) (rV x Q)) ∧ (¬ l3 = (0 : Int32) → (wcI S d 158 [.ref 43] x I2 J2 (fun r7 I7 J7 => (wcI S d 159 [.int r7] x I7 J7 (fun r8 I8 J8 => ((r8 = l2 → wp S (d + 1) 161 221 [some (.ref 43), some (.int l1), some (.int l2), some (.int l3)] [.int (1 : Int32)] (wv x I8 J8) (rV x Q)) ∧ (¬ r8 = l2 → wp S (d + 1) 161 221 [some (.ref 43), some (.int l1), some (.int l2), some (.int l3)] [.int (0 : Int32)] (wv x I8 J8) (rV x Q)))))))))))))))) : wp S (d + 1) 161 181 [some (.ref 43), some (.int l1), some (.int l2), some (.int l3)] [] (wv x I J) (rV x Q) := by
  refine wp_seg (C := gC161) (pc1 := 182) (Lo1 := [some (.ref 43), some (.int l1), some (.int l2), some (.int l3)]) (st1' := [.ref 43]) (w1 := (wv x I J)) hC161 1 rfl ?_
  refine cv_I (mj := 158) (a := 43) (as := []) (r := []) rfl rfl rfl ⟨rfl, by decide, Nat.le_of_ble_eq_true rfl, Nat.le_of_ble_eq_true rfl⟩ rfl (wcI_mono k (fun r1 I1 J1 k => ?_))
  refine cs_I (mj := 159) (nn := 0) (as := [.int r1]) (r := []) rfl rfl rfl ⟨rfl, by decide, Nat.le_of_ble_eq_true rfl, Nat.le_of_ble_eq_true rfl⟩ (by decide) (wcI_mono k (fun r2 I2 J2 k => ?_))
  refine wi_ne (tgt := 201) rfl rfl (fun h => ?_) (fun h => ?_)
  · have k := k.1 h
    refine wp_seg (C := gC161) (pc1 := 192) (Lo1 := [some (.ref 43), some (.int l1), some (.int l2), some (.int l3)]) (st1' := [.ref 43]) (w1 := (wv x I2 J2)) hC161 1 rfl ?_
    refine cv_I (mj := 158) (a := 43) (as := []) (r := []) rfl rfl rfl ⟨rfl, by decide, Nat.le_of_ble_eq_true rfl, Nat.le_of_ble_eq_true rfl⟩ rfl (wcI_mono k (fun r3 I3 J3 k => ?_))
    refine cs_I (mj := 160) (nn := 0) (as := [.int r3]) (r := []) rfl rfl rfl ⟨rfl, by decide, Nat.le_of_ble_eq_true rfl, Nat.le_of_ble_eq_true rfl⟩ (by decide) (wcI_mono k (fun r4 I4 J4 k => ?_))
    refine wi_eq (tgt := 298) rfl rfl (fun h => ?_) (fun h => ?_)
    · have k := k.1 h
      refine wp_seg (C := gC161) (pc1 := 300) (Lo1 := [some (.ref 43), some (.int l1), some (.int l2), some (.int l3)]) (st1' := [.int l3, .ref 43]) (w1 := (wv x I4 J4)) hC161 2 rfl ?_
      refine wi_eq (tgt := 320) rfl rfl (fun h => ?_) (fun h => ?_)
      · have k := k.1 h
        refine wp_seg (C := gC161) (pc1 := 336) (Lo1 := [some (.ref 43), some (.int l1), some (.int l2), some (.int l3)]) (st1' := []) (w1 := (wv x (mSet I4 43 9 (4 : Int32)) J4)) hC161 3 rfl ?_
        exact we_v rfl rfl k
      · have k := k.2 h
        refine wp_seg (C := gC161) (pc1 := 308) (Lo1 := [some (.ref 43), some (.int l1), some (.int l2), some (.int l3)]) (st1' := [.int l2, .int (I4 43 11), .ref 43]) (w1 := (wv x I4 J4)) hC161 3 rfl ?_
        refine wi_eq (tgt := 316) rfl rfl (fun h => ?_) (fun h => ?_)
        · have k := k.1 h
          refine wp_seg (C := gC161) (pc1 := 317) (Lo1 := [some (.ref 43), some (.int l1), some (.int l2), some (.int l3)]) (st1' := [.int (3 : Int32), .int (I4 43 11), .ref 43]) (w1 := (wv x I4 J4)) hC161 1 rfl ?_
          refine wj_le (tgt := 324) rfl rfl (fun h => ?_) (fun h => ?_)
          · have k := k.1 h
            refine wp_seg (C := gC161) (pc1 := 336) (Lo1 := [some (.ref 43), some (.int l1), some (.int l2), some (.int l3)]) (st1' := []) (w1 := (wv x (mSet I4 43 9 (4 : Int32)) J4)) hC161 3 rfl ?_
            exact we_v rfl rfl k
          · have k := k.2 h
            refine wp_seg (C := gC161) (pc1 := 325) (Lo1 := [some (.ref 43), some (.int l1), some (.int l2), some (.int l3)]) (st1' := [.int l2, .ref 43]) (w1 := (wv x I4 J4)) hC161 1 rfl ?_
            refine wi_eq (tgt := 332) rfl rfl (fun h => ?_) (fun h => ?_)
            · have k := k.1 h
              refine wp_seg (C := gC161) (pc1 := 336) (Lo1 := [some (.ref 43), some (.int l1), some (.int l2), some (.int l3)]) (st1' := []) (w1 := (wv x (mSet I4 43 9 (2 : Int32)) J4)) hC161 2 rfl ?_
              exact we_v rfl rfl k
            · have k := k.2 h
              refine wp_seg (C := gC161) (pc1 := 336) (Lo1 := [some (.ref 43), some (.int l1), some (.int l2), some (.int l3)]) (st1' := []) (w1 := (wv x (mSet I4 43 9 (1 : Int32)) J4)) hC161 3 rfl ?_
              exact we_v rfl rfl k
        · have k := k.2 h
          refine wp_seg (C := gC161) (pc1 := 317) (Lo1 := [some (.ref 43), some (.int l1), some (.int l2), some (.int l3)]) (st1' := [.int (8 : Int32), .int (I4 43 11), .ref 43]) (w1 := (wv x I4 J4)) hC161 2 rfl ?_
          refine wj_le (tgt := 324) rfl rfl (fun h => ?_) (fun h => ?_)
          · have k := k.1 h
            refine wp_seg (C := gC161) (pc1 := 336) (Lo1 := [some (.ref 43), some (.int l1), some (.int l2), some (.int l3)]) (st1' := []) (w1 := (wv x (mSet I4 43 9 (4 : Int32)) J4)) hC161 3 rfl ?_
            exact we_v rfl rfl k
          · have k := k.2 h
            refine wp_seg (C := gC161) (pc1 := 325) (Lo1 := [some (.ref 43), some (.int l1), some (.int l2), some (.int l3)]) (st1' := [.int l2, .ref 43]) (w1 := (wv x I4 J4)) hC161 1 rfl ?_
            refine wi_eq (tgt := 332) rfl rfl (fun h => ?_) (fun h => ?_)
            · have k := k.1 h
              refine wp_seg (C := gC161) (pc1 := 336) (Lo1 := [some (.ref 43), some (.int l1), some (.int l2), some (.int l3)]) (st1' := []) (w1 := (wv x (mSet I4 43 9 (2 : Int32)) J4)) hC161 2 rfl ?_
              exact we_v rfl rfl k
            · have k := k.2 h
              refine wp_seg (C := gC161) (pc1 := 336) (Lo1 := [some (.ref 43), some (.int l1), some (.int l2), some (.int l3)]) (st1' := []) (w1 := (wv x (mSet I4 43 9 (1 : Int32)) J4)) hC161 3 rfl ?_
              exact we_v rfl rfl k
    · have k := k.2 h
      refine wp_seg (C := gC161) (pc1 := 202) (Lo1 := [some (.ref 43), some (.int l1), some (.int l2), some (.int l3)]) (st1' := [.int l3]) (w1 := (wv x I4 J4)) hC161 1 rfl ?_
      refine wi_eq (tgt := 220) rfl rfl (fun h => ?_) (fun h => ?_)
      · have k := k.1 h
        refine wp_seg (C := gC161) (pc1 := 221) (Lo1 := [some (.ref 43), some (.int l1), some (.int l2), some (.int l3)]) (st1' := [.int (0 : Int32)]) (w1 := (wv x I4 J4)) hC161 1 rfl ?_
        exact k
      · have k := k.2 h
        refine wp_seg (C := gC161) (pc1 := 206) (Lo1 := [some (.ref 43), some (.int l1), some (.int l2), some (.int l3)]) (st1' := [.ref 43]) (w1 := (wv x I4 J4)) hC161 1 rfl ?_
        refine cv_I (mj := 158) (a := 43) (as := []) (r := []) rfl rfl rfl ⟨rfl, by decide, Nat.le_of_ble_eq_true rfl, Nat.le_of_ble_eq_true rfl⟩ rfl (wcI_mono k (fun r5 I5 J5 k => ?_))
        refine cs_I (mj := 159) (nn := 0) (as := [.int r5]) (r := []) rfl rfl rfl ⟨rfl, by decide, Nat.le_of_ble_eq_true rfl, Nat.le_of_ble_eq_true rfl⟩ (by decide) (wcI_mono k (fun r6 I6 J6 k => ?_))
        refine wp_seg (C := gC161) (pc1 := 213) (Lo1 := [some (.ref 43), some (.int l1), some (.int l2), some (.int l3)]) (st1' := [.int l2, .int r6]) (w1 := (wv x I6 J6)) hC161 1 rfl ?_
        refine wj_ne (tgt := 220) rfl rfl (fun h => ?_) (fun h => ?_)
        · have k := k.1 h
          refine wp_seg (C := gC161) (pc1 := 221) (Lo1 := [some (.ref 43), some (.int l1), some (.int l2), some (.int l3)]) (st1' := [.int (1 : Int32)]) (w1 := (wv x I6 J6)) hC161 2 rfl ?_
          exact k
        · have k := k.2 h
          refine wp_seg (C := gC161) (pc1 := 221) (Lo1 := [some (.ref 43), some (.int l1), some (.int l2), some (.int l3)]) (st1' := [.int (0 : Int32)]) (w1 := (wv x I6 J6)) hC161 1 rfl ?_
          exact k
  · have k := k.2 h
    refine wp_seg (C := gC161) (pc1 := 202) (Lo1 := [some (.ref 43), some (.int l1), some (.int l2), some (.int l3)]) (st1' := [.int l3]) (w1 := (wv x I2 J2)) hC161 1 rfl ?_
    refine wi_eq (tgt := 220) rfl rfl (fun h => ?_) (fun h => ?_)
    · have k := k.1 h
      refine wp_seg (C := gC161) (pc1 := 221) (Lo1 := [some (.ref 43), some (.int l1), some (.int l2), some (.int l3)]) (st1' := [.int (0 : Int32)]) (w1 := (wv x I2 J2)) hC161 1 rfl ?_
      exact k
    · have k := k.2 h
      refine wp_seg (C := gC161) (pc1 := 206) (Lo1 := [some (.ref 43), some (.int l1), some (.int l2), some (.int l3)]) (st1' := [.ref 43]) (w1 := (wv x I2 J2)) hC161 1 rfl ?_
      refine cv_I (mj := 158) (a := 43) (as := []) (r := []) rfl rfl rfl ⟨rfl, by decide, Nat.le_of_ble_eq_true rfl, Nat.le_of_ble_eq_true rfl⟩ rfl (wcI_mono k (fun r7 I7 J7 k => ?_))
      refine cs_I (mj := 159) (nn := 0) (as := [.int r7]) (r := []) rfl rfl rfl ⟨rfl, by decide, Nat.le_of_ble_eq_true rfl, Nat.le_of_ble_eq_true rfl⟩ (by decide) (wcI_mono k (fun r8 I8 J8 k => ?_))
      refine wp_seg (C := gC161) (pc1 := 213) (Lo1 := [some (.ref 43), some (.int l1), some (.int l2), some (.int l3)]) (st1' := [.int l2, .int r8]) (w1 := (wv x I8 J8)) hC161 1 rfl ?_
      refine wj_ne (tgt := 220) rfl rfl (fun h => ?_) (fun h => ?_)
      · have k := k.1 h
        refine wp_seg (C := gC161) (pc1 := 221) (Lo1 := [some (.ref 43), some (.int l1), some (.int l2), some (.int l3)]) (st1' := [.int (1 : Int32)]) (w1 := (wv x I8 J8)) hC161 2 rfl ?_
        exact k
      · have k := k.2 h
        refine wp_seg (C := gC161) (pc1 := 221) (Lo1 := [some (.ref 43), some (.int l1), some (.int l2), some (.int l3)]) (st1' := [.int (0 : Int32)]) (w1 := (wv x I8 J8)) hC161 1 rfl ?_
        exact k
set_option maxRecDepth 20000 in
theorem v161_43_221 {S : Nat × (Nat → Int32)} {d : Nat} {x : mX} {I : rI0} {J : rJ0} {l1 : Int32} {l2 : Int32} {l3 : Int32} {s0 : Int32} {Q : rI0 → rJ0 → Prop} (k : (((I 43 11) < (8 : Int32) → (wcI S d 158 [.ref 43] x I J (fun r1 I1 J1 => wp S (d + 1) 161 248 [some (.ref 43), some (.int l1), some (.int l2), some (.int s0)] [] (wv x I1 (mSet J1 43 15 (((J 43 15) <<< ((8 : Int32).toInt64 &&& 63)) ||| r1.toInt64))) (rV x Q)))) ∧ (¬ (I 43 11) < (8 : Int32) → wp S (d + 1) 161 248 [some (.ref 43), some (.int l1), some (.int l2), some (.int s0)] [] (wv x I J) (rV x Q)))) : wp S (d + 1) 161 221 [some (.ref 43), some (.int l1), some (.int l2), some (.int l3)] [.int s0] (wv x I J) (rV x Q) := by
  refine wp_seg (C := gC161) (pc1 := 228) (Lo1 := [some (.ref 43), some (.int l1), some (.int l2), some (.int s0)]) (st1' := [.int (8 : Int32), .int (I 43 11)]) (w1 := (wv x I J)) hC161 4 rfl ?_
  refine wj_ge (tgt := 248) rfl rfl (fun h => ?_) (fun h => ?_)
  · have k := k.1 h
    refine wp_seg (C := gC161) (pc1 := 240) (Lo1 := [some (.ref 43), some (.int l1), some (.int l2), some (.int s0)]) (st1' := [.ref 43, .long ((J 43 15) <<< ((8 : Int32).toInt64 &&& 63)), .ref 43]) (w1 := (wv x I J)) hC161 6 rfl ?_
    refine cv_I (mj := 158) (a := 43) (as := []) (r := [.long ((J 43 15) <<< ((8 : Int32).toInt64 &&& 63)), .ref 43]) rfl rfl rfl ⟨rfl, by decide, Nat.le_of_ble_eq_true rfl, Nat.le_of_ble_eq_true rfl⟩ rfl (wcI_mono k (fun r1 I1 J1 k => ?_))
    refine wp_seg (C := gC161) (pc1 := 248) (Lo1 := [some (.ref 43), some (.int l1), some (.int l2), some (.int s0)]) (st1' := []) (w1 := (wv x I1 (mSet J1 43 15 (((J 43 15) <<< ((8 : Int32).toInt64 &&& 63)) ||| r1.toInt64)))) hC161 3 rfl ?_
    exact k
  · have k := k.2 h
    exact k
set_option maxRecDepth 20000 in
theorem v161_43_248 {S : Nat × (Nat → Int32)} {d : Nat} {x : mX} {I : rI0} {J : rJ0} {l1 : Int32} {l2 : Int32} {l3 : Int32} {Q : rI0 → rJ0 → Prop} (k : (((I 43 11) < (3 : Int32) → (wcI S d 158 [.ref 43] x I J (fun r1 I1 J1 => wp S (d + 1) 161 181 [some (.ref 43), some (.int l1), some (.int l2), some (.int l3)] [] (wv x (mSet (mSet (mSet I1 43 12 ((((10 : Int32) * (I 43 12)) + r1) - (48 : Int32))) 43 11 ((I1 43 11) + (1 : Int32))) 43 4 ((I1 43 4) + (1 : Int32))) J1) (rV x Q)))) ∧ (¬ (I 43 11) < (3 : Int32) → wp S (d + 1) 161 181 [some (.ref 43), some (.int l1), some (.int l2), some (.int l3)] [] (wv x (mSet (mSet I 43 11 ((I 43 11) + (1 : Int32))) 43 4 ((I 43 4) + (1 : Int32))) J) (rV x Q)))) : wp S (d + 1) 161 248 [some (.ref 43), some (.int l1), some (.int l2), some (.int l3)] [] (wv x I J) (rV x Q) := by
  refine wp_seg (C := gC161) (pc1 := 253) (Lo1 := [some (.ref 43), some (.int l1), some (.int l2), some (.int l3)]) (st1' := [.int (3 : Int32), .int (I 43 11)]) (w1 := (wv x I J)) hC161 3 rfl ?_
  refine wj_ge (tgt := 275) rfl rfl (fun h => ?_) (fun h => ?_)
  · have k := k.1 h
    refine wp_seg (C := gC161) (pc1 := 265) (Lo1 := [some (.ref 43), some (.int l1), some (.int l2), some (.int l3)]) (st1' := [.ref 43, .int ((10 : Int32) * (I 43 12)), .ref 43]) (w1 := (wv x I J)) hC161 6 rfl ?_
    refine cv_I (mj := 158) (a := 43) (as := []) (r := [.int ((10 : Int32) * (I 43 12)), .ref 43]) rfl rfl rfl ⟨rfl, by decide, Nat.le_of_ble_eq_true rfl, Nat.le_of_ble_eq_true rfl⟩ rfl (wcI_mono k (fun r1 I1 J1 k => ?_))
    refine wp_seg (C := gC161) (pc1 := 287) (Lo1 := [some (.ref 43), some (.int l1), some (.int l2), some (.int l3)]) (st1' := [.ref 43, .ref 43]) (w1 := (wv x (mSet (mSet I1 43 12 ((((10 : Int32) * (I 43 12)) + r1) - (48 : Int32))) 43 11 ((I1 43 11) + (1 : Int32))) J1)) hC161 12 rfl ?_
    refine wp_seg (C := gC161) (pc1 := 181) (Lo1 := [some (.ref 43), some (.int l1), some (.int l2), some (.int l3)]) (st1' := []) (w1 := (wv x (mSet (mSet (mSet I1 43 12 ((((10 : Int32) * (I 43 12)) + r1) - (48 : Int32))) 43 11 ((I1 43 11) + (1 : Int32))) 43 4 ((I1 43 4) + (1 : Int32))) J1)) hC161 5 rfl ?_
    exact k
  · have k := k.2 h
    refine wp_seg (C := gC161) (pc1 := 295) (Lo1 := [some (.ref 43), some (.int l1), some (.int l2), some (.int l3)]) (st1' := []) (w1 := (wv x (mSet (mSet I 43 11 ((I 43 11) + (1 : Int32))) 43 4 ((I 43 4) + (1 : Int32))) J)) hC161 12 rfl ?_
    refine wp_seg (C := gC161) (pc1 := 181) (Lo1 := [some (.ref 43), some (.int l1), some (.int l2), some (.int l3)]) (st1' := []) (w1 := (wv x (mSet (mSet I 43 11 ((I 43 11) + (1 : Int32))) 43 4 ((I 43 4) + (1 : Int32))) J)) hC161 1 rfl ?_
    exact k
set_option maxRecDepth 20000 in
theorem v162_43_0 {S : Nat × (Nat → Int32)} {d : Nat} {x : mX} {I : rI0} {J : rJ0} {p1 : Int32} {Q : Int32 → rI0 → rJ0 → Prop} (k : Q (0 : Int32) (mSet (mSet I 43 13 p1) 43 14 (I 43 10)) J) : wp S d 162 0 [some (.ref 43), some (.int p1)] [] (wv x I J) (rI x Q) := by
  refine wp_seg (C := gC162) (pc1 := 14) (Lo1 := [some (.ref 43), some (.int p1)]) (st1' := [.int (0 : Int32)]) (w1 := (wv x (mSet (mSet I 43 13 p1) 43 14 (I 43 10)) J)) hC162 8 rfl ?_
  exact we_z rfl rfl (Or.inl rfl) k
set_option maxRecDepth 20000 in
theorem v163_43_0 {S : Nat × (Nat → Int32)} {d : Nat} {x : mX} {I : rI0} {J : rJ0} {p1 : Int64} {Q : Int32 → rI0 → rJ0 → Prop} (k : (((I 43 9) = (1 : Int32) → (((lg_cmp (J 43 15) p1) = (0 : Int32) → Q (1 : Int32) I J) ∧ (¬ (lg_cmp (J 43 15) p1) = (0 : Int32) → Q (0 : Int32) I J))) ∧ (¬ (I 43 9) = (1 : Int32) → Q (0 : Int32) I J))) : wp S d 163 0 [some (.ref 43), some (.long p1), none] [] (wv x I J) (rI x Q) := by
  refine wp_seg (C := gC163) (pc1 := 5) (Lo1 := [some (.ref 43), some (.long p1), none]) (st1' := [.int (1 : Int32), .int (I 43 9)]) (w1 := (wv x I J)) hC163 3 rfl ?_
  refine wj_ne (tgt := 21) rfl rfl (fun h => ?_) (fun h => ?_)
  · have k := k.1 h
    refine wp_seg (C := gC163) (pc1 := 14) (Lo1 := [some (.ref 43), some (.long p1), none]) (st1' := [.int (lg_cmp (J 43 15) p1)]) (w1 := (wv x I J)) hC163 4 rfl ?_
    refine wi_ne (tgt := 21) rfl rfl (fun h => ?_) (fun h => ?_)
    · have k := k.1 h
      refine wp_seg (C := gC163) (pc1 := 22) (Lo1 := [some (.ref 43), some (.long p1), none]) (st1' := [.int (1 : Int32)]) (w1 := (wv x I J)) hC163 2 rfl ?_
      exact we_z rfl rfl (Or.inr rfl) k
    · have k := k.2 h
      refine wp_seg (C := gC163) (pc1 := 22) (Lo1 := [some (.ref 43), some (.long p1), none]) (st1' := [.int (0 : Int32)]) (w1 := (wv x I J)) hC163 1 rfl ?_
      exact we_z rfl rfl (Or.inl rfl) k
  · have k := k.2 h
    refine wp_seg (C := gC163) (pc1 := 22) (Lo1 := [some (.ref 43), some (.long p1), none]) (st1' := [.int (0 : Int32)]) (w1 := (wv x I J)) hC163 1 rfl ?_
    exact we_z rfl rfl (Or.inl rfl) k
set_option maxRecDepth 20000 in
theorem v164_43_0 {S : Nat × (Nat → Int32)} {d : Nat} {x : mX} {I : rI0} {J : rJ0} {p1 : Int32} {Q : Int32 → rI0 → rJ0 → Prop} (k : (((I 43 9) = (3 : Int32) → (((I 43 12) = p1 → Q (1 : Int32) I J) ∧ (¬ (I 43 12) = p1 → Q (0 : Int32) I J))) ∧ (¬ (I 43 9) = (3 : Int32) → Q (0 : Int32) I J))) : wp S d 164 0 [some (.ref 43), some (.int p1)] [] (wv x I J) (rI x Q) := by
  refine wp_seg (C := gC164) (pc1 := 5) (Lo1 := [some (.ref 43), some (.int p1)]) (st1' := [.int (3 : Int32), .int (I 43 9)]) (w1 := (wv x I J)) hC164 3 rfl ?_
  refine wj_ne (tgt := 20) rfl rfl (fun h => ?_) (fun h => ?_)
  · have k := k.1 h
    refine wp_seg (C := gC164) (pc1 := 13) (Lo1 := [some (.ref 43), some (.int p1)]) (st1' := [.int p1, .int (I 43 12)]) (w1 := (wv x I J)) hC164 3 rfl ?_
    refine wj_ne (tgt := 20) rfl rfl (fun h => ?_) (fun h => ?_)
    · have k := k.1 h
      refine wp_seg (C := gC164) (pc1 := 21) (Lo1 := [some (.ref 43), some (.int p1)]) (st1' := [.int (1 : Int32)]) (w1 := (wv x I J)) hC164 2 rfl ?_
      exact we_z rfl rfl (Or.inr rfl) k
    · have k := k.2 h
      refine wp_seg (C := gC164) (pc1 := 21) (Lo1 := [some (.ref 43), some (.int p1)]) (st1' := [.int (0 : Int32)]) (w1 := (wv x I J)) hC164 1 rfl ?_
      exact we_z rfl rfl (Or.inl rfl) k
  · have k := k.2 h
    refine wp_seg (C := gC164) (pc1 := 21) (Lo1 := [some (.ref 43), some (.int p1)]) (st1' := [.int (0 : Int32)]) (w1 := (wv x I J)) hC164 1 rfl ?_
    exact we_z rfl rfl (Or.inl rfl) k
set_option maxRecDepth 20000 in
theorem v165_43_0 {S : Nat × (Nat → Int32)} {d : Nat} {x : mX} {I : rI0} {J : rJ0} {p1 : Int32} {Q : Int32 → rI0 → rJ0 → Prop} (k : (wcI S d 164 [.ref 43, .int p1] x I J (fun r1 I1 J1 => ((r1 = (0 : Int32) → (wcI S d 162 [.ref 43, .int (1 : Int32)] x I1 J1 (fun r2 I2 J2 => ((r2 = 0 ∨ r2 = 1) ∧ Q r2 I2 J2)))) ∧ (¬ r1 = (0 : Int32) → (wcV S d 161 [.ref 43] x I1 J1 (fun I3 J3 => Q (1 : Int32) I3 J3))))))) : wp S (d + 1) 165 0 [some (.ref 43), some (.int p1)] [] (wv x I J) (rI x Q) := by
  refine wp_seg (C := gC165) (pc1 := 2) (Lo1 := [some (.ref 43), some (.int p1)]) (st1' := [.int p1, .ref 43]) (w1 := (wv x I J)) hC165 2 rfl ?_
  refine cv_I (mj := 164) (a := 43) (as := [.int p1]) (r := []) rfl rfl rfl ⟨rfl, by decide, Nat.le_of_ble_eq_true rfl, Nat.le_of_ble_eq_true rfl⟩ rfl (wcI_mono k (fun r1 I1 J1 k => ?_))
  refine wi_ne (tgt := 14) rfl rfl (fun h => ?_) (fun h => ?_)
  · have k := k.1 h
    refine wp_seg (C := gC165) (pc1 := 10) (Lo1 := [some (.ref 43), some (.int p1)]) (st1' := [.int (1 : Int32), .ref 43]) (w1 := (wv x I1 J1)) hC165 2 rfl ?_
    refine cv_I (mj := 162) (a := 43) (as := [.int (1 : Int32)]) (r := []) rfl rfl rfl ⟨rfl, by decide, Nat.le_of_ble_eq_true rfl, Nat.le_of_ble_eq_true rfl⟩ rfl (wcI_mono k (fun r2 I2 J2 k => ?_))
    exact we_z rfl rfl k.1 k.2
  · have k := k.2 h
    refine wp_seg (C := gC165) (pc1 := 15) (Lo1 := [some (.ref 43), some (.int p1)]) (st1' := [.ref 43]) (w1 := (wv x I1 J1)) hC165 1 rfl ?_
    refine cv_V (mj := 161) (a := 43) (as := []) (r := []) rfl rfl rfl ⟨rfl, by decide, Nat.le_of_ble_eq_true rfl, Nat.le_of_ble_eq_true rfl⟩ rfl (wcV_mono k (fun I3 J3 k => ?_))
    refine wp_seg (C := gC165) (pc1 := 19) (Lo1 := [some (.ref 43), some (.int p1)]) (st1' := [.int (1 : Int32)]) (w1 := (wv x I3 J3)) hC165 1 rfl ?_
    exact we_z rfl rfl (Or.inr rfl) k
set_option maxRecDepth 20000 in
theorem v166_43_0 {S : Nat × (Nat → Int32)} {d : Nat} {x : mX} {I : rI0} {J : rJ0} {p1 : Int32} {p2 : Int32} {Q : Int32 → rI0 → rJ0 → Prop} (k : (((I 43 9) = (2 : Int32) → (wcI S d 151 [.int (I 43 12), .int p1, .int p2] x I J (fun r1 I1 J1 => ((r1 = (0 : Int32) → (wcI S d 162 [.ref 43, .int (2 : Int32)] x I1 J1 (fun r2 I2 J2 => ((r2 = 0 ∨ r2 = 1) ∧ Q r2 I2 J2)))) ∧ (¬ r1 = (0 : Int32) → (wcV S d 161 [.ref 43] x (mSet I1 43 18 (I1 43 12)) J1 (fun I3 J3 => Q (1 : Int32) I3 J3))))))) ∧ (¬ (I 43 9) = (2 : Int32) → (wcI S d 162 [.ref 43, .int (1 : Int32)] x I J (fun r4 I4 J4 => ((r4 = 0 ∨ r4 = 1) ∧ Q r4 I4 J4)))))) : wp S (d + 1) 166 0 [some (.ref 43), some (.int p1), some (.int p2)] [] (wv x I J) (rI x Q) := by
  refine wp_seg (C := gC166) (pc1 := 5) (Lo1 := [some (.ref 43), some (.int p1), some (.int p2)]) (st1' := [.int (2 : Int32), .int (I 43 9)]) (w1 := (wv x I J)) hC166 3 rfl ?_
  refine wj_eq (tgt := 14) rfl rfl (fun h => ?_) (fun h => ?_)
  · have k := k.1 h
    refine wp_seg (C := gC166) (pc1 := 20) (Lo1 := [some (.ref 43), some (.int p1), some (.int p2)]) (st1' := [.int p2, .int p1, .int (I 43 12)]) (w1 := (wv x I J)) hC166 4 rfl ?_
    refine cs_I (mj := 151) (nn := 0) (as := [.int (I 43 12), .int p1, .int p2]) (r := []) rfl rfl rfl ⟨rfl, by decide, Nat.le_of_ble_eq_true rfl, Nat.le_of_ble_eq_true rfl⟩ (by decide) (wcI_mono k (fun r1 I1 J1 k => ?_))
    refine wi_ne (tgt := 32) rfl rfl (fun h => ?_) (fun h => ?_)
    · have k := k.1 h
      refine wp_seg (C := gC166) (pc1 := 28) (Lo1 := [some (.ref 43), some (.int p1), some (.int p2)]) (st1' := [.int (2 : Int32), .ref 43]) (w1 := (wv x I1 J1)) hC166 2 rfl ?_
      refine cv_I (mj := 162) (a := 43) (as := [.int (2 : Int32)]) (r := []) rfl rfl rfl ⟨rfl, by decide, Nat.le_of_ble_eq_true rfl, Nat.le_of_ble_eq_true rfl⟩ rfl (wcI_mono k (fun r2 I2 J2 k => ?_))
      exact we_z rfl rfl k.1 k.2
    · have k := k.2 h
      refine wp_seg (C := gC166) (pc1 := 41) (Lo1 := [some (.ref 43), some (.int p1), some (.int p2)]) (st1' := [.ref 43]) (w1 := (wv x (mSet I1 43 18 (I1 43 12)) J1)) hC166 5 rfl ?_
      refine cv_V (mj := 161) (a := 43) (as := []) (r := []) rfl rfl rfl ⟨rfl, by decide, Nat.le_of_ble_eq_true rfl, Nat.le_of_ble_eq_true rfl⟩ rfl (wcV_mono k (fun I3 J3 k => ?_))
      refine wp_seg (C := gC166) (pc1 := 45) (Lo1 := [some (.ref 43), some (.int p1), some (.int p2)]) (st1' := [.int (1 : Int32)]) (w1 := (wv x I3 J3)) hC166 1 rfl ?_
      exact we_z rfl rfl (Or.inr rfl) k
  · have k := k.2 h
    refine wp_seg (C := gC166) (pc1 := 10) (Lo1 := [some (.ref 43), some (.int p1), some (.int p2)]) (st1' := [.int (1 : Int32), .ref 43]) (w1 := (wv x I J)) hC166 2 rfl ?_
    refine cv_I (mj := 162) (a := 43) (as := [.int (1 : Int32)]) (r := []) rfl rfl rfl ⟨rfl, by decide, Nat.le_of_ble_eq_true rfl, Nat.le_of_ble_eq_true rfl⟩ rfl (wcI_mono k (fun r4 I4 J4 k => ?_))
    exact we_z rfl rfl k.1 k.2
set_option maxRecDepth 20000 in
theorem v167_43_0 {S : Nat × (Nat → Int32)} {d : Nat} {x : mX} {I : rI0} {J : rJ0} {Q : Int32 → rI0 → rJ0 → Prop} (k : (wcI S d 163 [.ref 43, .long (7499639 : Int64)] x I J (fun r1 I1 J1 => ((r1 = (0 : Int32) → (wcI S d 163 [.ref 43, .long (30064 : Int64)] x I1 J1 (fun r2 I2 J2 => ((r2 = (0 : Int32) → (wcI S d 163 [.ref 43, .long (1685026670 : Int64)] x I2 J2 (fun r3 I3 J3 => ((r3 = (0 : Int32) → (wcI S d 163 [.ref 43, .long (482955846501 : Int64)] x I3 J3 (fun r4 I4 J4 => ((r4 = (0 : Int32) → (wcI S d 163 [.ref 43, .long (119182682645875 : Int64)] x I4 J4 (fun r5 I5 J5 => ((r5 = (0 : Int32) → (wcI S d 163 [.ref 43, .long (426836652665 : Int64)] x I5 J5 (fun r6 I6 J6 => ((r6 = (0 : Int32) → (wcI S d 163 [.ref 43, .long (1885432164 : Int64)] x I6 J6 (fun r7 I7 J7 => ((r7 = (0 : Int32) → (wcI S d 163 [.ref 43, .long (1919907699 : Int64)] x I7 J7 (fun r8 I8 J8 => ((r8 = (0 : Int32) → (wcI S d 162 [.ref 43, .int (1 : Int32)] x I8 J8 (fun r9 I9 J9 => ((r9 = 0 ∨ r9 = 1) ∧ Q r9 I9 J9)))) ∧ (¬ r8 = (0 : Int32) → (wcI S d 152 [.int (I8 43 22), .int (2 : Int32)] x I8 J8 (fun r10 I10 J10 => ((r10 = (0 : Int32) → (¬ mOut (5 : Int32) 590 ∧ (wcV S d 161 [.ref 43] x (mSet (mSet I10 43 22 ((I10 43 22) ||| (4 : Int32))) 46 ((5 : Int32).toNatClampNeg) (1 : Int32)) J10 (fun I11 J11 => Q (1 : Int32) I11 J11)))) ∧ (¬ r10 = (0 : Int32) → (wcI S d 162 [.ref 43, .int (3 : Int32)] x I10 J10 (fun r12 I12 J12 => ((r12 = 0 ∨ r12 = 1) ∧ Q r12 I12 J12)))))))))))) ∧ (¬ r7 = (0 : Int32) → (wcI S d 168 [.ref 43, .int (1 : Int32), .int (4 : Int32), .int (0 : Int32), .int (600 : Int32)] x I7 J7 (fun r13 I13 J13 => ((r13 = 0 ∨ r13 = 1) ∧ Q r13 I13 J13)))))))) ∧ (¬ r6 = (0 : Int32) → (wcI S d 168 [.ref 43, .int (0 : Int32), .int (3 : Int32), .int (1 : Int32), .int (64 : Int32)] x I6 J6 (fun r14 I14 J14 => ((r14 = 0 ∨ r14 = 1) ∧ Q r14 I14 J14)))))))) ∧ (¬ r5 = (0 : Int32) → (wcI S d 169 [.ref 43, .int (I5 43 21)] x I5 J5 (fun r15 I15 J15 => ((r15 = (0 : Int32) → Q (0 : Int32) I15 J15) ∧ (¬ r15 = (0 : Int32) → (wcI S d 166 [.ref 43, .int (0 : Int32), .int (600 : Int32)] x (mSet I15 43 21 ((I15 43 21) ||| ((1 : Int32) <<< (I15 43 18 &&& 31)))) J15 (fun r16 I16 J16 => ((r16 = (0 : Int32) → Q (0 : Int32) I16 J16) ∧ (¬ r16 = (0 : Int32) → (¬ mOut ((78 : Int32) + (I15 43 18)) 590 ∧ Q (1 : Int32) (mSet I16 46 (((78 : Int32) + (I15 43 18)).toNatClampNeg) ((I16 43 18) + (1 : Int32))) J16)))))))))))))) ∧ (¬ r4 = (0 : Int32) → (wcI S d 169 [.ref 43, .int (I4 43 20)] x I4 J4 (fun r17 I17 J17 => ((r17 = (0 : Int32) → Q (0 : Int32) I17 J17) ∧ (¬ r17 = (0 : Int32) → (wcI S d 166 [.ref 43, .int (0 : Int32), .int (999 : Int32)] x (mSet I17 43 20 ((I17 43 20) ||| ((1 : Int32) <<< (I17 43 18 &&& 31)))) J17 (fun r18 I18 J18 => ((r18 = (0 : Int32) → Q (0 : Int32) I18 J18) ∧ (¬ r18 = (0 : Int32) → (¬ mOut ((70 : Int32) + (I17 43 18)) 590 ∧ Q (1 : Int32) (mSet I18 46 (((70 : Int32) + (I17 43 18)).toNatClampNeg) (I18 43 18)) J18)))))))))))))) ∧ (¬ r3 = (0 : Int32) → (wcI S d 171 [.ref 43, .int (1 : Int32)] x I3 J3 (fun r19 I19 J19 => ((r19 = 0 ∨ r19 = 1) ∧ Q r19 I19 J19)))))))) ∧ (¬ r2 = (0 : Int32) → (wcI S d 171 [.ref 43, .int (0 : Int32)] x I2 J2 (fun r20 I20 J20 => ((r20 = 0 ∨ r20 = 1) ∧ Q r20 I20 J20)))))))) ∧ (¬ r1 = (0 : Int32) → (wcI S d 170 [.ref 43] x I1 J1 (fun r21 I21 J21 => ((r21 = 0 ∨ r21 = 1) ∧ Q r21 I21 J21)))))))) : wp S (d + 1) 167 0 [some (.ref 43), none] [] (wv x I J) (rI x Q) := by
  refine wp_seg (C := gC167) (pc1 := 4) (Lo1 := [some (.ref 43), none]) (st1' := [.long (7499639 : Int64), .ref 43]) (w1 := (wv x I J)) hC167 2 rfl ?_
  refine cv_I (mj := 163) (a := 43) (as := [.long (7499639 : Int64)]) (r := []) rfl rfl rfl ⟨rfl, by decide, Nat.le_of_ble_eq_true rfl, Nat.le_of_ble_eq_true rfl⟩ rfl (wcI_mono k (fun r1 I1 J1 k => ?_))
  refine wi_eq (tgt := 15) rfl rfl (fun h => ?_) (fun h => ?_)
  · have k := k.1 h
    refine wp_seg (C := gC167) (pc1 := 19) (Lo1 := [some (.ref 43), none]) (st1' := [.long (30064 : Int64), .ref 43]) (w1 := (wv x I1 J1)) hC167 2 rfl ?_
    refine cv_I (mj := 163) (a := 43) (as := [.long (30064 : Int64)]) (r := []) rfl rfl rfl ⟨rfl, by decide, Nat.le_of_ble_eq_true rfl, Nat.le_of_ble_eq_true rfl⟩ rfl (wcI_mono k (fun r2 I2 J2 k => ?_))
    refine wi_eq (tgt := 31) rfl rfl (fun h => ?_) (fun h => ?_)
    · have k := k.1 h
      refine wp_seg (C := gC167) (pc1 := 35) (Lo1 := [some (.ref 43), none]) (st1' := [.long (1685026670 : Int64), .ref 43]) (w1 := (wv x I2 J2)) hC167 2 rfl ?_
      refine cv_I (mj := 163) (a := 43) (as := [.long (1685026670 : Int64)]) (r := []) rfl rfl rfl ⟨rfl, by decide, Nat.le_of_ble_eq_true rfl, Nat.le_of_ble_eq_true rfl⟩ rfl (wcI_mono k (fun r3 I3 J3 k => ?_))
      refine wi_eq (tgt := 47) rfl rfl (fun h => ?_) (fun h => ?_)
      · have k := k.1 h
        refine wp_seg (C := gC167) (pc1 := 51) (Lo1 := [some (.ref 43), none]) (st1' := [.long (482955846501 : Int64), .ref 43]) (w1 := (wv x I3 J3)) hC167 2 rfl ?_
        refine cv_I (mj := 163) (a := 43) (as := [.long (482955846501 : Int64)]) (r := []) rfl rfl rfl ⟨rfl, by decide, Nat.le_of_ble_eq_true rfl, Nat.le_of_ble_eq_true rfl⟩ rfl (wcI_mono k (fun r4 I4 J4 k => ?_))
        refine wi_eq (tgt := 115) rfl rfl (fun h => ?_) (fun h => ?_)
        · have k := k.1 h
          refine wp_seg (C := gC167) (pc1 := 119) (Lo1 := [some (.ref 43), none]) (st1' := [.long (119182682645875 : Int64), .ref 43]) (w1 := (wv x I4 J4)) hC167 2 rfl ?_
          refine cv_I (mj := 163) (a := 43) (as := [.long (119182682645875 : Int64)]) (r := []) rfl rfl rfl ⟨rfl, by decide, Nat.le_of_ble_eq_true rfl, Nat.le_of_ble_eq_true rfl⟩ rfl (wcI_mono k (fun r5 I5 J5 k => ?_))
          refine wi_eq (tgt := 185) rfl rfl (fun h => ?_) (fun h => ?_)
          · have k := k.1 h
            refine wp_seg (C := gC167) (pc1 := 189) (Lo1 := [some (.ref 43), none]) (st1' := [.long (426836652665 : Int64), .ref 43]) (w1 := (wv x I5 J5)) hC167 2 rfl ?_
            refine cv_I (mj := 163) (a := 43) (as := [.long (426836652665 : Int64)]) (r := []) rfl rfl rfl ⟨rfl, by decide, Nat.le_of_ble_eq_true rfl, Nat.le_of_ble_eq_true rfl⟩ rfl (wcI_mono k (fun r6 I6 J6 k => ?_))
            refine wi_eq (tgt := 205) rfl rfl (fun h => ?_) (fun h => ?_)
            · have k := k.1 h
              refine wp_seg (C := gC167) (pc1 := 209) (Lo1 := [some (.ref 43), none]) (st1' := [.long (1885432164 : Int64), .ref 43]) (w1 := (wv x I6 J6)) hC167 2 rfl ?_
              refine cv_I (mj := 163) (a := 43) (as := [.long (1885432164 : Int64)]) (r := []) rfl rfl rfl ⟨rfl, by decide, Nat.le_of_ble_eq_true rfl, Nat.le_of_ble_eq_true rfl⟩ rfl (wcI_mono k (fun r7 I7 J7 k => ?_))
              refine wi_eq (tgt := 226) rfl rfl (fun h => ?_) (fun h => ?_)
              · have k := k.1 h
                refine wp_seg (C := gC167) (pc1 := 230) (Lo1 := [some (.ref 43), none]) (st1' := [.long (1919907699 : Int64), .ref 43]) (w1 := (wv x I7 J7)) hC167 2 rfl ?_
                refine cv_I (mj := 163) (a := 43) (as := [.long (1919907699 : Int64)]) (r := []) rfl rfl rfl ⟨rfl, by decide, Nat.le_of_ble_eq_true rfl, Nat.le_of_ble_eq_true rfl⟩ rfl (wcI_mono k (fun r8 I8 J8 k => ?_))
                refine wi_ne (tgt := 242) rfl rfl (fun h => ?_) (fun h => ?_)
                · have k := k.1 h
                  refine wp_seg (C := gC167) (pc1 := 238) (Lo1 := [some (.ref 43), none]) (st1' := [.int (1 : Int32), .ref 43]) (w1 := (wv x I8 J8)) hC167 2 rfl ?_
                  refine cv_I (mj := 162) (a := 43) (as := [.int (1 : Int32)]) (r := []) rfl rfl rfl ⟨rfl, by decide, Nat.le_of_ble_eq_true rfl, Nat.le_of_ble_eq_true rfl⟩ rfl (wcI_mono k (fun r9 I9 J9 k => ?_))
                  exact we_z rfl rfl k.1 k.2
                · have k := k.2 h
                  refine wp_seg (C := gC167) (pc1 := 247) (Lo1 := [some (.ref 43), none]) (st1' := [.int (2 : Int32), .int (I8 43 22)]) (w1 := (wv x I8 J8)) hC167 3 rfl ?_
                  refine cs_I (mj := 152) (nn := 0) (as := [.int (I8 43 22), .int (2 : Int32)]) (r := []) rfl rfl rfl ⟨rfl, by decide, Nat.le_of_ble_eq_true rfl, Nat.le_of_ble_eq_true rfl⟩ (by decide) (wcI_mono k (fun r10 I10 J10 k => ?_))
                  refine wi_eq (tgt := 259) rfl rfl (fun h => ?_) (fun h => ?_)
                  · have k := k.1 h
                    refine wp_seg (C := gC167) (pc1 := 275) (Lo1 := [some (.ref 43), none]) (st1' := [.int (1 : Int32), .int (5 : Int32), .ref 46]) (w1 := (wv x (mSet I10 43 22 ((I10 43 22) ||| (4 : Int32))) J10)) hC167 10 rfl ?_
                    refine ws_i (n := 590) rfl rfl k.1 ?_
                    have k := k.2
                    refine wp_seg (C := gC167) (pc1 := 277) (Lo1 := [some (.ref 43), none]) (st1' := [.ref 43]) (w1 := (wv x (mSet (mSet I10 43 22 ((I10 43 22) ||| (4 : Int32))) 46 ((5 : Int32).toNatClampNeg) (1 : Int32)) J10)) hC167 1 rfl ?_
                    refine cv_V (mj := 161) (a := 43) (as := []) (r := []) rfl rfl rfl ⟨rfl, by decide, Nat.le_of_ble_eq_true rfl, Nat.le_of_ble_eq_true rfl⟩ rfl (wcV_mono k (fun I11 J11 k => ?_))
                    refine wp_seg (C := gC167) (pc1 := 281) (Lo1 := [some (.ref 43), none]) (st1' := [.int (1 : Int32)]) (w1 := (wv x I11 J11)) hC167 1 rfl ?_
                    exact we_z rfl rfl (Or.inr rfl) k
                  · have k := k.2 h
                    refine wp_seg (C := gC167) (pc1 := 255) (Lo1 := [some (.ref 43), none]) (st1' := [.int (3 : Int32), .ref 43]) (w1 := (wv x I10 J10)) hC167 2 rfl ?_
                    refine cv_I (mj := 162) (a := 43) (as := [.int (3 : Int32)]) (r := []) rfl rfl rfl ⟨rfl, by decide, Nat.le_of_ble_eq_true rfl, Nat.le_of_ble_eq_true rfl⟩ rfl (wcI_mono k (fun r12 I12 J12 k => ?_))
                    exact we_z rfl rfl k.1 k.2
              · have k := k.2 h
                refine wp_seg (C := gC167) (pc1 := 222) (Lo1 := [some (.ref 43), none]) (st1' := [.int (600 : Int32), .int (0 : Int32), .int (4 : Int32), .int (1 : Int32), .ref 43]) (w1 := (wv x I7 J7)) hC167 5 rfl ?_
                refine cv_I (mj := 168) (a := 43) (as := [.int (1 : Int32), .int (4 : Int32), .int (0 : Int32), .int (600 : Int32)]) (r := []) rfl rfl rfl ⟨rfl, by decide, Nat.le_of_ble_eq_true rfl, Nat.le_of_ble_eq_true rfl⟩ rfl (wcI_mono k (fun r13 I13 J13 k => ?_))
                exact we_z rfl rfl k.1 k.2
            · have k := k.2 h
              refine wp_seg (C := gC167) (pc1 := 201) (Lo1 := [some (.ref 43), none]) (st1' := [.int (64 : Int32), .int (1 : Int32), .int (3 : Int32), .int (0 : Int32), .ref 43]) (w1 := (wv x I6 J6)) hC167 5 rfl ?_
              refine cv_I (mj := 168) (a := 43) (as := [.int (0 : Int32), .int (3 : Int32), .int (1 : Int32), .int (64 : Int32)]) (r := []) rfl rfl rfl ⟨rfl, by decide, Nat.le_of_ble_eq_true rfl, Nat.le_of_ble_eq_true rfl⟩ rfl (wcI_mono k (fun r14 I14 J14 k => ?_))
              exact we_z rfl rfl k.1 k.2
          · have k := k.2 h
            refine wp_seg (C := gC167) (pc1 := 130) (Lo1 := [some (.ref 43), none]) (st1' := [.int (I5 43 21), .ref 43]) (w1 := (wv x I5 J5)) hC167 3 rfl ?_
            refine cv_I (mj := 169) (a := 43) (as := [.int (I5 43 21)]) (r := []) rfl rfl rfl ⟨rfl, by decide, Nat.le_of_ble_eq_true rfl, Nat.le_of_ble_eq_true rfl⟩ rfl (wcI_mono k (fun r15 I15 J15 k => ?_))
            refine wi_ne (tgt := 138) rfl rfl (fun h => ?_) (fun h => ?_)
            · have k := k.1 h
              refine wp_seg (C := gC167) (pc1 := 137) (Lo1 := [some (.ref 43), none]) (st1' := [.int (0 : Int32)]) (w1 := (wv x I15 J15)) hC167 1 rfl ?_
              exact we_z rfl rfl (Or.inl rfl) k
            · have k := k.2 h
              refine wp_seg (C := gC167) (pc1 := 156) (Lo1 := [some (.ref 43), some (.int (I15 43 18))]) (st1' := [.ref 43]) (w1 := (wv x (mSet I15 43 21 ((I15 43 21) ||| ((1 : Int32) <<< (I15 43 18 &&& 31)))) J15)) hC167 12 rfl ?_
              refine wp_seg (C := gC167) (pc1 := 160) (Lo1 := [some (.ref 43), some (.int (I15 43 18))]) (st1' := [.int (600 : Int32), .int (0 : Int32), .ref 43]) (w1 := (wv x (mSet I15 43 21 ((I15 43 21) ||| ((1 : Int32) <<< (I15 43 18 &&& 31)))) J15)) hC167 2 rfl ?_
              refine cv_I (mj := 166) (a := 43) (as := [.int (0 : Int32), .int (600 : Int32)]) (r := []) rfl rfl rfl ⟨rfl, by decide, Nat.le_of_ble_eq_true rfl, Nat.le_of_ble_eq_true rfl⟩ rfl (wcI_mono k (fun r16 I16 J16 k => ?_))
              refine wi_ne (tgt := 168) rfl rfl (fun h => ?_) (fun h => ?_)
              · have k := k.1 h
                refine wp_seg (C := gC167) (pc1 := 167) (Lo1 := [some (.ref 43), some (.int (I15 43 18))]) (st1' := [.int (0 : Int32)]) (w1 := (wv x I16 J16)) hC167 1 rfl ?_
                exact we_z rfl rfl (Or.inl rfl) k
              · have k := k.2 h
                refine wp_seg (C := gC167) (pc1 := 182) (Lo1 := [some (.ref 43), some (.int (I15 43 18))]) (st1' := [.int ((I16 43 18) + (1 : Int32)), .int ((78 : Int32) + (I15 43 18)), .ref 46]) (w1 := (wv x I16 J16)) hC167 9 rfl ?_
                refine ws_i (n := 590) rfl rfl k.1 ?_
                have k := k.2
                refine wp_seg (C := gC167) (pc1 := 184) (Lo1 := [some (.ref 43), some (.int (I15 43 18))]) (st1' := [.int (1 : Int32)]) (w1 := (wv x (mSet I16 46 (((78 : Int32) + (I15 43 18)).toNatClampNeg) ((I16 43 18) + (1 : Int32))) J16)) hC167 1 rfl ?_
                exact we_z rfl rfl (Or.inr rfl) k
        · have k := k.2 h
          refine wp_seg (C := gC167) (pc1 := 62) (Lo1 := [some (.ref 43), none]) (st1' := [.int (I4 43 20), .ref 43]) (w1 := (wv x I4 J4)) hC167 3 rfl ?_
          refine cv_I (mj := 169) (a := 43) (as := [.int (I4 43 20)]) (r := []) rfl rfl rfl ⟨rfl, by decide, Nat.le_of_ble_eq_true rfl, Nat.le_of_ble_eq_true rfl⟩ rfl (wcI_mono k (fun r17 I17 J17 k => ?_))
          refine wi_ne (tgt := 70) rfl rfl (fun h => ?_) (fun h => ?_)
          · have k := k.1 h
            refine wp_seg (C := gC167) (pc1 := 69) (Lo1 := [some (.ref 43), none]) (st1' := [.int (0 : Int32)]) (w1 := (wv x I17 J17)) hC167 1 rfl ?_
            exact we_z rfl rfl (Or.inl rfl) k
          · have k := k.2 h
            refine wp_seg (C := gC167) (pc1 := 88) (Lo1 := [some (.ref 43), some (.int (I17 43 18))]) (st1' := [.ref 43]) (w1 := (wv x (mSet I17 43 20 ((I17 43 20) ||| ((1 : Int32) <<< (I17 43 18 &&& 31)))) J17)) hC167 12 rfl ?_
            refine wp_seg (C := gC167) (pc1 := 92) (Lo1 := [some (.ref 43), some (.int (I17 43 18))]) (st1' := [.int (999 : Int32), .int (0 : Int32), .ref 43]) (w1 := (wv x (mSet I17 43 20 ((I17 43 20) ||| ((1 : Int32) <<< (I17 43 18 &&& 31)))) J17)) hC167 2 rfl ?_
            refine cv_I (mj := 166) (a := 43) (as := [.int (0 : Int32), .int (999 : Int32)]) (r := []) rfl rfl rfl ⟨rfl, by decide, Nat.le_of_ble_eq_true rfl, Nat.le_of_ble_eq_true rfl⟩ rfl (wcI_mono k (fun r18 I18 J18 k => ?_))
            refine wi_ne (tgt := 100) rfl rfl (fun h => ?_) (fun h => ?_)
            · have k := k.1 h
              refine wp_seg (C := gC167) (pc1 := 99) (Lo1 := [some (.ref 43), some (.int (I17 43 18))]) (st1' := [.int (0 : Int32)]) (w1 := (wv x I18 J18)) hC167 1 rfl ?_
              exact we_z rfl rfl (Or.inl rfl) k
            · have k := k.2 h
              refine wp_seg (C := gC167) (pc1 := 112) (Lo1 := [some (.ref 43), some (.int (I17 43 18))]) (st1' := [.int (I18 43 18), .int ((70 : Int32) + (I17 43 18)), .ref 46]) (w1 := (wv x I18 J18)) hC167 7 rfl ?_
              refine ws_i (n := 590) rfl rfl k.1 ?_
              have k := k.2
              refine wp_seg (C := gC167) (pc1 := 114) (Lo1 := [some (.ref 43), some (.int (I17 43 18))]) (st1' := [.int (1 : Int32)]) (w1 := (wv x (mSet I18 46 (((70 : Int32) + (I17 43 18)).toNatClampNeg) (I18 43 18)) J18)) hC167 1 rfl ?_
              exact we_z rfl rfl (Or.inr rfl) k
      · have k := k.2 h
        refine wp_seg (C := gC167) (pc1 := 43) (Lo1 := [some (.ref 43), none]) (st1' := [.int (1 : Int32), .ref 43]) (w1 := (wv x I3 J3)) hC167 2 rfl ?_
        refine cv_I (mj := 171) (a := 43) (as := [.int (1 : Int32)]) (r := []) rfl rfl rfl ⟨rfl, by decide, Nat.le_of_ble_eq_true rfl, Nat.le_of_ble_eq_true rfl⟩ rfl (wcI_mono k (fun r19 I19 J19 k => ?_))
        exact we_z rfl rfl k.1 k.2
    · have k := k.2 h
      refine wp_seg (C := gC167) (pc1 := 27) (Lo1 := [some (.ref 43), none]) (st1' := [.int (0 : Int32), .ref 43]) (w1 := (wv x I2 J2)) hC167 2 rfl ?_
      refine cv_I (mj := 171) (a := 43) (as := [.int (0 : Int32)]) (r := []) rfl rfl rfl ⟨rfl, by decide, Nat.le_of_ble_eq_true rfl, Nat.le_of_ble_eq_true rfl⟩ rfl (wcI_mono k (fun r20 I20 J20 k => ?_))
      exact we_z rfl rfl k.1 k.2
  · have k := k.2 h
    refine wp_seg (C := gC167) (pc1 := 11) (Lo1 := [some (.ref 43), none]) (st1' := [.ref 43]) (w1 := (wv x I1 J1)) hC167 1 rfl ?_
    refine cv_I (mj := 170) (a := 43) (as := []) (r := []) rfl rfl rfl ⟨rfl, by decide, Nat.le_of_ble_eq_true rfl, Nat.le_of_ble_eq_true rfl⟩ rfl (wcI_mono k (fun r21 I21 J21 k => ?_))
    exact we_z rfl rfl k.1 k.2
set_option maxRecDepth 20000 in
theorem v168_43_0 {S : Nat × (Nat → Int32)} {d : Nat} {x : mX} {I : rI0} {J : rJ0} {p1 : Int32} {p2 : Int32} {p3 : Int32} {p4 : Int32} {Q : Int32 → rI0 → rJ0 → Prop} (k : (wcI S d 152 [.int (I 43 22), .int p1] x I J (fun r1 I1 J1 => ((r1 = (0 : Int32) → (wcV S d 161 [.ref 43] x (mSet I1 43 22 ((I1 43 22) ||| ((1 : Int32) <<< (p1 &&& 31)))) J1 (fun I2 J2 => (wcI S d 166 [.ref 43, .int p3, .int p4] x I2 J2 (fun r3 I3 J3 => ((r3 = (0 : Int32) → Q (0 : Int32) I3 J3) ∧ (¬ r3 = (0 : Int32) → (¬ mOut p2 590 ∧ Q (1 : Int32) (mSet I3 46 p2.toNatClampNeg (I3 43 18)) J3)))))))) ∧ (¬ r1 = (0 : Int32) → (wcI S d 162 [.ref 43, .int (3 : Int32)] x I1 J1 (fun r4 I4 J4 => ((r4 = 0 ∨ r4 = 1) ∧ Q r4 I4 J4)))))))) : wp S (d + 1) 168 0 [some (.ref 43), some (.int p1), some (.int p2), some (.int p3), some (.int p4)] [] (wv x I J) (rI x Q) := by
  refine wp_seg (C := gC168) (pc1 := 5) (Lo1 := [some (.ref 43), some (.int p1), some (.int p2), some (.int p3), some (.int p4)]) (st1' := [.int p1, .int (I 43 22)]) (w1 := (wv x I J)) hC168 3 rfl ?_
  refine cs_I (mj := 152) (nn := 0) (as := [.int (I 43 22), .int p1]) (r := []) rfl rfl rfl ⟨rfl, by decide, Nat.le_of_ble_eq_true rfl, Nat.le_of_ble_eq_true rfl⟩ (by decide) (wcI_mono k (fun r1 I1 J1 k => ?_))
  refine wi_eq (tgt := 17) rfl rfl (fun h => ?_) (fun h => ?_)
  · have k := k.1 h
    refine wp_seg (C := gC168) (pc1 := 30) (Lo1 := [some (.ref 43), some (.int p1), some (.int p2), some (.int p3), some (.int p4)]) (st1' := [.ref 43]) (w1 := (wv x (mSet I1 43 22 ((I1 43 22) ||| ((1 : Int32) <<< (p1 &&& 31)))) J1)) hC168 9 rfl ?_
    refine cv_V (mj := 161) (a := 43) (as := []) (r := []) rfl rfl rfl ⟨rfl, by decide, Nat.le_of_ble_eq_true rfl, Nat.le_of_ble_eq_true rfl⟩ rfl (wcV_mono k (fun I2 J2 k => ?_))
    refine wp_seg (C := gC168) (pc1 := 37) (Lo1 := [some (.ref 43), some (.int p1), some (.int p2), some (.int p3), some (.int p4)]) (st1' := [.int p4, .int p3, .ref 43]) (w1 := (wv x I2 J2)) hC168 3 rfl ?_
    refine cv_I (mj := 166) (a := 43) (as := [.int p3, .int p4]) (r := []) rfl rfl rfl ⟨rfl, by decide, Nat.le_of_ble_eq_true rfl, Nat.le_of_ble_eq_true rfl⟩ rfl (wcI_mono k (fun r3 I3 J3 k => ?_))
    refine wi_ne (tgt := 45) rfl rfl (fun h => ?_) (fun h => ?_)
    · have k := k.1 h
      refine wp_seg (C := gC168) (pc1 := 44) (Lo1 := [some (.ref 43), some (.int p1), some (.int p2), some (.int p3), some (.int p4)]) (st1' := [.int (0 : Int32)]) (w1 := (wv x I3 J3)) hC168 1 rfl ?_
      exact we_z rfl rfl (Or.inl rfl) k
    · have k := k.2 h
      refine wp_seg (C := gC168) (pc1 := 54) (Lo1 := [some (.ref 43), some (.int p1), some (.int p2), some (.int p3), some (.int p4)]) (st1' := [.int (I3 43 18), .int p2, .ref 46]) (w1 := (wv x I3 J3)) hC168 5 rfl ?_
      refine ws_i (n := 590) rfl rfl k.1 ?_
      have k := k.2
      refine wp_seg (C := gC168) (pc1 := 56) (Lo1 := [some (.ref 43), some (.int p1), some (.int p2), some (.int p3), some (.int p4)]) (st1' := [.int (1 : Int32)]) (w1 := (wv x (mSet I3 46 p2.toNatClampNeg (I3 43 18)) J3)) hC168 1 rfl ?_
      exact we_z rfl rfl (Or.inr rfl) k
  · have k := k.2 h
    refine wp_seg (C := gC168) (pc1 := 13) (Lo1 := [some (.ref 43), some (.int p1), some (.int p2), some (.int p3), some (.int p4)]) (st1' := [.int (3 : Int32), .ref 43]) (w1 := (wv x I1 J1)) hC168 2 rfl ?_
    refine cv_I (mj := 162) (a := 43) (as := [.int (3 : Int32)]) (r := []) rfl rfl rfl ⟨rfl, by decide, Nat.le_of_ble_eq_true rfl, Nat.le_of_ble_eq_true rfl⟩ rfl (wcI_mono k (fun r4 I4 J4 k => ?_))
    exact we_z rfl rfl k.1 k.2
set_option maxRecDepth 20000 in
theorem v169_43_0 {S : Nat × (Nat → Int32)} {d : Nat} {x : mX} {I : rI0} {J : rJ0} {p1 : Int32} {Q : Int32 → rI0 → rJ0 → Prop} (k : (wcV S d 161 [.ref 43] x I J (fun I1 J1 => (((I1 43 9) = (2 : Int32) → (¬ mOut (0 : Int32) 590 ∧ (((I1 43 12) < (I1 46 ((0 : Int32).toNatClampNeg)) → (wcI S d 152 [.int p1, .int (I1 43 12)] x I1 J1 (fun r2 I2 J2 => ((r2 = (0 : Int32) → (wcV S d 161 [.ref 43] x (mSet I2 43 18 (I2 43 12)) J2 (fun I3 J3 => Q (1 : Int32) I3 J3))) ∧ (¬ r2 = (0 : Int32) → (wcI S d 162 [.ref 43, .int (3 : Int32)] x I2 J2 (fun r4 I4 J4 => ((r4 = 0 ∨ r4 = 1) ∧ Q r4 I4 J4)))))))) ∧ (¬ (I1 43 12) < (I1 46 ((0 : Int32).toNatClampNeg)) → (wcI S d 162 [.ref 43, .int (2 : Int32)] x I1 J1 (fun r5 I5 J5 => ((r5 = 0 ∨ r5 = 1) ∧ Q r5 I5 J5))))))) ∧ (¬ (I1 43 9) = (2 : Int32) → (wcI S d 162 [.ref 43, .int (1 : Int32)] x I1 J1 (fun r6 I6 J6 => ((r6 = 0 ∨ r6 = 1) ∧ Q r6 I6 J6)))))))) : wp S (d + 1) 169 0 [some (.ref 43), some (.int p1)] [] (wv x I J) (rI x Q) := by
  refine wp_seg (C := gC169) (pc1 := 1) (Lo1 := [some (.ref 43), some (.int p1)]) (st1' := [.ref 43]) (w1 := (wv x I J)) hC169 1 rfl ?_
  refine cv_V (mj := 161) (a := 43) (as := []) (r := []) rfl rfl rfl ⟨rfl, by decide, Nat.le_of_ble_eq_true rfl, Nat.le_of_ble_eq_true rfl⟩ rfl (wcV_mono k (fun I1 J1 k => ?_))
  refine wp_seg (C := gC169) (pc1 := 9) (Lo1 := [some (.ref 43), some (.int p1)]) (st1' := [.int (2 : Int32), .int (I1 43 9)]) (w1 := (wv x I1 J1)) hC169 3 rfl ?_
  refine wj_eq (tgt := 18) rfl rfl (fun h => ?_) (fun h => ?_)
  · have k := k.1 h
    refine wp_seg (C := gC169) (pc1 := 27) (Lo1 := [some (.ref 43), some (.int p1)]) (st1' := [.int (0 : Int32), .ref 46, .int (I1 43 12)]) (w1 := (wv x I1 J1)) hC169 5 rfl ?_
    refine wa_i (n := 590) rfl (by decide) rfl k.1 ?_
    have k := k.2
    refine wj_lt (tgt := 37) rfl rfl (fun h => ?_) (fun h => ?_)
    · have k := k.1 h
      refine wp_seg (C := gC169) (pc1 := 42) (Lo1 := [some (.ref 43), some (.int p1)]) (st1' := [.int (I1 43 12), .int p1]) (w1 := (wv x I1 J1)) hC169 3 rfl ?_
      refine cs_I (mj := 152) (nn := 0) (as := [.int p1, .int (I1 43 12)]) (r := []) rfl rfl rfl ⟨rfl, by decide, Nat.le_of_ble_eq_true rfl, Nat.le_of_ble_eq_true rfl⟩ (by decide) (wcI_mono k (fun r2 I2 J2 k => ?_))
      refine wi_eq (tgt := 54) rfl rfl (fun h => ?_) (fun h => ?_)
      · have k := k.1 h
        refine wp_seg (C := gC169) (pc1 := 63) (Lo1 := [some (.ref 43), some (.int p1)]) (st1' := [.ref 43]) (w1 := (wv x (mSet I2 43 18 (I2 43 12)) J2)) hC169 5 rfl ?_
        refine cv_V (mj := 161) (a := 43) (as := []) (r := []) rfl rfl rfl ⟨rfl, by decide, Nat.le_of_ble_eq_true rfl, Nat.le_of_ble_eq_true rfl⟩ rfl (wcV_mono k (fun I3 J3 k => ?_))
        refine wp_seg (C := gC169) (pc1 := 67) (Lo1 := [some (.ref 43), some (.int p1)]) (st1' := [.int (1 : Int32)]) (w1 := (wv x I3 J3)) hC169 1 rfl ?_
        exact we_z rfl rfl (Or.inr rfl) k
      · have k := k.2 h
        refine wp_seg (C := gC169) (pc1 := 50) (Lo1 := [some (.ref 43), some (.int p1)]) (st1' := [.int (3 : Int32), .ref 43]) (w1 := (wv x I2 J2)) hC169 2 rfl ?_
        refine cv_I (mj := 162) (a := 43) (as := [.int (3 : Int32)]) (r := []) rfl rfl rfl ⟨rfl, by decide, Nat.le_of_ble_eq_true rfl, Nat.le_of_ble_eq_true rfl⟩ rfl (wcI_mono k (fun r4 I4 J4 k => ?_))
        exact we_z rfl rfl k.1 k.2
    · have k := k.2 h
      refine wp_seg (C := gC169) (pc1 := 33) (Lo1 := [some (.ref 43), some (.int p1)]) (st1' := [.int (2 : Int32), .ref 43]) (w1 := (wv x I1 J1)) hC169 2 rfl ?_
      refine cv_I (mj := 162) (a := 43) (as := [.int (2 : Int32)]) (r := []) rfl rfl rfl ⟨rfl, by decide, Nat.le_of_ble_eq_true rfl, Nat.le_of_ble_eq_true rfl⟩ rfl (wcI_mono k (fun r5 I5 J5 k => ?_))
      exact we_z rfl rfl k.1 k.2
  · have k := k.2 h
    refine wp_seg (C := gC169) (pc1 := 14) (Lo1 := [some (.ref 43), some (.int p1)]) (st1' := [.int (1 : Int32), .ref 43]) (w1 := (wv x I1 J1)) hC169 2 rfl ?_
    refine cv_I (mj := 162) (a := 43) (as := [.int (1 : Int32)]) (r := []) rfl rfl rfl ⟨rfl, by decide, Nat.le_of_ble_eq_true rfl, Nat.le_of_ble_eq_true rfl⟩ rfl (wcI_mono k (fun r6 I6 J6 k => ?_))
    exact we_z rfl rfl k.1 k.2
set_option maxRecDepth 20000 in
theorem v170_43_0 {S : Nat × (Nat → Int32)} {d : Nat} {x : mX} {I : rI0} {J : rJ0} {Q : Int32 → rI0 → rJ0 → Prop} (k : (¬ mOut (0 : Int32) 590 ∧ (((I 46 ((0 : Int32).toNatClampNeg)) = (8 : Int32) → (wcI S d 162 [.ref 43, .int (4 : Int32)] x I J (fun r1 I1 J1 => ((r1 = 0 ∨ r1 = 1) ∧ Q r1 I1 J1)))) ∧ (¬ (I 46 ((0 : Int32).toNatClampNeg)) = (8 : Int32) → (wcV S d 161 [.ref 43] x I J (fun I2 J2 => (((I2 43 9) = (1 : Int32) → (((I 46 ((0 : Int32).toNatClampNeg)) = (0 : Int32) → wp S (d + 1) 170 62 [some (.ref 43), some (.int (I 46 ((0 : Int32).toNatClampNeg))), some (.int (1 : Int32)), some (.int (0 : Int32)), none] [] (wv x I2 J2) (rI x Q)) ∧ (¬ (I 46 ((0 : Int32).toNatClampNeg)) = (0 : Int32) → (¬ mOut (1 : Int32) 590 ∧ (((I2 43 11) = (I2 46 ((1 : Int32).toNatClampNeg)) → wp S (d + 1) 170 62 [some (.ref 43), some (.int (I 46 ((0 : Int32).toNatClampNeg))), some (.int (1 : Int32)), some (.int (0 : Int32)), none] [] (wv x I2 J2) (rI x Q)) ∧ (¬ (I2 43 11) = (I2 46 ((1 : Int32).toNatClampNeg)) → wp S (d + 1) 170 62 [some (.ref 43), some (.int (I 46 ((0 : Int32).toNatClampNeg))), some (.int (0 : Int32)), some (.int (0 : Int32)), none] [] (wv x I2 J2) (rI x Q))))))) ∧ (¬ (I2 43 9) = (1 : Int32) → (wcI S d 162 [.ref 43, .int (1 : Int32)] x I2 J2 (fun r3 I3 J3 => ((r3 = 0 ∨ r3 = 1) ∧ Q r3 I3 J3))))))))))) : wp S (d + 1) 170 0 [some (.ref 43), none, none, none, none] [] (wv x I J) (rI x Q) := by
  refine wp_seg (C := gC170) (pc1 := 5) (Lo1 := [some (.ref 43), none, none, none, none]) (st1' := [.int (0 : Int32), .ref 46]) (w1 := (wv x I J)) hC170 3 rfl ?_
  refine wa_i (n := 590) rfl (by decide) rfl k.1 ?_
  have k := k.2
  refine wp_seg (C := gC170) (pc1 := 10) (Lo1 := [some (.ref 43), some (.int (I 46 ((0 : Int32).toNatClampNeg))), none, none, none]) (st1' := [.int (8 : Int32), .int (I 46 ((0 : Int32).toNatClampNeg))]) (w1 := (wv x I J)) hC170 3 rfl ?_
  refine wj_ne (tgt := 19) rfl rfl (fun h => ?_) (fun h => ?_)
  · have k := k.1 h
    refine wp_seg (C := gC170) (pc1 := 15) (Lo1 := [some (.ref 43), some (.int (I 46 ((0 : Int32).toNatClampNeg))), none, none, none]) (st1' := [.int (4 : Int32), .ref 43]) (w1 := (wv x I J)) hC170 2 rfl ?_
    refine cv_I (mj := 162) (a := 43) (as := [.int (4 : Int32)]) (r := []) rfl rfl rfl ⟨rfl, by decide, Nat.le_of_ble_eq_true rfl, Nat.le_of_ble_eq_true rfl⟩ rfl (wcI_mono k (fun r1 I1 J1 k => ?_))
    exact we_z rfl rfl k.1 k.2
  · have k := k.2 h
    refine wp_seg (C := gC170) (pc1 := 20) (Lo1 := [some (.ref 43), some (.int (I 46 ((0 : Int32).toNatClampNeg))), none, none, none]) (st1' := [.ref 43]) (w1 := (wv x I J)) hC170 1 rfl ?_
    refine cv_V (mj := 161) (a := 43) (as := []) (r := []) rfl rfl rfl ⟨rfl, by decide, Nat.le_of_ble_eq_true rfl, Nat.le_of_ble_eq_true rfl⟩ rfl (wcV_mono k (fun I2 J2 k => ?_))
    refine wp_seg (C := gC170) (pc1 := 28) (Lo1 := [some (.ref 43), some (.int (I 46 ((0 : Int32).toNatClampNeg))), none, none, none]) (st1' := [.int (1 : Int32), .int (I2 43 9)]) (w1 := (wv x I2 J2)) hC170 3 rfl ?_
    refine wj_eq (tgt := 37) rfl rfl (fun h => ?_) (fun h => ?_)
    · have k := k.1 h
      refine wp_seg (C := gC170) (pc1 := 38) (Lo1 := [some (.ref 43), some (.int (I 46 ((0 : Int32).toNatClampNeg))), none, none, none]) (st1' := [.int (I 46 ((0 : Int32).toNatClampNeg))]) (w1 := (wv x I2 J2)) hC170 1 rfl ?_
      refine wi_eq (tgt := 54) rfl rfl (fun h => ?_) (fun h => ?_)
      · have k := k.1 h
        refine wp_seg (C := gC170) (pc1 := 62) (Lo1 := [some (.ref 43), some (.int (I 46 ((0 : Int32).toNatClampNeg))), some (.int (1 : Int32)), some (.int (0 : Int32)), none]) (st1' := []) (w1 := (wv x I2 J2)) hC170 5 rfl ?_
        exact k
      · have k := k.2 h
        refine wp_seg (C := gC170) (pc1 := 50) (Lo1 := [some (.ref 43), some (.int (I 46 ((0 : Int32).toNatClampNeg))), none, none, none]) (st1' := [.int (1 : Int32), .ref 46, .int (I2 43 11)]) (w1 := (wv x I2 J2)) hC170 5 rfl ?_
        refine wa_i (n := 590) rfl (by decide) rfl k.1 ?_
        have k := k.2
        refine wj_ne (tgt := 58) rfl rfl (fun h => ?_) (fun h => ?_)
        · have k := k.1 h
          refine wp_seg (C := gC170) (pc1 := 62) (Lo1 := [some (.ref 43), some (.int (I 46 ((0 : Int32).toNatClampNeg))), some (.int (1 : Int32)), some (.int (0 : Int32)), none]) (st1' := []) (w1 := (wv x I2 J2)) hC170 5 rfl ?_
          exact k
        · have k := k.2 h
          refine wp_seg (C := gC170) (pc1 := 62) (Lo1 := [some (.ref 43), some (.int (I 46 ((0 : Int32).toNatClampNeg))), some (.int (0 : Int32)), some (.int (0 : Int32)), none]) (st1' := []) (w1 := (wv x I2 J2)) hC170 4 rfl ?_
          exact k
    · have k := k.2 h
      refine wp_seg (C := gC170) (pc1 := 33) (Lo1 := [some (.ref 43), some (.int (I 46 ((0 : Int32).toNatClampNeg))), none, none, none]) (st1' := [.int (1 : Int32), .ref 43]) (w1 := (wv x I2 J2)) hC170 2 rfl ?_
      refine cv_I (mj := 162) (a := 43) (as := [.int (1 : Int32)]) (r := []) rfl rfl rfl ⟨rfl, by decide, Nat.le_of_ble_eq_true rfl, Nat.le_of_ble_eq_true rfl⟩ rfl (wcI_mono k (fun r3 I3 J3 k => ?_))
      exact we_z rfl rfl k.1 k.2
