set_option maxRecDepth 20000 in
theorem v186_43_190 {S : Nat × (Nat → Int32)} {d : Nat} {x : mX} {I : rI0} {J : rJ0} {l1 : Int64} {l3 : Int32} {l4 : Int32} {l5 : Int32} {l6 : Int64} {l8 : Int64} {l10 : Int32} {l11 : Int32} {Q : rI0 → rJ0 → Prop} (k : ((l11 < (4 : Int32) → ((l10 = (0 : Int32) → wp S (d + 1) 186 206 [some (.ref 43), some (.long l1), none, some (.int l3), some (.int l4), some (.int l5), some (.long l6), none, some (.long l8), none, some (.int l10), some (.int l11), some (.int (-l11))] [] (wv x I J) (rV x Q)) ∧ (¬ l10 = (0 : Int32) → wp S (d + 1) 186 244 [some (.ref 43), some (.long l1), none, some (.int l3), some (.int l4), some (.int l5), some (.long l6), none, some (.long l8), none, some (.int l10), some (.int l11), none] [] (wv x I J) (rV x Q)))) ∧ (¬ l11 < (4 : Int32) → wp S (d + 1) 186 244 [some (.ref 43), some (.long l1), none, some (.int l3), some (.int l4), some (.int l5), some (.long l6), none, some (.long l8), none, some (.int l10), some (.int l11), none] [] (wv x I J) (rV x Q)))) : wp S (d + 1) 186 190 [some (.ref 43), some (.long l1), none, some (.int l3), some (.int l4), some (.int l5), some (.long l6), none, some (.long l8), none, some (.int l10), some (.int l11), none] [] (wv x I J) (rV x Q) := by
  refine wp_seg (C := gC186) (pc1 := 193) (Lo1 := [some (.ref 43), some (.long l1), none, some (.int l3), some (.int l4), some (.int l5), some (.long l6), none, some (.long l8), none, some (.int l10), some (.int l11), none]) (st1' := [.int (4 : Int32), .int l11]) (w1 := (wv x I J)) hC186 2 rfl ?_
  refine wj_ge (tgt := 244) rfl rfl (fun h => ?_) (fun h => ?_)
  · have k := k.1 h
    refine wp_seg (C := gC186) (pc1 := 198) (Lo1 := [some (.ref 43), some (.long l1), none, some (.int l3), some (.int l4), some (.int l5), some (.long l6), none, some (.long l8), none, some (.int l10), some (.int l11), none]) (st1' := [.int l10]) (w1 := (wv x I J)) hC186 1 rfl ?_
    refine wi_ne (tgt := 244) rfl rfl (fun h => ?_) (fun h => ?_)
    · have k := k.1 h
      refine wp_seg (C := gC186) (pc1 := 206) (Lo1 := [some (.ref 43), some (.long l1), none, some (.int l3), some (.int l4), some (.int l5), some (.long l6), none, some (.long l8), none, some (.int l10), some (.int l11), some (.int (-l11))]) (st1' := []) (w1 := (wv x I J)) hC186 3 rfl ?_
      exact k
    · have k := k.2 h
      exact k
  · have k := k.2 h
    exact k
set_option maxRecDepth 20000 in
theorem v186_43_206 {S : Nat × (Nat → Int32)} {d : Nat} {x : mX} {I : rI0} {J : rJ0} {l1 : Int64} {l3 : Int32} {l4 : Int32} {l5 : Int32} {l6 : Int64} {l8 : Int64} {l10 : Int32} {l11 : Int32} {l12 : Int32} {Q : rI0 → rJ0 → Prop} (k : ((l11 < l12 → wp S (d + 1) 186 190 [some (.ref 43), some (.long l1), none, some (.int l3), some (.int l4), some (.int l5), some (.long l6), none, some (.long l8), none, some (.int l10), some (.int (l11 + (1 : Int32))), none] [] (wv x I J) (rV x Q)) ∧ (¬ l11 < l12 → (wcJ S d 185 [.ref 43, .int (l4 - l11), .int (l5 + l12)] x I J (fun r1 I1 J1 => wp S (d + 1) 186 206 [some (.ref 43), some (.long l1), none, some (.int l3), some (.int l4), some (.int l5), some (.long l6), none, some (.long (l8 ||| r1)), none, some (.int l10), some (.int l11), some (.int (l12 + (1 : Int32)))] [] (wv x I1 J1) (rV x Q)))))) : wp S (d + 1) 186 206 [some (.ref 43), some (.long l1), none, some (.int l3), some (.int l4), some (.int l5), some (.long l6), none, some (.long l8), none, some (.int l10), some (.int l11), some (.int l12)] [] (wv x I J) (rV x Q) := by
  refine wp_seg (C := gC186) (pc1 := 210) (Lo1 := [some (.ref 43), some (.long l1), none, some (.int l3), some (.int l4), some (.int l5), some (.long l6), none, some (.long l8), none, some (.int l10), some (.int l11), some (.int l12)]) (st1' := [.int l11, .int l12]) (w1 := (wv x I J)) hC186 2 rfl ?_
  refine wj_gt (tgt := 238) rfl rfl (fun h => ?_) (fun h => ?_)
  · have k := k.1 h
    refine wp_seg (C := gC186) (pc1 := 190) (Lo1 := [some (.ref 43), some (.long l1), none, some (.int l3), some (.int l4), some (.int l5), some (.long l6), none, some (.long l8), none, some (.int l10), some (.int (l11 + (1 : Int32))), some (.int l12)]) (st1' := []) (w1 := (wv x I J)) hC186 2 rfl ?_
    exact wp_sub (Lo := [some (.ref 43), some (.long l1), none, some (.int l3), some (.int l4), some (.int l5), some (.long l6), none, some (.long l8), none, some (.int l10), some (.int (l11 + (1 : Int32))), none]) (And.intro rfl (And.intro rfl (And.intro rfl (And.intro rfl (And.intro rfl (And.intro rfl (And.intro rfl (And.intro rfl (And.intro rfl (trivial)))))))))) k
  · have k := k.2 h
    refine wp_seg (C := gC186) (pc1 := 226) (Lo1 := [some (.ref 43), some (.long l1), none, some (.int l3), some (.int l4), some (.int l5), some (.long l6), none, some (.long l8), none, some (.int l10), some (.int l11), some (.int l12)]) (st1' := [.int (l5 + l12), .int (l4 - l11), .ref 43, .long l8]) (w1 := (wv x I J)) hC186 8 rfl ?_
    refine cv_J (mj := 185) (a := 43) (as := [.int (l4 - l11), .int (l5 + l12)]) (r := [.long l8]) rfl rfl rfl ⟨rfl, by decide, Nat.le_of_ble_eq_true rfl, Nat.le_of_ble_eq_true rfl⟩ rfl (wcJ_mono k (fun r1 I1 J1 k => ?_))
    refine wp_seg (C := gC186) (pc1 := 235) (Lo1 := [some (.ref 43), some (.long l1), none, some (.int l3), some (.int l4), some (.int l5), some (.long l6), none, some (.long (l8 ||| r1)), none, some (.int l10), some (.int l11), some (.int (l12 + (1 : Int32)))]) (st1' := []) (w1 := (wv x I1 J1)) hC186 3 rfl ?_
    refine wp_seg (C := gC186) (pc1 := 206) (Lo1 := [some (.ref 43), some (.long l1), none, some (.int l3), some (.int l4), some (.int l5), some (.long l6), none, some (.long (l8 ||| r1)), none, some (.int l10), some (.int l11), some (.int (l12 + (1 : Int32)))]) (st1' := []) (w1 := (wv x I1 J1)) hC186 1 rfl ?_
    exact k
set_option maxRecDepth 20000 in
theorem v186_43_244 {S : Nat × (Nat → Int32)} {d : Nat} {x : mX} {I : rI0} {J : rJ0} {l1 : Int64} {l3 : Int32} {l4 : Int32} {l5 : Int32} {l6 : Int64} {l8 : Int64} {l10 : Int32} {l11 : Int32} {Q : rI0 → rJ0 → Prop} (k : (¬ mOut ((6 : Int32) * l3) 384 ∧ (wcJ S d 185 [.ref 43, .int (l4 - (1 : Int32)), .int l5] x I (mSet J 51 (((6 : Int32) * l3).toNatClampNeg) l6) (fun r1 I1 J1 => (¬ mOut (((6 : Int32) * l3) + (1 : Int32)) 384 ∧ (wcJ S d 185 [.ref 43, .int l4, .int (l5 - (1 : Int32))] x I1 (mSet J1 51 ((((6 : Int32) * l3) + (1 : Int32)).toNatClampNeg) r1) (fun r2 I2 J2 => (wcJ S d 185 [.ref 43, .int l4, .int (l5 + (1 : Int32))] x I2 J2 (fun r3 I3 J3 => (¬ mOut (((6 : Int32) * l3) + (2 : Int32)) 384 ∧ (wcJ S d 185 [.ref 43, .int (l4 + (1 : Int32)), .int l5] x I3 (mSet J3 51 ((((6 : Int32) * l3) + (2 : Int32)).toNatClampNeg) (r2 ||| r3)) (fun r4 I4 J4 => (¬ mOut (((6 : Int32) * l3) + (3 : Int32)) 384 ∧ (¬ mOut (((6 : Int32) * l3) + (4 : Int32)) 384 ∧ (¬ mOut (((6 : Int32) * l3) + (5 : Int32)) 384 ∧ wp S (d + 1) 186 64 [some (.ref 43), some (.long l1), none, some (.int (l3 + (1 : Int32))), none, none, none, none, none, none, none, none, none] [] (wv x I4 (mSet (mSet (mSet J4 51 ((((6 : Int32) * l3) + (3 : Int32)).toNatClampNeg) r4) 51 ((((6 : Int32) * l3) + (4 : Int32)).toNatClampNeg) l8) 51 ((((6 : Int32) * l3) + (5 : Int32)).toNatClampNeg) (l1 &&& (((1 : Int64) <<< (l3.toInt64 &&& 63)) ^^^ (-1 : Int64))))) (rV x Q)))))))))))))))) : wp S (d + 1) 186 244 [some (.ref 43), some (.long l1), none, some (.int l3), some (.int l4), some (.int l5), some (.long l6), none, some (.long l8), none, some (.int l10), some (.int l11), none] [] (wv x I J) (rV x Q) := by
  refine wp_seg (C := gC186) (pc1 := 254) (Lo1 := [some (.ref 43), some (.long l1), none, some (.int l3), some (.int l4), some (.int l5), some (.long l6), none, some (.long l8), none, some (.int l10), some (.int l11), none]) (st1' := [.long l6, .int ((6 : Int32) * l3), .ref 51]) (w1 := (wv x I J)) hC186 6 rfl ?_
  refine ws_l (n := 384) rfl rfl k.1 ?_
  have k := k.2
  refine wp_seg (C := gC186) (pc1 := 272) (Lo1 := [some (.ref 43), some (.long l1), none, some (.int l3), some (.int l4), some (.int l5), some (.long l6), none, some (.long l8), none, some (.int l10), some (.int l11), none]) (st1' := [.int l5, .int (l4 - (1 : Int32)), .ref 43, .int (((6 : Int32) * l3) + (1 : Int32)), .ref 51]) (w1 := (wv x I (mSet J 51 (((6 : Int32) * l3).toNatClampNeg) l6))) hC186 12 rfl ?_
  refine cv_J (mj := 185) (a := 43) (as := [.int (l4 - (1 : Int32)), .int l5]) (r := [.int (((6 : Int32) * l3) + (1 : Int32)), .ref 51]) rfl rfl rfl ⟨rfl, by decide, Nat.le_of_ble_eq_true rfl, Nat.le_of_ble_eq_true rfl⟩ rfl (wcJ_mono k (fun r1 I1 J1 k => ?_))
  refine ws_l (n := 384) rfl rfl k.1 ?_
  have k := k.2
  refine wp_seg (C := gC186) (pc1 := 293) (Lo1 := [some (.ref 43), some (.long l1), none, some (.int l3), some (.int l4), some (.int l5), some (.long l6), none, some (.long l8), none, some (.int l10), some (.int l11), none]) (st1' := [.int (l5 - (1 : Int32)), .int l4, .ref 43, .int (((6 : Int32) * l3) + (2 : Int32)), .ref 51]) (w1 := (wv x I1 (mSet J1 51 ((((6 : Int32) * l3) + (1 : Int32)).toNatClampNeg) r1))) hC186 12 rfl ?_
  refine cv_J (mj := 185) (a := 43) (as := [.int l4, .int (l5 - (1 : Int32))]) (r := [.int (((6 : Int32) * l3) + (2 : Int32)), .ref 51]) rfl rfl rfl ⟨rfl, by decide, Nat.le_of_ble_eq_true rfl, Nat.le_of_ble_eq_true rfl⟩ rfl (wcJ_mono k (fun r2 I2 J2 k => ?_))
  refine wp_seg (C := gC186) (pc1 := 303) (Lo1 := [some (.ref 43), some (.long l1), none, some (.int l3), some (.int l4), some (.int l5), some (.long l6), none, some (.long l8), none, some (.int l10), some (.int l11), none]) (st1' := [.int (l5 + (1 : Int32)), .int l4, .ref 43, .long r2, .int (((6 : Int32) * l3) + (2 : Int32)), .ref 51]) (w1 := (wv x I2 J2)) hC186 5 rfl ?_
  refine cv_J (mj := 185) (a := 43) (as := [.int l4, .int (l5 + (1 : Int32))]) (r := [.long r2, .int (((6 : Int32) * l3) + (2 : Int32)), .ref 51]) rfl rfl rfl ⟨rfl, by decide, Nat.le_of_ble_eq_true rfl, Nat.le_of_ble_eq_true rfl⟩ rfl (wcJ_mono k (fun r3 I3 J3 k => ?_))
  refine wp_seg (C := gC186) (pc1 := 307) (Lo1 := [some (.ref 43), some (.long l1), none, some (.int l3), some (.int l4), some (.int l5), some (.long l6), none, some (.long l8), none, some (.int l10), some (.int l11), none]) (st1' := [.long (r2 ||| r3), .int (((6 : Int32) * l3) + (2 : Int32)), .ref 51]) (w1 := (wv x I3 J3)) hC186 1 rfl ?_
  refine ws_l (n := 384) rfl rfl k.1 ?_
  have k := k.2
  refine wp_seg (C := gC186) (pc1 := 325) (Lo1 := [some (.ref 43), some (.long l1), none, some (.int l3), some (.int l4), some (.int l5), some (.long l6), none, some (.long l8), none, some (.int l10), some (.int l11), none]) (st1' := [.int l5, .int (l4 + (1 : Int32)), .ref 43, .int (((6 : Int32) * l3) + (3 : Int32)), .ref 51]) (w1 := (wv x I3 (mSet J3 51 ((((6 : Int32) * l3) + (2 : Int32)).toNatClampNeg) (r2 ||| r3)))) hC186 12 rfl ?_
  refine cv_J (mj := 185) (a := 43) (as := [.int (l4 + (1 : Int32)), .int l5]) (r := [.int (((6 : Int32) * l3) + (3 : Int32)), .ref 51]) rfl rfl rfl ⟨rfl, by decide, Nat.le_of_ble_eq_true rfl, Nat.le_of_ble_eq_true rfl⟩ rfl (wcJ_mono k (fun r4 I4 J4 k => ?_))
  refine ws_l (n := 384) rfl rfl k.1 ?_
  have k := k.2
  refine wp_seg (C := gC186) (pc1 := 341) (Lo1 := [some (.ref 43), some (.long l1), none, some (.int l3), some (.int l4), some (.int l5), some (.long l6), none, some (.long l8), none, some (.int l10), some (.int l11), none]) (st1' := [.long l8, .int (((6 : Int32) * l3) + (4 : Int32)), .ref 51]) (w1 := (wv x I4 (mSet J4 51 ((((6 : Int32) * l3) + (3 : Int32)).toNatClampNeg) r4))) hC186 8 rfl ?_
  refine ws_l (n := 384) rfl rfl k.1 ?_
  have k := k.2
  refine wp_seg (C := gC186) (pc1 := 359) (Lo1 := [some (.ref 43), some (.long l1), none, some (.int l3), some (.int l4), some (.int l5), some (.long l6), none, some (.long l8), none, some (.int l10), some (.int l11), none]) (st1' := [.long (-1 : Int64), .long ((1 : Int64) <<< (l3.toInt64 &&& 63)), .long l1, .int (((6 : Int32) * l3) + (5 : Int32)), .ref 51]) (w1 := (wv x I4 (mSet (mSet J4 51 ((((6 : Int32) * l3) + (3 : Int32)).toNatClampNeg) r4) 51 ((((6 : Int32) * l3) + (4 : Int32)).toNatClampNeg) l8))) hC186 12 rfl ?_
  refine wp_seg (C := gC186) (pc1 := 361) (Lo1 := [some (.ref 43), some (.long l1), none, some (.int l3), some (.int l4), some (.int l5), some (.long l6), none, some (.long l8), none, some (.int l10), some (.int l11), none]) (st1' := [.long (l1 &&& (((1 : Int64) <<< (l3.toInt64 &&& 63)) ^^^ (-1 : Int64))), .int (((6 : Int32) * l3) + (5 : Int32)), .ref 51]) (w1 := (wv x I4 (mSet (mSet J4 51 ((((6 : Int32) * l3) + (3 : Int32)).toNatClampNeg) r4) 51 ((((6 : Int32) * l3) + (4 : Int32)).toNatClampNeg) l8))) hC186 2 rfl ?_
  refine ws_l (n := 384) rfl rfl k.1 ?_
  have k := k.2
  refine wp_seg (C := gC186) (pc1 := 64) (Lo1 := [some (.ref 43), some (.long l1), none, some (.int (l3 + (1 : Int32))), some (.int l4), some (.int l5), some (.long l6), none, some (.long l8), none, some (.int l10), some (.int l11), none]) (st1' := []) (w1 := (wv x I4 (mSet (mSet (mSet J4 51 ((((6 : Int32) * l3) + (3 : Int32)).toNatClampNeg) r4) 51 ((((6 : Int32) * l3) + (4 : Int32)).toNatClampNeg) l8) 51 ((((6 : Int32) * l3) + (5 : Int32)).toNatClampNeg) (l1 &&& (((1 : Int64) <<< (l3.toInt64 &&& 63)) ^^^ (-1 : Int64)))))) hC186 2 rfl ?_
  exact wp_sub (Lo := [some (.ref 43), some (.long l1), none, some (.int (l3 + (1 : Int32))), none, none, none, none, none, none, none, none, none]) (And.intro rfl (And.intro rfl (And.intro rfl (trivial)))) k
set_option maxRecDepth 20000 in
theorem v187_43_0 {S : Nat × (Nat → Int32)} {d : Nat} {x : mX} {I : rI0} {J : rJ0} {p1 : Int32} {p2 : Int32} {Q : Int32 → rI0 → rJ0 → Prop} (k : (wcI S d 183 [.ref 43, .int p1] x I J (fun r1 I1 J1 => ((r1 = (0 : Int32) → wp S (d + 1) 187 23 [some (.ref 43), some (.int p1), some (.int p2)] [.int (1 : Int32), .ref 43] (wv x I1 J1) (rI x Q)) ∧ (¬ r1 = (0 : Int32) → (wcI S d 151 [.int p2, .int (0 : Int32), .int (4 : Int32)] x I1 J1 (fun r2 I2 J2 => ((r2 = (0 : Int32) → wp S (d + 1) 187 23 [some (.ref 43), some (.int p1), some (.int p2)] [.int (1 : Int32), .ref 43] (wv x I2 J2) (rI x Q)) ∧ (¬ r2 = (0 : Int32) → wp S (d + 1) 187 23 [some (.ref 43), some (.int p1), some (.int p2)] [.int (0 : Int32), .ref 43] (wv x I2 J2) (rI x Q)))))))))) : wp S (d + 1) 187 0 [some (.ref 43), some (.int p1), some (.int p2)] [] (wv x I J) (rI x Q) := by
  refine wp_seg (C := gC187) (pc1 := 3) (Lo1 := [some (.ref 43), some (.int p1), some (.int p2)]) (st1' := [.int p1, .ref 43, .ref 43]) (w1 := (wv x I J)) hC187 3 rfl ?_
  refine cv_I (mj := 183) (a := 43) (as := [.int p1]) (r := [.ref 43]) rfl rfl rfl ⟨rfl, by decide, Nat.le_of_ble_eq_true rfl, Nat.le_of_ble_eq_true rfl⟩ rfl (wcI_mono k (fun r1 I1 J1 k => ?_))
  refine wi_eq (tgt := 18) rfl rfl (fun h => ?_) (fun h => ?_)
  · have k := k.1 h
    refine wp_seg (C := gC187) (pc1 := 23) (Lo1 := [some (.ref 43), some (.int p1), some (.int p2)]) (st1' := [.int (1 : Int32), .ref 43]) (w1 := (wv x I1 J1)) hC187 2 rfl ?_
    exact k
  · have k := k.2 h
    refine wp_seg (C := gC187) (pc1 := 12) (Lo1 := [some (.ref 43), some (.int p1), some (.int p2)]) (st1' := [.int (4 : Int32), .int (0 : Int32), .int p2, .ref 43]) (w1 := (wv x I1 J1)) hC187 3 rfl ?_
    refine cs_I (mj := 151) (nn := 0) (as := [.int p2, .int (0 : Int32), .int (4 : Int32)]) (r := [.ref 43]) rfl rfl rfl ⟨rfl, by decide, Nat.le_of_ble_eq_true rfl, Nat.le_of_ble_eq_true rfl⟩ (by decide) (wcI_mono k (fun r2 I2 J2 k => ?_))
    refine wi_ne (tgt := 22) rfl rfl (fun h => ?_) (fun h => ?_)
    · have k := k.1 h
      refine wp_seg (C := gC187) (pc1 := 23) (Lo1 := [some (.ref 43), some (.int p1), some (.int p2)]) (st1' := [.int (1 : Int32), .ref 43]) (w1 := (wv x I2 J2)) hC187 2 rfl ?_
      exact k
    · have k := k.2 h
      refine wp_seg (C := gC187) (pc1 := 23) (Lo1 := [some (.ref 43), some (.int p1), some (.int p2)]) (st1' := [.int (0 : Int32), .ref 43]) (w1 := (wv x I2 J2)) hC187 1 rfl ?_
      exact k
set_option maxRecDepth 20000 in
theorem v187_43_23 {S : Nat × (Nat → Int32)} {d : Nat} {x : mX} {I : rI0} {J : rJ0} {l1 : Int32} {l2 : Int32} {s1 : Int32} {Q : Int32 → rI0 → rJ0 → Prop} (k : (wcI S d 146 [.ref 43, .int s1] x I J (fun r1 I1 J1 => ((r1 = (0 : Int32) → ((l2.toInt < 0 ∨ 3 < l2.toInt → (wcI S d 153 [.long (J1 43 17), .int l1] x I1 J1 (fun r2 I2 J2 => ((r2 = (0 : Int32) → Q (0 : Int32) I2 J2) ∧ (¬ r2 = (0 : Int32) → Q (1 : Int32) I2 J2))))) ∧ (l2.toInt = 0 → (¬ mOut ((6 : Int32) + l1) 681 ∧ Q ((I1 45 (((6 : Int32) + l1).toNatClampNeg)) - (1 : Int32)) I1 J1)) ∧ (l2.toInt = 1 → (wcI S d 188 [.ref 43, .int l1] x I1 J1 (fun r3 I3 J3 => Q r3 I3 J3))) ∧ (l2.toInt = 2 → (¬ mOut (1 : Int32) 681 ∧ (¬ (I1 45 ((1 : Int32).toNatClampNeg)) = 0 ∧ (¬ mOut ((78 : Int32) + (l1 / (I1 45 ((1 : Int32).toNatClampNeg)))) 681 ∧ Q ((I1 45 (((78 : Int32) + (l1 / (I1 45 ((1 : Int32).toNatClampNeg)))).toNatClampNeg)) - (1 : Int32)) I1 J1)))) ∧ (l2.toInt = 3 → (wcI S d 153 [.long (J1 43 16), .int l1] x I1 J1 (fun r4 I4 J4 => ((r4 = (0 : Int32) → Q (0 : Int32) I4 J4) ∧ (¬ r4 = (0 : Int32) → Q (1 : Int32) I4 J4))))) ∧ True)) ∧ (¬ r1 = (0 : Int32) → Q (0 : Int32) I1 J1))))) : wp S (d + 1) 187 23 [some (.ref 43), some (.int l1), some (.int l2)] [.int s1, .ref 43] (wv x I J) (rI x Q) := by
  refine cv_I (mj := 146) (a := 43) (as := [.int s1]) (r := []) rfl rfl rfl ⟨rfl, by decide, Nat.le_of_ble_eq_true rfl, Nat.le_of_ble_eq_true rfl⟩ rfl (wcI_mono k (fun r1 I1 J1 k => ?_))
  refine wi_eq (tgt := 31) rfl rfl (fun h => ?_) (fun h => ?_)
  · have k := k.1 h
    refine wp_seg (C := gC187) (pc1 := 32) (Lo1 := [some (.ref 43), some (.int l1), some (.int l2)]) (st1' := [.int l2]) (w1 := (wv x I1 J1)) hC187 1 rfl ?_
    refine wt_tab (nn := 4) rfl ⟨rfl, rfl⟩ (fun h => ?_) (fun i hi hx => ?_)
    · have k := k.1 h
      show wp S (d + 1) 187 118 [some (.ref 43), some (.int l1), some (.int l2)] [] (wv x I1 J1) (rI x Q)
      refine wp_seg (C := gC187) (pc1 := 123) (Lo1 := [some (.ref 43), some (.int l1), some (.int l2)]) (st1' := [.int l1, .long (J1 43 17)]) (w1 := (wv x I1 J1)) hC187 3 rfl ?_
      refine cs_I (mj := 153) (nn := 0) (as := [.long (J1 43 17), .int l1]) (r := []) rfl rfl rfl ⟨rfl, by decide, Nat.le_of_ble_eq_true rfl, Nat.le_of_ble_eq_true rfl⟩ (by decide) (wcI_mono k (fun r2 I2 J2 k => ?_))
      refine wi_eq (tgt := 133) rfl rfl (fun h => ?_) (fun h => ?_)
      · have k := k.1 h
        refine wp_seg (C := gC187) (pc1 := 134) (Lo1 := [some (.ref 43), some (.int l1), some (.int l2)]) (st1' := [.int (0 : Int32)]) (w1 := (wv x I2 J2)) hC187 1 rfl ?_
        exact we_i rfl rfl k
      · have k := k.2 h
        refine wp_seg (C := gC187) (pc1 := 134) (Lo1 := [some (.ref 43), some (.int l1), some (.int l2)]) (st1' := [.int (1 : Int32)]) (w1 := (wv x I2 J2)) hC187 2 rfl ?_
        exact we_i rfl rfl k
    · have k := k.2
      rcases (by omega : i = 0 ∨ i = 1 ∨ i = 2 ∨ i = 3) with rfl | rfl | rfl | rfl
      · have k := k.1 (by omega)
        show wp S (d + 1) 187 64 [some (.ref 43), some (.int l1), some (.int l2)] [] (wv x I1 J1) (rI x Q)
        refine wp_seg (C := gC187) (pc1 := 72) (Lo1 := [some (.ref 43), some (.int l1), some (.int l2)]) (st1' := [.int ((6 : Int32) + l1), .ref 45]) (w1 := (wv x I1 J1)) hC187 5 rfl ?_
        refine wa_i (n := 681) rfl (by decide) rfl k.1 ?_
        have k := k.2
        refine wp_seg (C := gC187) (pc1 := 75) (Lo1 := [some (.ref 43), some (.int l1), some (.int l2)]) (st1' := [.int ((I1 45 (((6 : Int32) + l1).toNatClampNeg)) - (1 : Int32))]) (w1 := (wv x I1 J1)) hC187 2 rfl ?_
        exact we_i rfl rfl k
      · have k := k.2.1 (by omega)
        show wp S (d + 1) 187 76 [some (.ref 43), some (.int l1), some (.int l2)] [] (wv x I1 J1) (rI x Q)
        refine wp_seg (C := gC187) (pc1 := 78) (Lo1 := [some (.ref 43), some (.int l1), some (.int l2)]) (st1' := [.int l1, .ref 43]) (w1 := (wv x I1 J1)) hC187 2 rfl ?_
        refine cv_I (mj := 188) (a := 43) (as := [.int l1]) (r := []) rfl rfl rfl ⟨rfl, by decide, Nat.le_of_ble_eq_true rfl, Nat.le_of_ble_eq_true rfl⟩ rfl (wcI_mono k (fun r3 I3 J3 k => ?_))
        exact we_i rfl rfl k
      · have k := k.2.2.1 (by omega)
        show wp S (d + 1) 187 82 [some (.ref 43), some (.int l1), some (.int l2)] [] (wv x I1 J1) (rI x Q)
        refine wp_seg (C := gC187) (pc1 := 94) (Lo1 := [some (.ref 43), some (.int l1), some (.int l2)]) (st1' := [.int (1 : Int32), .ref 45, .int l1, .int (78 : Int32), .ref 45]) (w1 := (wv x I1 J1)) hC187 7 rfl ?_
        refine wa_i (n := 681) rfl (by decide) rfl k.1 ?_
        have k := k.2
        refine wd_i rfl k.1 ?_
        have k := k.2
        refine wp_seg (C := gC187) (pc1 := 97) (Lo1 := [some (.ref 43), some (.int l1), some (.int l2)]) (st1' := [.int ((78 : Int32) + (l1 / (I1 45 ((1 : Int32).toNatClampNeg)))), .ref 45]) (w1 := (wv x I1 J1)) hC187 1 rfl ?_
        refine wa_i (n := 681) rfl (by decide) rfl k.1 ?_
        have k := k.2
        refine wp_seg (C := gC187) (pc1 := 100) (Lo1 := [some (.ref 43), some (.int l1), some (.int l2)]) (st1' := [.int ((I1 45 (((78 : Int32) + (l1 / (I1 45 ((1 : Int32).toNatClampNeg)))).toNatClampNeg)) - (1 : Int32))]) (w1 := (wv x I1 J1)) hC187 2 rfl ?_
        exact we_i rfl rfl k
      · have k := k.2.2.2.1 (by omega)
        show wp S (d + 1) 187 101 [some (.ref 43), some (.int l1), some (.int l2)] [] (wv x I1 J1) (rI x Q)
        refine wp_seg (C := gC187) (pc1 := 106) (Lo1 := [some (.ref 43), some (.int l1), some (.int l2)]) (st1' := [.int l1, .long (J1 43 16)]) (w1 := (wv x I1 J1)) hC187 3 rfl ?_
        refine cs_I (mj := 153) (nn := 0) (as := [.long (J1 43 16), .int l1]) (r := []) rfl rfl rfl ⟨rfl, by decide, Nat.le_of_ble_eq_true rfl, Nat.le_of_ble_eq_true rfl⟩ (by decide) (wcI_mono k (fun r4 I4 J4 k => ?_))
        refine wi_eq (tgt := 116) rfl rfl (fun h => ?_) (fun h => ?_)
        · have k := k.1 h
          refine wp_seg (C := gC187) (pc1 := 117) (Lo1 := [some (.ref 43), some (.int l1), some (.int l2)]) (st1' := [.int (0 : Int32)]) (w1 := (wv x I4 J4)) hC187 1 rfl ?_
          exact we_i rfl rfl k
        · have k := k.2 h
          refine wp_seg (C := gC187) (pc1 := 117) (Lo1 := [some (.ref 43), some (.int l1), some (.int l2)]) (st1' := [.int (1 : Int32)]) (w1 := (wv x I4 J4)) hC187 2 rfl ?_
          exact we_i rfl rfl k
  · have k := k.2 h
    refine wp_seg (C := gC187) (pc1 := 30) (Lo1 := [some (.ref 43), some (.int l1), some (.int l2)]) (st1' := [.int (0 : Int32)]) (w1 := (wv x I1 J1)) hC187 1 rfl ?_
    exact we_i rfl rfl k
set_option maxRecDepth 20000 in
theorem v188_43_0 {S : Nat × (Nat → Int32)} {d : Nat} {x : mX} {I : rI0} {J : rJ0} {p1 : Int32} {Q : Int32 → rI0 → rJ0 → Prop} (k : (¬ mOut (1 : Int32) 681 ∧ (¬ (I 45 ((1 : Int32).toNatClampNeg)) = 0 ∧ (¬ mOut ((70 : Int32) + (p1 / (I 45 ((1 : Int32).toNatClampNeg)))) 681 ∧ Q (I 45 (((70 : Int32) + (p1 / (I 45 ((1 : Int32).toNatClampNeg)))).toNatClampNeg)) I J)))) : wp S d 188 0 [some (.ref 43), some (.int p1)] [] (wv x I J) (rI x Q) := by
  refine wp_seg (C := gC188) (pc1 := 12) (Lo1 := [some (.ref 43), some (.int p1)]) (st1' := [.int (1 : Int32), .ref 45, .int p1, .int (70 : Int32), .ref 45]) (w1 := (wv x I J)) hC188 7 rfl ?_
  refine wa_i (n := 681) rfl (by decide) rfl k.1 ?_
  have k := k.2
  refine wd_i rfl k.1 ?_
  have k := k.2
  refine wp_seg (C := gC188) (pc1 := 15) (Lo1 := [some (.ref 43), some (.int p1)]) (st1' := [.int ((70 : Int32) + (p1 / (I 45 ((1 : Int32).toNatClampNeg)))), .ref 45]) (w1 := (wv x I J)) hC188 1 rfl ?_
  refine wa_i (n := 681) rfl (by decide) rfl k.1 ?_
  have k := k.2
  exact we_i rfl rfl k
set_option maxRecDepth 20000 in
theorem v189_43_0 {S : Nat × (Nat → Int32)} {d : Nat} {x : mX} {I : rI0} {J : rJ0} {p1 : Int32} {p2 : Int32} {Q : Int32 → rI0 → rJ0 → Prop} (k : (wcI S d 151 [.int p1, .int (0 : Int32), .int (5 : Int32)] x (mSet I 43 0 (0 : Int32)) J (fun r1 I1 J1 => ((r1 = (0 : Int32) → Q (-1 : Int32) I1 J1) ∧ (¬ r1 = (0 : Int32) → (wcI S d 151 [.int p2, .int (0 : Int32), .int (1 : Int32)] x I1 J1 (fun r2 I2 J2 => ((r2 = (0 : Int32) → Q (-1 : Int32) I2 J2) ∧ (¬ r2 = (0 : Int32) → (¬ mOut ((86 : Int32) + ((42 : Int32) * (((2 : Int32) * p1) + p2))) 681 ∧ (((I2 45 (((86 : Int32) + ((42 : Int32) * (((2 : Int32) * p1) + p2))).toNatClampNeg)) = (0 : Int32) → Q (-1 : Int32) I2 J2) ∧ (¬ (I2 45 (((86 : Int32) + ((42 : Int32) * (((2 : Int32) * p1) + p2))).toNatClampNeg)) = (0 : Int32) → Q (I2 45 (((86 : Int32) + ((42 : Int32) * (((2 : Int32) * p1) + p2))).toNatClampNeg)) I2 J2)))))))))))) : wp S (d + 1) 189 0 [some (.ref 43), some (.int p1), some (.int p2), none] [] (wv x I J) (rI x Q) := by
  refine wp_seg (C := gC189) (pc1 := 8) (Lo1 := [some (.ref 43), some (.int p1), some (.int p2), none]) (st1' := [.int (5 : Int32), .int (0 : Int32), .int p1]) (w1 := (wv x (mSet I 43 0 (0 : Int32)) J)) hC189 6 rfl ?_
  refine cs_I (mj := 151) (nn := 0) (as := [.int p1, .int (0 : Int32), .int (5 : Int32)]) (r := []) rfl rfl rfl ⟨rfl, by decide, Nat.le_of_ble_eq_true rfl, Nat.le_of_ble_eq_true rfl⟩ (by decide) (wcI_mono k (fun r1 I1 J1 k => ?_))
  refine wi_eq (tgt := 23) rfl rfl (fun h => ?_) (fun h => ?_)
  · have k := k.1 h
    refine wp_seg (C := gC189) (pc1 := 24) (Lo1 := [some (.ref 43), some (.int p1), some (.int p2), none]) (st1' := [.int (-1 : Int32)]) (w1 := (wv x I1 J1)) hC189 1 rfl ?_
    exact we_i rfl rfl k
  · have k := k.2 h
    refine wp_seg (C := gC189) (pc1 := 17) (Lo1 := [some (.ref 43), some (.int p1), some (.int p2), none]) (st1' := [.int (1 : Int32), .int (0 : Int32), .int p2]) (w1 := (wv x I1 J1)) hC189 3 rfl ?_
    refine cs_I (mj := 151) (nn := 0) (as := [.int p2, .int (0 : Int32), .int (1 : Int32)]) (r := []) rfl rfl rfl ⟨rfl, by decide, Nat.le_of_ble_eq_true rfl, Nat.le_of_ble_eq_true rfl⟩ (by decide) (wcI_mono k (fun r2 I2 J2 k => ?_))
    refine wi_ne (tgt := 25) rfl rfl (fun h => ?_) (fun h => ?_)
    · have k := k.1 h
      refine wp_seg (C := gC189) (pc1 := 24) (Lo1 := [some (.ref 43), some (.int p1), some (.int p2), none]) (st1' := [.int (-1 : Int32)]) (w1 := (wv x I2 J2)) hC189 1 rfl ?_
      exact we_i rfl rfl k
    · have k := k.2 h
      refine wp_seg (C := gC189) (pc1 := 40) (Lo1 := [some (.ref 43), some (.int p1), some (.int p2), none]) (st1' := [.int ((86 : Int32) + ((42 : Int32) * (((2 : Int32) * p1) + p2))), .ref 45]) (w1 := (wv x I2 J2)) hC189 11 rfl ?_
      refine wa_i (n := 681) rfl (by decide) rfl k.1 ?_
      have k := k.2
      refine wp_seg (C := gC189) (pc1 := 43) (Lo1 := [some (.ref 43), some (.int p1), some (.int p2), some (.int (I2 45 (((86 : Int32) + ((42 : Int32) * (((2 : Int32) * p1) + p2))).toNatClampNeg)))]) (st1' := [.int (I2 45 (((86 : Int32) + ((42 : Int32) * (((2 : Int32) * p1) + p2))).toNatClampNeg))]) (w1 := (wv x I2 J2)) hC189 2 rfl ?_
      refine wi_ne (tgt := 50) rfl rfl (fun h => ?_) (fun h => ?_)
      · have k := k.1 h
        refine wp_seg (C := gC189) (pc1 := 51) (Lo1 := [some (.ref 43), some (.int p1), some (.int p2), some (.int (I2 45 (((86 : Int32) + ((42 : Int32) * (((2 : Int32) * p1) + p2))).toNatClampNeg)))]) (st1' := [.int (-1 : Int32)]) (w1 := (wv x I2 J2)) hC189 2 rfl ?_
        exact we_i rfl rfl k
      · have k := k.2 h
        refine wp_seg (C := gC189) (pc1 := 51) (Lo1 := [some (.ref 43), some (.int p1), some (.int p2), some (.int (I2 45 (((86 : Int32) + ((42 : Int32) * (((2 : Int32) * p1) + p2))).toNatClampNeg)))]) (st1' := [.int (I2 45 (((86 : Int32) + ((42 : Int32) * (((2 : Int32) * p1) + p2))).toNatClampNeg))]) (w1 := (wv x I2 J2)) hC189 1 rfl ?_
        exact we_i rfl rfl k
set_option maxRecDepth 20000 in
theorem v190_43_0 {S : Nat × (Nat → Int32)} {d : Nat} {x : mX} {I : rI0} {J : rJ0} {p1 : Int32} {p2 : Int32} {Q : Int32 → rI0 → rJ0 → Prop} (k : (wcI S d 183 [.ref 43, .int p1] x (mSet I 43 0 (0 : Int32)) J (fun r1 I1 J1 => ((r1 = (0 : Int32) → Q (0 : Int32) I1 J1) ∧ (¬ r1 = (0 : Int32) → (wcI S d 151 [.int p2, .int (0 : Int32), .int (1 : Int32)] x I1 J1 (fun r2 I2 J2 => ((r2 = (0 : Int32) → Q (0 : Int32) I2 J2) ∧ (¬ r2 = (0 : Int32) → ((p2 = (1 : Int32) → Q (1 : Int32) I2 (mSet J2 43 16 ((J2 43 16) ||| ((1 : Int64) <<< (p1.toInt64 &&& 63))))) ∧ (¬ p2 = (1 : Int32) → Q (1 : Int32) I2 (mSet J2 43 16 ((J2 43 16) &&& (((1 : Int64) <<< (p1.toInt64 &&& 63)) ^^^ (-1 : Int64))))))))))))))) : wp S (d + 1) 190 0 [some (.ref 43), some (.int p1), some (.int p2)] [] (wv x I J) (rI x Q) := by
  refine wp_seg (C := gC190) (pc1 := 7) (Lo1 := [some (.ref 43), some (.int p1), some (.int p2)]) (st1' := [.int p1, .ref 43]) (w1 := (wv x (mSet I 43 0 (0 : Int32)) J)) hC190 5 rfl ?_
  refine cv_I (mj := 183) (a := 43) (as := [.int p1]) (r := []) rfl rfl rfl ⟨rfl, by decide, Nat.le_of_ble_eq_true rfl, Nat.le_of_ble_eq_true rfl⟩ rfl (wcI_mono k (fun r1 I1 J1 k => ?_))
  refine wi_eq (tgt := 22) rfl rfl (fun h => ?_) (fun h => ?_)
  · have k := k.1 h
    refine wp_seg (C := gC190) (pc1 := 23) (Lo1 := [some (.ref 43), some (.int p1), some (.int p2)]) (st1' := [.int (0 : Int32)]) (w1 := (wv x I1 J1)) hC190 1 rfl ?_
    exact we_z rfl rfl (Or.inl rfl) k
  · have k := k.2 h
    refine wp_seg (C := gC190) (pc1 := 16) (Lo1 := [some (.ref 43), some (.int p1), some (.int p2)]) (st1' := [.int (1 : Int32), .int (0 : Int32), .int p2]) (w1 := (wv x I1 J1)) hC190 3 rfl ?_
    refine cs_I (mj := 151) (nn := 0) (as := [.int p2, .int (0 : Int32), .int (1 : Int32)]) (r := []) rfl rfl rfl ⟨rfl, by decide, Nat.le_of_ble_eq_true rfl, Nat.le_of_ble_eq_true rfl⟩ (by decide) (wcI_mono k (fun r2 I2 J2 k => ?_))
    refine wi_ne (tgt := 24) rfl rfl (fun h => ?_) (fun h => ?_)
    · have k := k.1 h
      refine wp_seg (C := gC190) (pc1 := 23) (Lo1 := [some (.ref 43), some (.int p1), some (.int p2)]) (st1' := [.int (0 : Int32)]) (w1 := (wv x I2 J2)) hC190 1 rfl ?_
      exact we_z rfl rfl (Or.inl rfl) k
    · have k := k.2 h
      refine wp_seg (C := gC190) (pc1 := 27) (Lo1 := [some (.ref 43), some (.int p1), some (.int p2)]) (st1' := [.int (1 : Int32), .int p2, .ref 43]) (w1 := (wv x I2 J2)) hC190 3 rfl ?_
      refine wj_ne (tgt := 41) rfl rfl (fun h => ?_) (fun h => ?_)
      · have k := k.1 h
        refine wp_seg (C := gC190) (pc1 := 57) (Lo1 := [some (.ref 43), some (.int p1), some (.int p2)]) (st1' := [.int (1 : Int32)]) (w1 := (wv x I2 (mSet J2 43 16 ((J2 43 16) ||| ((1 : Int64) <<< (p1.toInt64 &&& 63)))))) hC190 9 rfl ?_
        exact we_z rfl rfl (Or.inr rfl) k
      · have k := k.2 h
        refine wp_seg (C := gC190) (pc1 := 57) (Lo1 := [some (.ref 43), some (.int p1), some (.int p2)]) (st1' := [.int (1 : Int32)]) (w1 := (wv x I2 (mSet J2 43 16 ((J2 43 16) &&& (((1 : Int64) <<< (p1.toInt64 &&& 63)) ^^^ (-1 : Int64)))))) hC190 10 rfl ?_
        exact we_z rfl rfl (Or.inr rfl) k
set_option maxRecDepth 20000 in
theorem v191_43_0 {S : Nat × (Nat → Int32)} {d : Nat} {x : mX} {I : rI0} {J : rJ0} {p1 : Int32} {p2 : Int32} {Q : Int32 → rI0 → rJ0 → Prop} (k : (wcI S d 183 [.ref 43, .int p1] x (mSet I 43 0 (0 : Int32)) J (fun r1 I1 J1 => ((r1 = (0 : Int32) → Q (0 : Int32) I1 J1) ∧ (¬ r1 = (0 : Int32) → (wcI S d 151 [.int p2, .int (0 : Int32), .int (1 : Int32)] x I1 J1 (fun r2 I2 J2 => ((r2 = (0 : Int32) → Q (0 : Int32) I2 J2) ∧ (¬ r2 = (0 : Int32) → ((p2 = (1 : Int32) → Q (1 : Int32) I2 (mSet J2 43 17 ((J2 43 17) ||| ((1 : Int64) <<< (p1.toInt64 &&& 63))))) ∧ (¬ p2 = (1 : Int32) → Q (1 : Int32) I2 (mSet J2 43 17 ((J2 43 17) &&& (((1 : Int64) <<< (p1.toInt64 &&& 63)) ^^^ (-1 : Int64))))))))))))))) : wp S (d + 1) 191 0 [some (.ref 43), some (.int p1), some (.int p2)] [] (wv x I J) (rI x Q) := by
  refine wp_seg (C := gC191) (pc1 := 7) (Lo1 := [some (.ref 43), some (.int p1), some (.int p2)]) (st1' := [.int p1, .ref 43]) (w1 := (wv x (mSet I 43 0 (0 : Int32)) J)) hC191 5 rfl ?_
  refine cv_I (mj := 183) (a := 43) (as := [.int p1]) (r := []) rfl rfl rfl ⟨rfl, by decide, Nat.le_of_ble_eq_true rfl, Nat.le_of_ble_eq_true rfl⟩ rfl (wcI_mono k (fun r1 I1 J1 k => ?_))
  refine wi_eq (tgt := 22) rfl rfl (fun h => ?_) (fun h => ?_)
  · have k := k.1 h
    refine wp_seg (C := gC191) (pc1 := 23) (Lo1 := [some (.ref 43), some (.int p1), some (.int p2)]) (st1' := [.int (0 : Int32)]) (w1 := (wv x I1 J1)) hC191 1 rfl ?_
    exact we_z rfl rfl (Or.inl rfl) k
  · have k := k.2 h
    refine wp_seg (C := gC191) (pc1 := 16) (Lo1 := [some (.ref 43), some (.int p1), some (.int p2)]) (st1' := [.int (1 : Int32), .int (0 : Int32), .int p2]) (w1 := (wv x I1 J1)) hC191 3 rfl ?_
    refine cs_I (mj := 151) (nn := 0) (as := [.int p2, .int (0 : Int32), .int (1 : Int32)]) (r := []) rfl rfl rfl ⟨rfl, by decide, Nat.le_of_ble_eq_true rfl, Nat.le_of_ble_eq_true rfl⟩ (by decide) (wcI_mono k (fun r2 I2 J2 k => ?_))
    refine wi_ne (tgt := 24) rfl rfl (fun h => ?_) (fun h => ?_)
    · have k := k.1 h
      refine wp_seg (C := gC191) (pc1 := 23) (Lo1 := [some (.ref 43), some (.int p1), some (.int p2)]) (st1' := [.int (0 : Int32)]) (w1 := (wv x I2 J2)) hC191 1 rfl ?_
      exact we_z rfl rfl (Or.inl rfl) k
    · have k := k.2 h
      refine wp_seg (C := gC191) (pc1 := 27) (Lo1 := [some (.ref 43), some (.int p1), some (.int p2)]) (st1' := [.int (1 : Int32), .int p2, .ref 43]) (w1 := (wv x I2 J2)) hC191 3 rfl ?_
      refine wj_ne (tgt := 41) rfl rfl (fun h => ?_) (fun h => ?_)
      · have k := k.1 h
        refine wp_seg (C := gC191) (pc1 := 57) (Lo1 := [some (.ref 43), some (.int p1), some (.int p2)]) (st1' := [.int (1 : Int32)]) (w1 := (wv x I2 (mSet J2 43 17 ((J2 43 17) ||| ((1 : Int64) <<< (p1.toInt64 &&& 63)))))) hC191 9 rfl ?_
        exact we_z rfl rfl (Or.inr rfl) k
      · have k := k.2 h
        refine wp_seg (C := gC191) (pc1 := 57) (Lo1 := [some (.ref 43), some (.int p1), some (.int p2)]) (st1' := [.int (1 : Int32)]) (w1 := (wv x I2 (mSet J2 43 17 ((J2 43 17) &&& (((1 : Int64) <<< (p1.toInt64 &&& 63)) ^^^ (-1 : Int64)))))) hC191 10 rfl ?_
        exact we_z rfl rfl (Or.inr rfl) k
set_option maxRecDepth 20000 in
theorem v192_43_0 {S : Nat × (Nat → Int32)} {d : Nat} {x : mX} {I : rI0} {J : rJ0} {Q : Int32 → rI0 → rJ0 → Prop} (k : (wcI S d 163 [.ref 43, .long (24948 : Int64)] x I J (fun r1 I1 J1 => ((r1 = (0 : Int32) → (wcI S d 162 [.ref 43, .int (1 : Int32)] x I1 J1 (fun r2 I2 J2 => ((r2 = 0 ∨ r2 = 1) ∧ Q r2 I2 J2)))) ∧ (¬ r1 = (0 : Int32) → (((I1 43 31) = (30 : Int32) → (wcI S d 162 [.ref 43, .int (4 : Int32)] x I1 J1 (fun r3 I3 J3 => ((r3 = 0 ∨ r3 = 1) ∧ Q r3 I3 J3)))) ∧ (¬ (I1 43 31) = (30 : Int32) → (wcV S d 161 [.ref 43] x I1 J1 (fun I4 J4 => (((I4 43 31) = (0 : Int32) → wp S (d + 1) 192 62 [some (.ref 43), some (.int ((3 : Int32) * (I4 43 31))), none, none] [.int (0 : Int32), .ref 43] (wv x I4 J4) (rI x Q)) ∧ (¬ (I4 43 31) = (0 : Int32) → (¬ mOut (((3 : Int32) * (I4 43 31)) - (3 : Int32)) 90 ∧ wp S (d + 1) 192 62 [some (.ref 43), some (.int ((3 : Int32) * (I4 43 31))), none, none] [.int (I4 47 ((((3 : Int32) * (I4 43 31)) - (3 : Int32)).toNatClampNeg)), .ref 43] (wv x I4 J4) (rI x Q))))))))))))) : wp S (d + 1) 192 0 [some (.ref 43), none, none, none] [] (wv x I J) (rI x Q) := by
  refine wp_seg (C := gC192) (pc1 := 4) (Lo1 := [some (.ref 43), none, none, none]) (st1' := [.long (24948 : Int64), .ref 43]) (w1 := (wv x I J)) hC192 2 rfl ?_
  refine cv_I (mj := 163) (a := 43) (as := [.long (24948 : Int64)]) (r := []) rfl rfl rfl ⟨rfl, by decide, Nat.le_of_ble_eq_true rfl, Nat.le_of_ble_eq_true rfl⟩ rfl (wcI_mono k (fun r1 I1 J1 k => ?_))
  refine wi_ne (tgt := 16) rfl rfl (fun h => ?_) (fun h => ?_)
  · have k := k.1 h
    refine wp_seg (C := gC192) (pc1 := 12) (Lo1 := [some (.ref 43), none, none, none]) (st1' := [.int (1 : Int32), .ref 43]) (w1 := (wv x I1 J1)) hC192 2 rfl ?_
    refine cv_I (mj := 162) (a := 43) (as := [.int (1 : Int32)]) (r := []) rfl rfl rfl ⟨rfl, by decide, Nat.le_of_ble_eq_true rfl, Nat.le_of_ble_eq_true rfl⟩ rfl (wcI_mono k (fun r2 I2 J2 k => ?_))
    exact we_z rfl rfl k.1 k.2
  · have k := k.2 h
    refine wp_seg (C := gC192) (pc1 := 22) (Lo1 := [some (.ref 43), none, none, none]) (st1' := [.int (30 : Int32), .int (I1 43 31)]) (w1 := (wv x I1 J1)) hC192 3 rfl ?_
    refine wj_ne (tgt := 31) rfl rfl (fun h => ?_) (fun h => ?_)
    · have k := k.1 h
      refine wp_seg (C := gC192) (pc1 := 27) (Lo1 := [some (.ref 43), none, none, none]) (st1' := [.int (4 : Int32), .ref 43]) (w1 := (wv x I1 J1)) hC192 2 rfl ?_
      refine cv_I (mj := 162) (a := 43) (as := [.int (4 : Int32)]) (r := []) rfl rfl rfl ⟨rfl, by decide, Nat.le_of_ble_eq_true rfl, Nat.le_of_ble_eq_true rfl⟩ rfl (wcI_mono k (fun r3 I3 J3 k => ?_))
      exact we_z rfl rfl k.1 k.2
    · have k := k.2 h
      refine wp_seg (C := gC192) (pc1 := 32) (Lo1 := [some (.ref 43), none, none, none]) (st1' := [.ref 43]) (w1 := (wv x I1 J1)) hC192 1 rfl ?_
      refine cv_V (mj := 161) (a := 43) (as := []) (r := []) rfl rfl rfl ⟨rfl, by decide, Nat.le_of_ble_eq_true rfl, Nat.le_of_ble_eq_true rfl⟩ rfl (wcV_mono k (fun I4 J4 k => ?_))
      refine wp_seg (C := gC192) (pc1 := 47) (Lo1 := [some (.ref 43), some (.int ((3 : Int32) * (I4 43 31))), none, none]) (st1' := [.int (I4 43 31), .ref 43]) (w1 := (wv x I4 J4)) hC192 8 rfl ?_
      refine wi_ne (tgt := 54) rfl rfl (fun h => ?_) (fun h => ?_)
      · have k := k.1 h
        refine wp_seg (C := gC192) (pc1 := 62) (Lo1 := [some (.ref 43), some (.int ((3 : Int32) * (I4 43 31))), none, none]) (st1' := [.int (0 : Int32), .ref 43]) (w1 := (wv x I4 J4)) hC192 2 rfl ?_
        exact k
      · have k := k.2 h
        refine wp_seg (C := gC192) (pc1 := 61) (Lo1 := [some (.ref 43), some (.int ((3 : Int32) * (I4 43 31))), none, none]) (st1' := [.int (((3 : Int32) * (I4 43 31)) - (3 : Int32)), .ref 47, .ref 43]) (w1 := (wv x I4 J4)) hC192 5 rfl ?_
        refine wa_i (n := 90) rfl (by decide) rfl k.1 ?_
        have k := k.2
        exact k
set_option maxRecDepth 20000 in
theorem v192_43_62 {S : Nat × (Nat → Int32)} {d : Nat} {x : mX} {I : rI0} {J : rJ0} {l1 : Int32} {s1 : Int32} {Q : Int32 → rI0 → rJ0 → Prop} (k : (wcI S d 166 [.ref 43, .int s1, .int (600 : Int32)] x I J (fun r1 I1 J1 => ((r1 = (0 : Int32) → Q (0 : Int32) I1 J1) ∧ (¬ r1 = (0 : Int32) → (¬ mOut l1 90 ∧ (wcI S d 163 [.ref 43, .long (7364985 : Int64)] x (mSet I1 47 l1.toNatClampNeg (I1 43 18)) J1 (fun r2 I2 J2 => ((r2 = (0 : Int32) → (wcI S d 163 [.ref 43, .long (1751741299 : Int64)] x I2 J2 (fun r3 I3 J3 => ((r3 = (0 : Int32) → (wcI S d 163 [.ref 43, .long (1718773093 : Int64)] x I3 J3 (fun r4 I4 J4 => ((r4 = (0 : Int32) → (wcI S d 163 [.ref 43, .long (495874305132 : Int64)] x I4 J4 (fun r5 I5 J5 => ((r5 = (0 : Int32) → wp S (d + 1) 192 140 [some (.ref 43), some (.int l1), none, none] [.int (-1 : Int32)] (wv x I5 J5) (rI x Q)) ∧ (¬ r5 = (0 : Int32) → wp S (d + 1) 192 140 [some (.ref 43), some (.int l1), none, none] [.int (3 : Int32)] (wv x I5 J5) (rI x Q)))))) ∧ (¬ r4 = (0 : Int32) → wp S (d + 1) 192 140 [some (.ref 43), some (.int l1), none, none] [.int (2 : Int32)] (wv x I4 J4) (rI x Q)))))) ∧ (¬ r3 = (0 : Int32) → wp S (d + 1) 192 140 [some (.ref 43), some (.int l1), none, none] [.int (1 : Int32)] (wv x I3 J3) (rI x Q)))))) ∧ (¬ r2 = (0 : Int32) → wp S (d + 1) 192 140 [some (.ref 43), some (.int l1), none, none] [.int (0 : Int32)] (wv x I2 J2) (rI x Q))))))))))) : wp S (d + 1) 192 62 [some (.ref 43), some (.int l1), none, none] [.int s1, .ref 43] (wv x I J) (rI x Q) := by
  refine wp_seg (C := gC192) (pc1 := 65) (Lo1 := [some (.ref 43), some (.int l1), none, none]) (st1' := [.int (600 : Int32), .int s1, .ref 43]) (w1 := (wv x I J)) hC192 1 rfl ?_
  refine cv_I (mj := 166) (a := 43) (as := [.int s1, .int (600 : Int32)]) (r := []) rfl rfl rfl ⟨rfl, by decide, Nat.le_of_ble_eq_true rfl, Nat.le_of_ble_eq_true rfl⟩ rfl (wcI_mono k (fun r1 I1 J1 k => ?_))
  refine wi_ne (tgt := 73) rfl rfl (fun h => ?_) (fun h => ?_)
  · have k := k.1 h
    refine wp_seg (C := gC192) (pc1 := 72) (Lo1 := [some (.ref 43), some (.int l1), none, none]) (st1' := [.int (0 : Int32)]) (w1 := (wv x I1 J1)) hC192 1 rfl ?_
    exact we_z rfl rfl (Or.inl rfl) k
  · have k := k.2 h
    refine wp_seg (C := gC192) (pc1 := 82) (Lo1 := [some (.ref 43), some (.int l1), none, none]) (st1' := [.int (I1 43 18), .int l1, .ref 47]) (w1 := (wv x I1 J1)) hC192 5 rfl ?_
    refine ws_i (n := 90) rfl rfl k.1 ?_
    have k := k.2
    refine wp_seg (C := gC192) (pc1 := 87) (Lo1 := [some (.ref 43), some (.int l1), none, none]) (st1' := [.long (7364985 : Int64), .ref 43]) (w1 := (wv x (mSet I1 47 l1.toNatClampNeg (I1 43 18)) J1)) hC192 2 rfl ?_
    refine cv_I (mj := 163) (a := 43) (as := [.long (7364985 : Int64)]) (r := []) rfl rfl rfl ⟨rfl, by decide, Nat.le_of_ble_eq_true rfl, Nat.le_of_ble_eq_true rfl⟩ rfl (wcI_mono k (fun r2 I2 J2 k => ?_))
    refine wi_eq (tgt := 97) rfl rfl (fun h => ?_) (fun h => ?_)
    · have k := k.1 h
      refine wp_seg (C := gC192) (pc1 := 101) (Lo1 := [some (.ref 43), some (.int l1), none, none]) (st1' := [.long (1751741299 : Int64), .ref 43]) (w1 := (wv x I2 J2)) hC192 2 rfl ?_
      refine cv_I (mj := 163) (a := 43) (as := [.long (1751741299 : Int64)]) (r := []) rfl rfl rfl ⟨rfl, by decide, Nat.le_of_ble_eq_true rfl, Nat.le_of_ble_eq_true rfl⟩ rfl (wcI_mono k (fun r3 I3 J3 k => ?_))
      refine wi_eq (tgt := 111) rfl rfl (fun h => ?_) (fun h => ?_)
      · have k := k.1 h
        refine wp_seg (C := gC192) (pc1 := 115) (Lo1 := [some (.ref 43), some (.int l1), none, none]) (st1' := [.long (1718773093 : Int64), .ref 43]) (w1 := (wv x I3 J3)) hC192 2 rfl ?_
        refine cv_I (mj := 163) (a := 43) (as := [.long (1718773093 : Int64)]) (r := []) rfl rfl rfl ⟨rfl, by decide, Nat.le_of_ble_eq_true rfl, Nat.le_of_ble_eq_true rfl⟩ rfl (wcI_mono k (fun r4 I4 J4 k => ?_))
        refine wi_eq (tgt := 125) rfl rfl (fun h => ?_) (fun h => ?_)
        · have k := k.1 h
          refine wp_seg (C := gC192) (pc1 := 129) (Lo1 := [some (.ref 43), some (.int l1), none, none]) (st1' := [.long (495874305132 : Int64), .ref 43]) (w1 := (wv x I4 J4)) hC192 2 rfl ?_
          refine cv_I (mj := 163) (a := 43) (as := [.long (495874305132 : Int64)]) (r := []) rfl rfl rfl ⟨rfl, by decide, Nat.le_of_ble_eq_true rfl, Nat.le_of_ble_eq_true rfl⟩ rfl (wcI_mono k (fun r5 I5 J5 k => ?_))
          refine wi_eq (tgt := 139) rfl rfl (fun h => ?_) (fun h => ?_)
          · have k := k.1 h
            refine wp_seg (C := gC192) (pc1 := 140) (Lo1 := [some (.ref 43), some (.int l1), none, none]) (st1' := [.int (-1 : Int32)]) (w1 := (wv x I5 J5)) hC192 1 rfl ?_
            exact k
          · have k := k.2 h
            refine wp_seg (C := gC192) (pc1 := 140) (Lo1 := [some (.ref 43), some (.int l1), none, none]) (st1' := [.int (3 : Int32)]) (w1 := (wv x I5 J5)) hC192 2 rfl ?_
            exact k
        · have k := k.2 h
          refine wp_seg (C := gC192) (pc1 := 140) (Lo1 := [some (.ref 43), some (.int l1), none, none]) (st1' := [.int (2 : Int32)]) (w1 := (wv x I4 J4)) hC192 2 rfl ?_
          exact k
      · have k := k.2 h
        refine wp_seg (C := gC192) (pc1 := 140) (Lo1 := [some (.ref 43), some (.int l1), none, none]) (st1' := [.int (1 : Int32)]) (w1 := (wv x I3 J3)) hC192 2 rfl ?_
        exact k
    · have k := k.2 h
      refine wp_seg (C := gC192) (pc1 := 140) (Lo1 := [some (.ref 43), some (.int l1), none, none]) (st1' := [.int (0 : Int32)]) (w1 := (wv x I2 J2)) hC192 2 rfl ?_
      exact k
set_option maxRecDepth 20000 in
theorem v192_43_140 {S : Nat × (Nat → Int32)} {d : Nat} {x : mX} {I : rI0} {J : rJ0} {l1 : Int32} {s0 : Int32} {Q : Int32 → rI0 → rJ0 → Prop} (k : ((s0 < (0 : Int32) → (wcI S d 162 [.ref 43, .int (1 : Int32)] x I J (fun r1 I1 J1 => ((r1 = 0 ∨ r1 = 1) ∧ Q r1 I1 J1)))) ∧ (¬ s0 < (0 : Int32) → (¬ mOut (l1 + (1 : Int32)) 90 ∧ (¬ mOut (l1 + (2 : Int32)) 90 ∧ (wcV S d 161 [.ref 43] x (mSet (mSet I 47 ((l1 + (1 : Int32)).toNatClampNeg) s0) 47 ((l1 + (2 : Int32)).toNatClampNeg) (-1 : Int32)) J (fun I2 J2 => ((s0 = (3 : Int32) → Q (1 : Int32) I2 J2) ∧ (¬ s0 = (3 : Int32) → (¬ mOut (0 : Int32) 681 ∧ (wcI S d 166 [.ref 43, .int (0 : Int32), .int ((I2 45 ((0 : Int32).toNatClampNeg)) - (1 : Int32))] x I2 J2 (fun r3 I3 J3 => ((r3 = (0 : Int32) → Q (0 : Int32) I3 J3) ∧ (¬ r3 = (0 : Int32) → (((I3 43 9) = (2 : Int32) → (wcI S d 184 [.ref 43, .int (I3 43 18), .int (I3 43 12)] x I3 J3 (fun r4 I4 J4 => ((r4 = (0 : Int32) → (wcI S d 162 [.ref 43, .int (2 : Int32)] x I4 J4 (fun r5 I5 J5 => ((r5 = 0 ∨ r5 = 1) ∧ Q r5 I5 J5)))) ∧ (¬ r4 = (0 : Int32) → (¬ mOut (1 : Int32) 681 ∧ (¬ mOut (l1 + (2 : Int32)) 90 ∧ (wcV S d 161 [.ref 43] x (mSet I4 47 ((l1 + (2 : Int32)).toNatClampNeg) (((I4 45 ((1 : Int32).toNatClampNeg)) * (I3 43 18)) + (I4 43 12))) J4 (fun I6 J6 => Q (1 : Int32) I6 J6))))))))) ∧ (¬ (I3 43 9) = (2 : Int32) → (wcI S d 162 [.ref 43, .int (1 : Int32)] x I3 J3 (fun r7 I7 J7 => ((r7 = 0 ∨ r7 = 1) ∧ Q r7 I7 J7))))))))))))))))))) : wp S (d + 1) 192 140 [some (.ref 43), some (.int l1), none, none] [.int s0] (wv x I J) (rI x Q) := by
  refine wp_seg (C := gC192) (pc1 := 142) (Lo1 := [some (.ref 43), some (.int l1), some (.int s0), none]) (st1' := [.int s0]) (w1 := (wv x I J)) hC192 2 rfl ?_
  refine wi_ge (tgt := 151) rfl rfl (fun h => ?_) (fun h => ?_)
  · have k := k.1 h
    refine wp_seg (C := gC192) (pc1 := 147) (Lo1 := [some (.ref 43), some (.int l1), some (.int s0), none]) (st1' := [.int (1 : Int32), .ref 43]) (w1 := (wv x I J)) hC192 2 rfl ?_
    refine cv_I (mj := 162) (a := 43) (as := [.int (1 : Int32)]) (r := []) rfl rfl rfl ⟨rfl, by decide, Nat.le_of_ble_eq_true rfl, Nat.le_of_ble_eq_true rfl⟩ rfl (wcI_mono k (fun r1 I1 J1 k => ?_))
    exact we_z rfl rfl k.1 k.2
  · have k := k.2 h
    refine wp_seg (C := gC192) (pc1 := 159) (Lo1 := [some (.ref 43), some (.int l1), some (.int s0), none]) (st1' := [.int s0, .int (l1 + (1 : Int32)), .ref 47]) (w1 := (wv x I J)) hC192 6 rfl ?_
    refine ws_i (n := 90) rfl rfl k.1 ?_
    have k := k.2
    refine wp_seg (C := gC192) (pc1 := 168) (Lo1 := [some (.ref 43), some (.int l1), some (.int s0), none]) (st1' := [.int (-1 : Int32), .int (l1 + (2 : Int32)), .ref 47]) (w1 := (wv x (mSet I 47 ((l1 + (1 : Int32)).toNatClampNeg) s0) J)) hC192 6 rfl ?_
    refine ws_i (n := 90) rfl rfl k.1 ?_
    have k := k.2
    refine wp_seg (C := gC192) (pc1 := 170) (Lo1 := [some (.ref 43), some (.int l1), some (.int s0), none]) (st1' := [.ref 43]) (w1 := (wv x (mSet (mSet I 47 ((l1 + (1 : Int32)).toNatClampNeg) s0) 47 ((l1 + (2 : Int32)).toNatClampNeg) (-1 : Int32)) J)) hC192 1 rfl ?_
    refine cv_V (mj := 161) (a := 43) (as := []) (r := []) rfl rfl rfl ⟨rfl, by decide, Nat.le_of_ble_eq_true rfl, Nat.le_of_ble_eq_true rfl⟩ rfl (wcV_mono k (fun I2 J2 k => ?_))
    refine wp_seg (C := gC192) (pc1 := 175) (Lo1 := [some (.ref 43), some (.int l1), some (.int s0), none]) (st1' := [.int (3 : Int32), .int s0]) (w1 := (wv x I2 J2)) hC192 2 rfl ?_
    refine wj_ne (tgt := 180) rfl rfl (fun h => ?_) (fun h => ?_)
    · have k := k.1 h
      refine wp_seg (C := gC192) (pc1 := 179) (Lo1 := [some (.ref 43), some (.int l1), some (.int s0), none]) (st1' := [.int (1 : Int32)]) (w1 := (wv x I2 J2)) hC192 1 rfl ?_
      exact we_z rfl rfl (Or.inr rfl) k
    · have k := k.2 h
      refine wp_seg (C := gC192) (pc1 := 187) (Lo1 := [some (.ref 43), some (.int l1), some (.int s0), none]) (st1' := [.int (0 : Int32), .ref 45, .int (0 : Int32), .ref 43]) (w1 := (wv x I2 J2)) hC192 5 rfl ?_
      refine wa_i (n := 681) rfl (by decide) rfl k.1 ?_
      have k := k.2
      refine wp_seg (C := gC192) (pc1 := 190) (Lo1 := [some (.ref 43), some (.int l1), some (.int s0), none]) (st1' := [.int ((I2 45 ((0 : Int32).toNatClampNeg)) - (1 : Int32)), .int (0 : Int32), .ref 43]) (w1 := (wv x I2 J2)) hC192 2 rfl ?_
      refine cv_I (mj := 166) (a := 43) (as := [.int (0 : Int32), .int ((I2 45 ((0 : Int32).toNatClampNeg)) - (1 : Int32))]) (r := []) rfl rfl rfl ⟨rfl, by decide, Nat.le_of_ble_eq_true rfl, Nat.le_of_ble_eq_true rfl⟩ rfl (wcI_mono k (fun r3 I3 J3 k => ?_))
      refine wi_ne (tgt := 198) rfl rfl (fun h => ?_) (fun h => ?_)
      · have k := k.1 h
        refine wp_seg (C := gC192) (pc1 := 197) (Lo1 := [some (.ref 43), some (.int l1), some (.int s0), none]) (st1' := [.int (0 : Int32)]) (w1 := (wv x I3 J3)) hC192 1 rfl ?_
        exact we_z rfl rfl (Or.inl rfl) k
      · have k := k.2 h
        refine wp_seg (C := gC192) (pc1 := 208) (Lo1 := [some (.ref 43), some (.int l1), some (.int s0), some (.int (I3 43 18))]) (st1' := [.int (2 : Int32), .int (I3 43 9)]) (w1 := (wv x I3 J3)) hC192 6 rfl ?_
        refine wj_eq (tgt := 217) rfl rfl (fun h => ?_) (fun h => ?_)
        · have k := k.1 h
          refine wp_seg (C := gC192) (pc1 := 223) (Lo1 := [some (.ref 43), some (.int l1), some (.int s0), some (.int (I3 43 18))]) (st1' := [.int (I3 43 12), .int (I3 43 18), .ref 43]) (w1 := (wv x I3 J3)) hC192 4 rfl ?_
          refine cv_I (mj := 184) (a := 43) (as := [.int (I3 43 18), .int (I3 43 12)]) (r := []) rfl rfl rfl ⟨rfl, by decide, Nat.le_of_ble_eq_true rfl, Nat.le_of_ble_eq_true rfl⟩ rfl (wcI_mono k (fun r4 I4 J4 k => ?_))
          refine wi_ne (tgt := 235) rfl rfl (fun h => ?_) (fun h => ?_)
          · have k := k.1 h
            refine wp_seg (C := gC192) (pc1 := 231) (Lo1 := [some (.ref 43), some (.int l1), some (.int s0), some (.int (I3 43 18))]) (st1' := [.int (2 : Int32), .ref 43]) (w1 := (wv x I4 J4)) hC192 2 rfl ?_
            refine cv_I (mj := 162) (a := 43) (as := [.int (2 : Int32)]) (r := []) rfl rfl rfl ⟨rfl, by decide, Nat.le_of_ble_eq_true rfl, Nat.le_of_ble_eq_true rfl⟩ rfl (wcI_mono k (fun r5 I5 J5 k => ?_))
            exact we_z rfl rfl k.1 k.2
          · have k := k.2 h
            refine wp_seg (C := gC192) (pc1 := 247) (Lo1 := [some (.ref 43), some (.int l1), some (.int s0), some (.int (I3 43 18))]) (st1' := [.int (1 : Int32), .ref 45, .int (l1 + (2 : Int32)), .ref 47]) (w1 := (wv x I4 J4)) hC192 8 rfl ?_
            refine wa_i (n := 681) rfl (by decide) rfl k.1 ?_
            have k := k.2
            refine wp_seg (C := gC192) (pc1 := 255) (Lo1 := [some (.ref 43), some (.int l1), some (.int s0), some (.int (I3 43 18))]) (st1' := [.int (((I4 45 ((1 : Int32).toNatClampNeg)) * (I3 43 18)) + (I4 43 12)), .int (l1 + (2 : Int32)), .ref 47]) (w1 := (wv x I4 J4)) hC192 5 rfl ?_
            refine ws_i (n := 90) rfl rfl k.1 ?_
            have k := k.2
            refine wp_seg (C := gC192) (pc1 := 257) (Lo1 := [some (.ref 43), some (.int l1), some (.int s0), some (.int (I3 43 18))]) (st1' := [.ref 43]) (w1 := (wv x (mSet I4 47 ((l1 + (2 : Int32)).toNatClampNeg) (((I4 45 ((1 : Int32).toNatClampNeg)) * (I3 43 18)) + (I4 43 12))) J4)) hC192 1 rfl ?_
            refine cv_V (mj := 161) (a := 43) (as := []) (r := []) rfl rfl rfl ⟨rfl, by decide, Nat.le_of_ble_eq_true rfl, Nat.le_of_ble_eq_true rfl⟩ rfl (wcV_mono k (fun I6 J6 k => ?_))
            refine wp_seg (C := gC192) (pc1 := 261) (Lo1 := [some (.ref 43), some (.int l1), some (.int s0), some (.int (I3 43 18))]) (st1' := [.int (1 : Int32)]) (w1 := (wv x I6 J6)) hC192 1 rfl ?_
            exact we_z rfl rfl (Or.inr rfl) k
        · have k := k.2 h
          refine wp_seg (C := gC192) (pc1 := 213) (Lo1 := [some (.ref 43), some (.int l1), some (.int s0), some (.int (I3 43 18))]) (st1' := [.int (1 : Int32), .ref 43]) (w1 := (wv x I3 J3)) hC192 2 rfl ?_
          refine cv_I (mj := 162) (a := 43) (as := [.int (1 : Int32)]) (r := []) rfl rfl rfl ⟨rfl, by decide, Nat.le_of_ble_eq_true rfl, Nat.le_of_ble_eq_true rfl⟩ rfl (wcI_mono k (fun r7 I7 J7 k => ?_))
          exact we_z rfl rfl k.1 k.2
set_option maxRecDepth 20000 in
theorem v193_43_0 {S : Nat × (Nat → Int32)} {d : Nat} {x : mX} {I : rI0} {J : rJ0} {Q : Int32 → rI0 → rJ0 → Prop} (k : (wcV S d 150 [.ref 43, .int (400 : Int32)] x (mSet I 43 0 (0 : Int32)) J (fun I1 J1 => (wcV S d 161 [.ref 43] x (mSet (mSet I1 43 13 (0 : Int32)) 43 31 (0 : Int32)) J1 (fun I2 J2 => wp S (d + 1) 193 26 [some (.ref 43), none] [] (wv x I2 J2) (rI x Q)))))) : wp S (d + 1) 193 0 [some (.ref 43), none] [] (wv x I J) (rI x Q) := by
  refine wp_seg (C := gC193) (pc1 := 9) (Lo1 := [some (.ref 43), none]) (st1' := [.int (400 : Int32), .ref 43]) (w1 := (wv x (mSet I 43 0 (0 : Int32)) J)) hC193 5 rfl ?_
  refine cv_V (mj := 150) (a := 43) (as := [.int (400 : Int32)]) (r := []) rfl rfl rfl ⟨rfl, by decide, Nat.le_of_ble_eq_true rfl, Nat.le_of_ble_eq_true rfl⟩ rfl (wcV_mono k (fun I1 J1 k => ?_))
  refine wp_seg (C := gC193) (pc1 := 23) (Lo1 := [some (.ref 43), none]) (st1' := [.ref 43]) (w1 := (wv x (mSet (mSet I1 43 13 (0 : Int32)) 43 31 (0 : Int32)) J1)) hC193 7 rfl ?_
  refine cv_V (mj := 161) (a := 43) (as := []) (r := []) rfl rfl rfl ⟨rfl, by decide, Nat.le_of_ble_eq_true rfl, Nat.le_of_ble_eq_true rfl⟩ rfl (wcV_mono k (fun I2 J2 k => ?_))
  exact k
set_option maxRecDepth 20000 in
theorem v193_43_26 {S : Nat × (Nat → Int32)} {d : Nat} {x : mX} {I : rI0} {J : rJ0} {Q : Int32 → rI0 → rJ0 → Prop} (k : (((I 43 9) = (0 : Int32) → (¬ mOut (590 : Int32) 681 ∧ wp S (d + 1) 193 83 [some (.ref 43), some (.int (0 : Int32))] [] (wv x (mSet I 45 ((590 : Int32).toNatClampNeg) (I 43 31)) J) (rI x Q))) ∧ (¬ (I 43 9) = (0 : Int32) → (wcI S d 192 [.ref 43] x I J (fun r1 I1 J1 => ((r1 = (0 : Int32) → Q ((-1 : Int32) - (I1 43 14)) I1 J1) ∧ (¬ r1 = (0 : Int32) → (wcI S d 165 [.ref 43, .int (59 : Int32)] x I1 J1 (fun r2 I2 J2 => ((r2 = (0 : Int32) → Q ((-1 : Int32) - (I2 43 14)) I2 J2) ∧ (¬ r2 = (0 : Int32) → wp S (d + 1) 193 26 [some (.ref 43), none] [] (wv x (mSet I2 43 31 ((I2 43 31) + (1 : Int32))) J2) (rI x Q)))))))))))) : wp S (d + 1) 193 26 [some (.ref 43), none] [] (wv x I J) (rI x Q) := by
  refine wp_seg (C := gC193) (pc1 := 30) (Lo1 := [some (.ref 43), none]) (st1' := [.int (I 43 9)]) (w1 := (wv x I J)) hC193 2 rfl ?_
  refine wi_eq (tgt := 69) rfl rfl (fun h => ?_) (fun h => ?_)
  · have k := k.1 h
    refine wp_seg (C := gC193) (pc1 := 80) (Lo1 := [some (.ref 43), none]) (st1' := [.int (I 43 31), .int (590 : Int32), .ref 45]) (w1 := (wv x I J)) hC193 5 rfl ?_
    refine ws_i (n := 681) rfl rfl k.1 ?_
    have k := k.2
    refine wp_seg (C := gC193) (pc1 := 83) (Lo1 := [some (.ref 43), some (.int (0 : Int32))]) (st1' := []) (w1 := (wv x (mSet I 45 ((590 : Int32).toNatClampNeg) (I 43 31)) J)) hC193 2 rfl ?_
    exact k
  · have k := k.2 h
    refine wp_seg (C := gC193) (pc1 := 34) (Lo1 := [some (.ref 43), none]) (st1' := [.ref 43]) (w1 := (wv x I J)) hC193 1 rfl ?_
    refine cv_I (mj := 192) (a := 43) (as := []) (r := []) rfl rfl rfl ⟨rfl, by decide, Nat.le_of_ble_eq_true rfl, Nat.le_of_ble_eq_true rfl⟩ rfl (wcI_mono k (fun r1 I1 J1 k => ?_))
    refine wi_eq (tgt := 49) rfl rfl (fun h => ?_) (fun h => ?_)
    · have k := k.1 h
      refine wp_seg (C := gC193) (pc1 := 55) (Lo1 := [some (.ref 43), none]) (st1' := [.int ((-1 : Int32) - (I1 43 14))]) (w1 := (wv x I1 J1)) hC193 4 rfl ?_
      exact we_i rfl rfl k
    · have k := k.2 h
      refine wp_seg (C := gC193) (pc1 := 43) (Lo1 := [some (.ref 43), none]) (st1' := [.int (59 : Int32), .ref 43]) (w1 := (wv x I1 J1)) hC193 2 rfl ?_
      refine cv_I (mj := 165) (a := 43) (as := [.int (59 : Int32)]) (r := []) rfl rfl rfl ⟨rfl, by decide, Nat.le_of_ble_eq_true rfl, Nat.le_of_ble_eq_true rfl⟩ rfl (wcI_mono k (fun r2 I2 J2 k => ?_))
      refine wi_ne (tgt := 56) rfl rfl (fun h => ?_) (fun h => ?_)
      · have k := k.1 h
        refine wp_seg (C := gC193) (pc1 := 55) (Lo1 := [some (.ref 43), none]) (st1' := [.int ((-1 : Int32) - (I2 43 14))]) (w1 := (wv x I2 J2)) hC193 4 rfl ?_
        exact we_i rfl rfl k
      · have k := k.2 h
        refine wp_seg (C := gC193) (pc1 := 26) (Lo1 := [some (.ref 43), none]) (st1' := []) (w1 := (wv x (mSet I2 43 31 ((I2 43 31) + (1 : Int32))) J2)) hC193 7 rfl ?_
        exact k
set_option maxRecDepth 20000 in
theorem v193_43_83 {S : Nat × (Nat → Int32)} {d : Nat} {x : mX} {I : rI0} {J : rJ0} {l1 : Int32} {Q : Int32 → rI0 → rJ0 → Prop} (k : ((l1 < ((3 : Int32) * (I 43 31)) → (¬ mOut l1 90 ∧ (¬ mOut ((591 : Int32) + l1) 681 ∧ wp S (d + 1) 193 83 [some (.ref 43), some (.int (l1 + (1 : Int32)))] [] (wv x (mSet I 45 (((591 : Int32) + l1).toNatClampNeg) (I 47 l1.toNatClampNeg)) J) (rI x Q)))) ∧ (¬ l1 < ((3 : Int32) * (I 43 31)) → Q (I 43 31) I J))) : wp S (d + 1) 193 83 [some (.ref 43), some (.int l1)] [] (wv x I J) (rI x Q) := by
  refine wp_seg (C := gC193) (pc1 := 90) (Lo1 := [some (.ref 43), some (.int l1)]) (st1' := [.int ((3 : Int32) * (I 43 31)), .int l1]) (w1 := (wv x I J)) hC193 5 rfl ?_
  refine wj_ge (tgt := 115) rfl rfl (fun h => ?_) (fun h => ?_)
  · have k := k.1 h
    refine wp_seg (C := gC193) (pc1 := 107) (Lo1 := [some (.ref 43), some (.int l1)]) (st1' := [.int l1, .ref 47, .int ((591 : Int32) + l1), .ref 45]) (w1 := (wv x I J)) hC193 8 rfl ?_
    refine wa_i (n := 90) rfl (by decide) rfl k.1 ?_
    have k := k.2
    refine ws_i (n := 681) rfl rfl k.1 ?_
    have k := k.2
    refine wp_seg (C := gC193) (pc1 := 83) (Lo1 := [some (.ref 43), some (.int (l1 + (1 : Int32)))]) (st1' := []) (w1 := (wv x (mSet I 45 (((591 : Int32) + l1).toNatClampNeg) (I 47 l1.toNatClampNeg)) J)) hC193 2 rfl ?_
    exact k
  · have k := k.2 h
    refine wp_seg (C := gC193) (pc1 := 119) (Lo1 := [some (.ref 43), some (.int l1)]) (st1' := [.int (I 43 31)]) (w1 := (wv x I J)) hC193 2 rfl ?_
    exact we_i rfl rfl k
set_option maxRecDepth 20000 in
theorem v194_43_0 {S : Nat × (Nat → Int32)} {d : Nat} {x : mX} {I : rI0} {J : rJ0} {p1 : Int32} {p2 : Int32} {Q : Int32 → rI0 → rJ0 → Prop} (k : (¬ mOut (590 : Int32) 681 ∧ (wcI S d 151 [.int p1, .int (0 : Int32), .int ((I 45 ((590 : Int32).toNatClampNeg)) - (1 : Int32))] x I J (fun r1 I1 J1 => ((r1 = (0 : Int32) → wp S (d + 1) 194 33 [some (.ref 43), some (.int p1), some (.int p2)] [.int (1 : Int32), .ref 43] (wv x I1 J1) (rI x Q)) ∧ (¬ r1 = (0 : Int32) → (wcI S d 151 [.int p2, .int (0 : Int32), .int (2 : Int32)] x I1 J1 (fun r2 I2 J2 => ((r2 = (0 : Int32) → wp S (d + 1) 194 33 [some (.ref 43), some (.int p1), some (.int p2)] [.int (1 : Int32), .ref 43] (wv x I2 J2) (rI x Q)) ∧ (¬ r2 = (0 : Int32) → wp S (d + 1) 194 33 [some (.ref 43), some (.int p1), some (.int p2)] [.int (0 : Int32), .ref 43] (wv x I2 J2) (rI x Q))))))))))) : wp S (d + 1) 194 0 [some (.ref 43), some (.int p1), some (.int p2)] [] (wv x I J) (rI x Q) := by
  refine wp_seg (C := gC194) (pc1 := 10) (Lo1 := [some (.ref 43), some (.int p1), some (.int p2)]) (st1' := [.int (590 : Int32), .ref 45, .int (0 : Int32), .int p1, .ref 43]) (w1 := (wv x I J)) hC194 6 rfl ?_
  refine wa_i (n := 681) rfl (by decide) rfl k.1 ?_
  have k := k.2
  refine wp_seg (C := gC194) (pc1 := 13) (Lo1 := [some (.ref 43), some (.int p1), some (.int p2)]) (st1' := [.int ((I 45 ((590 : Int32).toNatClampNeg)) - (1 : Int32)), .int (0 : Int32), .int p1, .ref 43]) (w1 := (wv x I J)) hC194 2 rfl ?_
  refine cs_I (mj := 151) (nn := 0) (as := [.int p1, .int (0 : Int32), .int ((I 45 ((590 : Int32).toNatClampNeg)) - (1 : Int32))]) (r := [.ref 43]) rfl rfl rfl ⟨rfl, by decide, Nat.le_of_ble_eq_true rfl, Nat.le_of_ble_eq_true rfl⟩ (by decide) (wcI_mono k (fun r1 I1 J1 k => ?_))
  refine wi_eq (tgt := 28) rfl rfl (fun h => ?_) (fun h => ?_)
  · have k := k.1 h
    refine wp_seg (C := gC194) (pc1 := 33) (Lo1 := [some (.ref 43), some (.int p1), some (.int p2)]) (st1' := [.int (1 : Int32), .ref 43]) (w1 := (wv x I1 J1)) hC194 2 rfl ?_
    exact k
  · have k := k.2 h
    refine wp_seg (C := gC194) (pc1 := 22) (Lo1 := [some (.ref 43), some (.int p1), some (.int p2)]) (st1' := [.int (2 : Int32), .int (0 : Int32), .int p2, .ref 43]) (w1 := (wv x I1 J1)) hC194 3 rfl ?_
    refine cs_I (mj := 151) (nn := 0) (as := [.int p2, .int (0 : Int32), .int (2 : Int32)]) (r := [.ref 43]) rfl rfl rfl ⟨rfl, by decide, Nat.le_of_ble_eq_true rfl, Nat.le_of_ble_eq_true rfl⟩ (by decide) (wcI_mono k (fun r2 I2 J2 k => ?_))
    refine wi_ne (tgt := 32) rfl rfl (fun h => ?_) (fun h => ?_)
    · have k := k.1 h
      refine wp_seg (C := gC194) (pc1 := 33) (Lo1 := [some (.ref 43), some (.int p1), some (.int p2)]) (st1' := [.int (1 : Int32), .ref 43]) (w1 := (wv x I2 J2)) hC194 2 rfl ?_
      exact k
    · have k := k.2 h
      refine wp_seg (C := gC194) (pc1 := 33) (Lo1 := [some (.ref 43), some (.int p1), some (.int p2)]) (st1' := [.int (0 : Int32), .ref 43]) (w1 := (wv x I2 J2)) hC194 1 rfl ?_
      exact k
set_option maxRecDepth 20000 in
theorem v194_43_33 {S : Nat × (Nat → Int32)} {d : Nat} {x : mX} {I : rI0} {J : rJ0} {l1 : Int32} {l2 : Int32} {s1 : Int32} {Q : Int32 → rI0 → rJ0 → Prop} (k : (wcI S d 146 [.ref 43, .int s1] x I J (fun r1 I1 J1 => ((r1 = (0 : Int32) → (¬ mOut (((591 : Int32) + ((3 : Int32) * l1)) + l2) 681 ∧ Q (I1 45 ((((591 : Int32) + ((3 : Int32) * l1)) + l2).toNatClampNeg)) I1 J1)) ∧ (¬ r1 = (0 : Int32) → Q (0 : Int32) I1 J1))))) : wp S (d + 1) 194 33 [some (.ref 43), some (.int l1), some (.int l2)] [.int s1, .ref 43] (wv x I J) (rI x Q) := by
  refine cv_I (mj := 146) (a := 43) (as := [.int s1]) (r := []) rfl rfl rfl ⟨rfl, by decide, Nat.le_of_ble_eq_true rfl, Nat.le_of_ble_eq_true rfl⟩ rfl (wcI_mono k (fun r1 I1 J1 k => ?_))
  refine wi_eq (tgt := 43) rfl rfl (fun h => ?_) (fun h => ?_)
  · have k := k.1 h
    refine wp_seg (C := gC194) (pc1 := 56) (Lo1 := [some (.ref 43), some (.int l1), some (.int l2)]) (st1' := [.int (((591 : Int32) + ((3 : Int32) * l1)) + l2), .ref 45]) (w1 := (wv x I1 J1)) hC194 9 rfl ?_
    refine wa_i (n := 681) rfl (by decide) rfl k.1 ?_
    have k := k.2
    exact we_i rfl rfl k
  · have k := k.2 h
    refine wp_seg (C := gC194) (pc1 := 57) (Lo1 := [some (.ref 43), some (.int l1), some (.int l2)]) (st1' := [.int (0 : Int32)]) (w1 := (wv x I1 J1)) hC194 2 rfl ?_
    exact we_i rfl rfl k
set_option maxRecDepth 20000 in
theorem v195_43_0 {S : Nat × (Nat → Int32)} {d : Nat} {x : mX} {I : rI0} {J : rJ0} {p1 : Int32} {p2 : Int32} {p3 : Int64} {p4 : Int64} {p5 : Int32} {p6 : Int32} {Q : Int32 → rI0 → rJ0 → Prop} (k : wp S (d + 1) 195 6 [some (.ref 43), some (.int p1), some (.int p2), some (.long p3), none, some (.long p4), none, some (.int p5), some (.int p6), some (.int (0 : Int32)), some (.int (0 : Int32)), none, none, none, none, none] [] (wv x I J) (rI x Q)) : wp S (d + 1) 195 0 [some (.ref 43), some (.int p1), some (.int p2), some (.long p3), none, some (.long p4), none, some (.int p5), some (.int p6), none, none, none, none, none, none, none] [] (wv x I J) (rI x Q) := by
  refine wp_seg (C := gC195) (pc1 := 6) (Lo1 := [some (.ref 43), some (.int p1), some (.int p2), some (.long p3), none, some (.long p4), none, some (.int p5), some (.int p6), some (.int (0 : Int32)), some (.int (0 : Int32)), none, none, none, none, none]) (st1' := []) (w1 := (wv x I J)) hC195 4 rfl ?_
  exact k
set_option maxRecDepth 20000 in
theorem v195_43_6 {S : Nat × (Nat → Int32)} {d : Nat} {x : mX} {I : rI0} {J : rJ0} {l1 : Int32} {l2 : Int32} {l3 : Int64} {l5 : Int64} {l7 : Int32} {l8 : Int32} {l9 : Int32} {l10 : Int32} {Q : Int32 → rI0 → rJ0 → Prop} (k : (¬ mOut (l1 + (1 : Int32)) 681 ∧ ((l10 < (I 45 ((l1 + (1 : Int32)).toNatClampNeg)) → (¬ mOut ((l1 + (2 : Int32)) + l10) 681 ∧ ((((I 45 (((l1 + (2 : Int32)) + l10).toNatClampNeg)) &&& (7 : Int32)) = (3 : Int32) → (¬ mOut (l9 - (1 : Int32)) 64 ∧ (((I 50 ((l9 - (1 : Int32)).toNatClampNeg)) = (0 : Int32) → (¬ mOut (l9 - (1 : Int32)) 64 ∧ wp S (d + 1) 195 6 [some (.ref 43), some (.int l1), some (.int l2), some (.long l3), none, some (.long l5), none, some (.int l7), some (.int l8), some (.int l9), some (.int (l10 + (1 : Int32))), none, none, none, none, none] [] (wv x (mSet I 50 ((l9 - (1 : Int32)).toNatClampNeg) (vp_nar .boolean (1 : Int32))) J) (rI x Q))) ∧ (¬ (I 50 ((l9 - (1 : Int32)).toNatClampNeg)) = (0 : Int32) → (¬ mOut (l9 - (1 : Int32)) 64 ∧ wp S (d + 1) 195 6 [some (.ref 43), some (.int l1), some (.int l2), some (.long l3), none, some (.long l5), none, some (.int l7), some (.int l8), some (.int l9), some (.int (l10 + (1 : Int32))), none, none, none, none, none] [] (wv x (mSet I 50 ((l9 - (1 : Int32)).toNatClampNeg) (vp_nar .boolean (0 : Int32))) J) (rI x Q)))))) ∧ (¬ ((I 45 (((l1 + (2 : Int32)) + l10).toNatClampNeg)) &&& (7 : Int32)) = (3 : Int32) → ((((I 45 (((l1 + (2 : Int32)) + l10).toNatClampNeg)) &&& (7 : Int32)) = (4 : Int32) → wp S (d + 1) 195 86 [some (.ref 43), some (.int l1), some (.int l2), some (.long l3), none, some (.long l5), none, some (.int l7), some (.int l8), some (.int l9), some (.int l10), some (.int (I 45 (((l1 + (2 : Int32)) + l10).toNatClampNeg))), some (.int ((I 45 (((l1 + (2 : Int32)) + l10).toNatClampNeg)) &&& (7 : Int32))), none, none, none] [] (wv x I J) (rI x Q)) ∧ (¬ ((I 45 (((l1 + (2 : Int32)) + l10).toNatClampNeg)) &&& (7 : Int32)) = (4 : Int32) → ((((I 45 (((l1 + (2 : Int32)) + l10).toNatClampNeg)) &&& (7 : Int32)) = (5 : Int32) → wp S (d + 1) 195 86 [some (.ref 43), some (.int l1), some (.int l2), some (.long l3), none, some (.long l5), none, some (.int l7), some (.int l8), some (.int l9), some (.int l10), some (.int (I 45 (((l1 + (2 : Int32)) + l10).toNatClampNeg))), some (.int ((I 45 (((l1 + (2 : Int32)) + l10).toNatClampNeg)) &&& (7 : Int32))), none, none, none] [] (wv x I J) (rI x Q)) ∧ (¬ ((I 45 (((l1 + (2 : Int32)) + l10).toNatClampNeg)) &&& (7 : Int32)) = (5 : Int32) → ((((I 45 (((l1 + (2 : Int32)) + l10).toNatClampNeg)) &&& (7 : Int32)) = (1 : Int32) → wp S (d + 1) 195 224 [some (.ref 43), some (.int l1), some (.int l2), some (.long l3), none, some (.long l5), none, some (.int l7), some (.int l8), some (.int l9), some (.int l10), some (.int (I 45 (((l1 + (2 : Int32)) + l10).toNatClampNeg))), some (.int ((I 45 (((l1 + (2 : Int32)) + l10).toNatClampNeg)) &&& (7 : Int32))), none, none, none] [.int l7] (wv x I J) (rI x Q)) ∧ (¬ ((I 45 (((l1 + (2 : Int32)) + l10).toNatClampNeg)) &&& (7 : Int32)) = (1 : Int32) → ((((I 45 (((l1 + (2 : Int32)) + l10).toNatClampNeg)) &&& (7 : Int32)) = (2 : Int32) → wp S (d + 1) 195 224 [some (.ref 43), some (.int l1), some (.int l2), some (.long l3), none, some (.long l5), none, some (.int l7), some (.int l8), some (.int l9), some (.int l10), some (.int (I 45 (((l1 + (2 : Int32)) + l10).toNatClampNeg))), some (.int ((I 45 (((l1 + (2 : Int32)) + l10).toNatClampNeg)) &&& (7 : Int32))), none, none, none] [.int l8] (wv x I J) (rI x Q)) ∧ (¬ ((I 45 (((l1 + (2 : Int32)) + l10).toNatClampNeg)) &&& (7 : Int32)) = (2 : Int32) → (¬ mOut (((6 : Int32) * l2) + (((I 45 (((l1 + (2 : Int32)) + l10).toNatClampNeg)) >>> ((3 : Int32) &&& 31)) &&& (7 : Int32))) 384 ∧ (((((I 45 (((l1 + (2 : Int32)) + l10).toNatClampNeg)) >>> ((6 : Int32) &&& 31)) &&& (3 : Int32)) = (1 : Int32) → (wcI S d 154 [.long ((J 51 ((((6 : Int32) * l2) + (((I 45 (((l1 + (2 : Int32)) + l10).toNatClampNeg)) >>> ((3 : Int32) &&& 31)) &&& (7 : Int32))).toNatClampNeg)) &&& l3)] x I J (fun r1 I1 J1 => wp S (d + 1) 195 224 [some (.ref 43), some (.int l1), some (.int l2), some (.long l3), none, some (.long l5), none, some (.int l7), some (.int l8), some (.int l9), some (.int l10), some (.int (I 45 (((l1 + (2 : Int32)) + l10).toNatClampNeg))), some (.int ((I 45 (((l1 + (2 : Int32)) + l10).toNatClampNeg)) &&& (7 : Int32))), none, none, none] [.int r1] (wv x I1 J1) (rI x Q)))) ∧ (¬ (((I 45 (((l1 + (2 : Int32)) + l10).toNatClampNeg)) >>> ((6 : Int32) &&& 31)) &&& (3 : Int32)) = (1 : Int32) → (wcI S d 154 [.long ((J 51 ((((6 : Int32) * l2) + (((I 45 (((l1 + (2 : Int32)) + l10).toNatClampNeg)) >>> ((3 : Int32) &&& 31)) &&& (7 : Int32))).toNatClampNeg)) &&& l5)] x I J (fun r2 I2 J2 => wp S (d + 1) 195 224 [some (.ref 43), some (.int l1), some (.int l2), some (.long l3), none, some (.long l5), none, some (.int l7), some (.int l8), some (.int l9), some (.int l10), some (.int (I 45 (((l1 + (2 : Int32)) + l10).toNatClampNeg))), some (.int ((I 45 (((l1 + (2 : Int32)) + l10).toNatClampNeg)) &&& (7 : Int32))), none, none, none] [.int r2] (wv x I2 J2) (rI x Q)))))))))))))))))) ∧ (¬ l10 < (I 45 ((l1 + (1 : Int32)).toNatClampNeg)) → (¬ mOut (0 : Int32) 64 ∧ (((I 50 ((0 : Int32).toNatClampNeg)) = 0 ∨ (I 50 ((0 : Int32).toNatClampNeg)) = 1) ∧ Q (I 50 ((0 : Int32).toNatClampNeg)) I J)))))) : wp S (d + 1) 195 6 [some (.ref 43), some (.int l1), some (.int l2), some (.long l3), none, some (.long l5), none, some (.int l7), some (.int l8), some (.int l9), some (.int l10), none, none, none, none, none] [] (wv x I J) (rI x Q) := by
  refine wp_seg (C := gC195) (pc1 := 15) (Lo1 := [some (.ref 43), some (.int l1), some (.int l2), some (.long l3), none, some (.long l5), none, some (.int l7), some (.int l8), some (.int l9), some (.int l10), none, none, none, none, none]) (st1' := [.int (l1 + (1 : Int32)), .ref 45, .int l10]) (w1 := (wv x I J)) hC195 6 rfl ?_
  refine wa_i (n := 681) rfl (by decide) rfl k.1 ?_
  have k := k.2
  refine wj_ge (tgt := 311) rfl rfl (fun h => ?_) (fun h => ?_)
  · have k := k.1 h
    refine wp_seg (C := gC195) (pc1 := 29) (Lo1 := [some (.ref 43), some (.int l1), some (.int l2), some (.long l3), none, some (.long l5), none, some (.int l7), some (.int l8), some (.int l9), some (.int l10), none, none, none, none, none]) (st1' := [.int ((l1 + (2 : Int32)) + l10), .ref 45]) (w1 := (wv x I J)) hC195 7 rfl ?_
    refine wa_i (n := 681) rfl (by decide) rfl k.1 ?_
    have k := k.2
    refine wp_seg (C := gC195) (pc1 := 39) (Lo1 := [some (.ref 43), some (.int l1), some (.int l2), some (.long l3), none, some (.long l5), none, some (.int l7), some (.int l8), some (.int l9), some (.int l10), some (.int (I 45 (((l1 + (2 : Int32)) + l10).toNatClampNeg))), some (.int ((I 45 (((l1 + (2 : Int32)) + l10).toNatClampNeg)) &&& (7 : Int32))), none, none, none]) (st1' := []) (w1 := (wv x I J)) hC195 5 rfl ?_
    refine wp_seg (C := gC195) (pc1 := 42) (Lo1 := [some (.ref 43), some (.int l1), some (.int l2), some (.long l3), none, some (.long l5), none, some (.int l7), some (.int l8), some (.int l9), some (.int l10), some (.int (I 45 (((l1 + (2 : Int32)) + l10).toNatClampNeg))), some (.int ((I 45 (((l1 + (2 : Int32)) + l10).toNatClampNeg)) &&& (7 : Int32))), none, none, none]) (st1' := [.int (3 : Int32), .int ((I 45 (((l1 + (2 : Int32)) + l10).toNatClampNeg)) &&& (7 : Int32))]) (w1 := (wv x I J)) hC195 2 rfl ?_
    refine wj_ne (tgt := 74) rfl rfl (fun h => ?_) (fun h => ?_)
    · have k := k.1 h
      refine wp_seg (C := gC195) (pc1 := 61) (Lo1 := [some (.ref 43), some (.int l1), some (.int l2), some (.long l3), none, some (.long l5), none, some (.int l7), some (.int l8), some (.int l9), some (.int l10), some (.int (I 45 (((l1 + (2 : Int32)) + l10).toNatClampNeg))), some (.int ((I 45 (((l1 + (2 : Int32)) + l10).toNatClampNeg)) &&& (7 : Int32))), none, none, none]) (st1' := [.int (l9 - (1 : Int32)), .ref 50, .int (l9 - (1 : Int32)), .ref 50]) (w1 := (wv x I J)) hC195 10 rfl ?_
      refine wa_b (n := 64) rfl (Or.inr rfl) k.1 ?_
      have k := k.2
      refine wi_ne (tgt := 69) rfl rfl (fun h => ?_) (fun h => ?_)
      · have k := k.1 h
        refine wp_seg (C := gC195) (pc1 := 70) (Lo1 := [some (.ref 43), some (.int l1), some (.int l2), some (.long l3), none, some (.long l5), none, some (.int l7), some (.int l8), some (.int l9), some (.int l10), some (.int (I 45 (((l1 + (2 : Int32)) + l10).toNatClampNeg))), some (.int ((I 45 (((l1 + (2 : Int32)) + l10).toNatClampNeg)) &&& (7 : Int32))), none, none, none]) (st1' := [.int (1 : Int32), .int (l9 - (1 : Int32)), .ref 50]) (w1 := (wv x I J)) hC195 2 rfl ?_
        refine ws_z (n := 64) rfl rfl k.1 ?_
        have k := k.2
        refine wp_seg (C := gC195) (pc1 := 6) (Lo1 := [some (.ref 43), some (.int l1), some (.int l2), some (.long l3), none, some (.long l5), none, some (.int l7), some (.int l8), some (.int l9), some (.int (l10 + (1 : Int32))), some (.int (I 45 (((l1 + (2 : Int32)) + l10).toNatClampNeg))), some (.int ((I 45 (((l1 + (2 : Int32)) + l10).toNatClampNeg)) &&& (7 : Int32))), none, none, none]) (st1' := []) (w1 := (wv x (mSet I 50 ((l9 - (1 : Int32)).toNatClampNeg) (vp_nar .boolean (1 : Int32))) J)) hC195 3 rfl ?_
        exact wp_sub (Lo := [some (.ref 43), some (.int l1), some (.int l2), some (.long l3), none, some (.long l5), none, some (.int l7), some (.int l8), some (.int l9), some (.int (l10 + (1 : Int32))), none, none, none, none, none]) (And.intro rfl (And.intro rfl (And.intro rfl (And.intro rfl (And.intro rfl (And.intro rfl (And.intro rfl (And.intro rfl (And.intro rfl (trivial)))))))))) k
      · have k := k.2 h
        refine wp_seg (C := gC195) (pc1 := 70) (Lo1 := [some (.ref 43), some (.int l1), some (.int l2), some (.long l3), none, some (.long l5), none, some (.int l7), some (.int l8), some (.int l9), some (.int l10), some (.int (I 45 (((l1 + (2 : Int32)) + l10).toNatClampNeg))), some (.int ((I 45 (((l1 + (2 : Int32)) + l10).toNatClampNeg)) &&& (7 : Int32))), none, none, none]) (st1' := [.int (0 : Int32), .int (l9 - (1 : Int32)), .ref 50]) (w1 := (wv x I J)) hC195 1 rfl ?_
        refine ws_z (n := 64) rfl rfl k.1 ?_
        have k := k.2
        refine wp_seg (C := gC195) (pc1 := 6) (Lo1 := [some (.ref 43), some (.int l1), some (.int l2), some (.long l3), none, some (.long l5), none, some (.int l7), some (.int l8), some (.int l9), some (.int (l10 + (1 : Int32))), some (.int (I 45 (((l1 + (2 : Int32)) + l10).toNatClampNeg))), some (.int ((I 45 (((l1 + (2 : Int32)) + l10).toNatClampNeg)) &&& (7 : Int32))), none, none, none]) (st1' := []) (w1 := (wv x (mSet I 50 ((l9 - (1 : Int32)).toNatClampNeg) (vp_nar .boolean (0 : Int32))) J)) hC195 3 rfl ?_
        exact wp_sub (Lo := [some (.ref 43), some (.int l1), some (.int l2), some (.long l3), none, some (.long l5), none, some (.int l7), some (.int l8), some (.int l9), some (.int (l10 + (1 : Int32))), none, none, none, none, none]) (And.intro rfl (And.intro rfl (And.intro rfl (And.intro rfl (And.intro rfl (And.intro rfl (And.intro rfl (And.intro rfl (And.intro rfl (trivial)))))))))) k
    · have k := k.2 h
      refine wp_seg (C := gC195) (pc1 := 77) (Lo1 := [some (.ref 43), some (.int l1), some (.int l2), some (.long l3), none, some (.long l5), none, some (.int l7), some (.int l8), some (.int l9), some (.int l10), some (.int (I 45 (((l1 + (2 : Int32)) + l10).toNatClampNeg))), some (.int ((I 45 (((l1 + (2 : Int32)) + l10).toNatClampNeg)) &&& (7 : Int32))), none, none, none]) (st1' := [.int (4 : Int32), .int ((I 45 (((l1 + (2 : Int32)) + l10).toNatClampNeg)) &&& (7 : Int32))]) (w1 := (wv x I J)) hC195 2 rfl ?_
      refine wj_eq (tgt := 86) rfl rfl (fun h => ?_) (fun h => ?_)
      · have k := k.1 h
        exact k
      · have k := k.2 h
        refine wp_seg (C := gC195) (pc1 := 83) (Lo1 := [some (.ref 43), some (.int l1), some (.int l2), some (.long l3), none, some (.long l5), none, some (.int l7), some (.int l8), some (.int l9), some (.int l10), some (.int (I 45 (((l1 + (2 : Int32)) + l10).toNatClampNeg))), some (.int ((I 45 (((l1 + (2 : Int32)) + l10).toNatClampNeg)) &&& (7 : Int32))), none, none, none]) (st1' := [.int (5 : Int32), .int ((I 45 (((l1 + (2 : Int32)) + l10).toNatClampNeg)) &&& (7 : Int32))]) (w1 := (wv x I J)) hC195 2 rfl ?_
        refine wj_ne (tgt := 164) rfl rfl (fun h => ?_) (fun h => ?_)
        · have k := k.1 h
          exact k
        · have k := k.2 h
          refine wp_seg (C := gC195) (pc1 := 167) (Lo1 := [some (.ref 43), some (.int l1), some (.int l2), some (.long l3), none, some (.long l5), none, some (.int l7), some (.int l8), some (.int l9), some (.int l10), some (.int (I 45 (((l1 + (2 : Int32)) + l10).toNatClampNeg))), some (.int ((I 45 (((l1 + (2 : Int32)) + l10).toNatClampNeg)) &&& (7 : Int32))), none, none, none]) (st1' := [.int (1 : Int32), .int ((I 45 (((l1 + (2 : Int32)) + l10).toNatClampNeg)) &&& (7 : Int32))]) (w1 := (wv x I J)) hC195 2 rfl ?_
          refine wj_ne (tgt := 175) rfl rfl (fun h => ?_) (fun h => ?_)
          · have k := k.1 h
            refine wp_seg (C := gC195) (pc1 := 224) (Lo1 := [some (.ref 43), some (.int l1), some (.int l2), some (.long l3), none, some (.long l5), none, some (.int l7), some (.int l8), some (.int l9), some (.int l10), some (.int (I 45 (((l1 + (2 : Int32)) + l10).toNatClampNeg))), some (.int ((I 45 (((l1 + (2 : Int32)) + l10).toNatClampNeg)) &&& (7 : Int32))), none, none, none]) (st1' := [.int l7]) (w1 := (wv x I J)) hC195 2 rfl ?_
            exact k
          · have k := k.2 h
            refine wp_seg (C := gC195) (pc1 := 178) (Lo1 := [some (.ref 43), some (.int l1), some (.int l2), some (.long l3), none, some (.long l5), none, some (.int l7), some (.int l8), some (.int l9), some (.int l10), some (.int (I 45 (((l1 + (2 : Int32)) + l10).toNatClampNeg))), some (.int ((I 45 (((l1 + (2 : Int32)) + l10).toNatClampNeg)) &&& (7 : Int32))), none, none, none]) (st1' := [.int (2 : Int32), .int ((I 45 (((l1 + (2 : Int32)) + l10).toNatClampNeg)) &&& (7 : Int32))]) (w1 := (wv x I J)) hC195 2 rfl ?_
            refine wj_ne (tgt := 186) rfl rfl (fun h => ?_) (fun h => ?_)
            · have k := k.1 h
              refine wp_seg (C := gC195) (pc1 := 224) (Lo1 := [some (.ref 43), some (.int l1), some (.int l2), some (.long l3), none, some (.long l5), none, some (.int l7), some (.int l8), some (.int l9), some (.int l10), some (.int (I 45 (((l1 + (2 : Int32)) + l10).toNatClampNeg))), some (.int ((I 45 (((l1 + (2 : Int32)) + l10).toNatClampNeg)) &&& (7 : Int32))), none, none, none]) (st1' := [.int l8]) (w1 := (wv x I J)) hC195 2 rfl ?_
              exact k
            · have k := k.2 h
              refine wp_seg (C := gC195) (pc1 := 202) (Lo1 := [some (.ref 43), some (.int l1), some (.int l2), some (.long l3), none, some (.long l5), none, some (.int l7), some (.int l8), some (.int l9), some (.int l10), some (.int (I 45 (((l1 + (2 : Int32)) + l10).toNatClampNeg))), some (.int ((I 45 (((l1 + (2 : Int32)) + l10).toNatClampNeg)) &&& (7 : Int32))), none, none, none]) (st1' := [.int (((6 : Int32) * l2) + (((I 45 (((l1 + (2 : Int32)) + l10).toNatClampNeg)) >>> ((3 : Int32) &&& 31)) &&& (7 : Int32))), .ref 51]) (w1 := (wv x I J)) hC195 11 rfl ?_
              refine wa_l (n := 384) rfl rfl k.1 ?_
              have k := k.2
              refine wp_seg (C := gC195) (pc1 := 211) (Lo1 := [some (.ref 43), some (.int l1), some (.int l2), some (.long l3), none, some (.long l5), none, some (.int l7), some (.int l8), some (.int l9), some (.int l10), some (.int (I 45 (((l1 + (2 : Int32)) + l10).toNatClampNeg))), some (.int ((I 45 (((l1 + (2 : Int32)) + l10).toNatClampNeg)) &&& (7 : Int32))), none, none, none]) (st1' := [.int (1 : Int32), .int (((I 45 (((l1 + (2 : Int32)) + l10).toNatClampNeg)) >>> ((6 : Int32) &&& 31)) &&& (3 : Int32)), .long (J 51 ((((6 : Int32) * l2) + (((I 45 (((l1 + (2 : Int32)) + l10).toNatClampNeg)) >>> ((3 : Int32) &&& 31)) &&& (7 : Int32))).toNatClampNeg))]) (w1 := (wv x I J)) hC195 6 rfl ?_
              refine wj_ne (tgt := 218) rfl rfl (fun h => ?_) (fun h => ?_)
              · have k := k.1 h
                refine wp_seg (C := gC195) (pc1 := 221) (Lo1 := [some (.ref 43), some (.int l1), some (.int l2), some (.long l3), none, some (.long l5), none, some (.int l7), some (.int l8), some (.int l9), some (.int l10), some (.int (I 45 (((l1 + (2 : Int32)) + l10).toNatClampNeg))), some (.int ((I 45 (((l1 + (2 : Int32)) + l10).toNatClampNeg)) &&& (7 : Int32))), none, none, none]) (st1' := [.long ((J 51 ((((6 : Int32) * l2) + (((I 45 (((l1 + (2 : Int32)) + l10).toNatClampNeg)) >>> ((3 : Int32) &&& 31)) &&& (7 : Int32))).toNatClampNeg)) &&& l3)]) (w1 := (wv x I J)) hC195 3 rfl ?_
                refine cs_I (mj := 154) (nn := 0) (as := [.long ((J 51 ((((6 : Int32) * l2) + (((I 45 (((l1 + (2 : Int32)) + l10).toNatClampNeg)) >>> ((3 : Int32) &&& 31)) &&& (7 : Int32))).toNatClampNeg)) &&& l3)]) (r := []) rfl rfl rfl ⟨rfl, by decide, Nat.le_of_ble_eq_true rfl, Nat.le_of_ble_eq_true rfl⟩ (by decide) (wcI_mono k (fun r1 I1 J1 k => ?_))
                exact k
              · have k := k.2 h
                refine wp_seg (C := gC195) (pc1 := 221) (Lo1 := [some (.ref 43), some (.int l1), some (.int l2), some (.long l3), none, some (.long l5), none, some (.int l7), some (.int l8), some (.int l9), some (.int l10), some (.int (I 45 (((l1 + (2 : Int32)) + l10).toNatClampNeg))), some (.int ((I 45 (((l1 + (2 : Int32)) + l10).toNatClampNeg)) &&& (7 : Int32))), none, none, none]) (st1' := [.long ((J 51 ((((6 : Int32) * l2) + (((I 45 (((l1 + (2 : Int32)) + l10).toNatClampNeg)) >>> ((3 : Int32) &&& 31)) &&& (7 : Int32))).toNatClampNeg)) &&& l5)]) (w1 := (wv x I J)) hC195 2 rfl ?_
                refine cs_I (mj := 154) (nn := 0) (as := [.long ((J 51 ((((6 : Int32) * l2) + (((I 45 (((l1 + (2 : Int32)) + l10).toNatClampNeg)) >>> ((3 : Int32) &&& 31)) &&& (7 : Int32))).toNatClampNeg)) &&& l5)]) (r := []) rfl rfl rfl ⟨rfl, by decide, Nat.le_of_ble_eq_true rfl, Nat.le_of_ble_eq_true rfl⟩ (by decide) (wcI_mono k (fun r2 I2 J2 k => ?_))
                exact k
  · have k := k.2 h
    refine wp_seg (C := gC195) (pc1 := 316) (Lo1 := [some (.ref 43), some (.int l1), some (.int l2), some (.long l3), none, some (.long l5), none, some (.int l7), some (.int l8), some (.int l9), some (.int l10), none, none, none, none, none]) (st1' := [.int (0 : Int32), .ref 50]) (w1 := (wv x I J)) hC195 3 rfl ?_
    refine wa_b (n := 64) rfl (Or.inr rfl) k.1 ?_
    have k := k.2
    exact we_z rfl rfl k.1 k.2
set_option maxRecDepth 20000 in
theorem v195_43_86 {S : Nat × (Nat → Int32)} {d : Nat} {x : mX} {I : rI0} {J : rJ0} {l1 : Int32} {l2 : Int32} {l3 : Int64} {l5 : Int64} {l7 : Int32} {l8 : Int32} {l9 : Int32} {l10 : Int32} {l11 : Int32} {l12 : Int32} {Q : Int32 → rI0 → rJ0 → Prop} (k : ((l12 = (4 : Int32) → (¬ mOut ((l9 + (-1 : Int32)) - (1 : Int32)) 64 ∧ (((I 50 (((l9 + (-1 : Int32)) - (1 : Int32)).toNatClampNeg)) = (0 : Int32) → (¬ mOut ((l9 + (-1 : Int32)) - (1 : Int32)) 64 ∧ wp S (d + 1) 195 6 [some (.ref 43), some (.int l1), some (.int l2), some (.long l3), none, some (.long l5), none, some (.int l7), some (.int l8), some (.int (l9 + (-1 : Int32))), some (.int (l10 + (1 : Int32))), none, none, none, none, none] [] (wv x (mSet I 50 (((l9 + (-1 : Int32)) - (1 : Int32)).toNatClampNeg) (vp_nar .boolean (0 : Int32))) J) (rI x Q))) ∧ (¬ (I 50 (((l9 + (-1 : Int32)) - (1 : Int32)).toNatClampNeg)) = (0 : Int32) → (¬ mOut (l9 + (-1 : Int32)) 64 ∧ (((I 50 ((l9 + (-1 : Int32)).toNatClampNeg)) = (0 : Int32) → (¬ mOut ((l9 + (-1 : Int32)) - (1 : Int32)) 64 ∧ wp S (d + 1) 195 6 [some (.ref 43), some (.int l1), some (.int l2), some (.long l3), none, some (.long l5), none, some (.int l7), some (.int l8), some (.int (l9 + (-1 : Int32))), some (.int (l10 + (1 : Int32))), none, none, none, none, none] [] (wv x (mSet I 50 (((l9 + (-1 : Int32)) - (1 : Int32)).toNatClampNeg) (vp_nar .boolean (0 : Int32))) J) (rI x Q))) ∧ (¬ (I 50 ((l9 + (-1 : Int32)).toNatClampNeg)) = (0 : Int32) → (¬ mOut ((l9 + (-1 : Int32)) - (1 : Int32)) 64 ∧ wp S (d + 1) 195 6 [some (.ref 43), some (.int l1), some (.int l2), some (.long l3), none, some (.long l5), none, some (.int l7), some (.int l8), some (.int (l9 + (-1 : Int32))), some (.int (l10 + (1 : Int32))), none, none, none, none, none] [] (wv x (mSet I 50 (((l9 + (-1 : Int32)) - (1 : Int32)).toNatClampNeg) (vp_nar .boolean (1 : Int32))) J) (rI x Q))))))))) ∧ (¬ l12 = (4 : Int32) → (¬ mOut ((l9 + (-1 : Int32)) - (1 : Int32)) 64 ∧ (((I 50 (((l9 + (-1 : Int32)) - (1 : Int32)).toNatClampNeg)) = (0 : Int32) → (¬ mOut (l9 + (-1 : Int32)) 64 ∧ (((I 50 ((l9 + (-1 : Int32)).toNatClampNeg)) = (0 : Int32) → (¬ mOut ((l9 + (-1 : Int32)) - (1 : Int32)) 64 ∧ wp S (d + 1) 195 6 [some (.ref 43), some (.int l1), some (.int l2), some (.long l3), none, some (.long l5), none, some (.int l7), some (.int l8), some (.int (l9 + (-1 : Int32))), some (.int (l10 + (1 : Int32))), none, none, none, none, none] [] (wv x (mSet I 50 (((l9 + (-1 : Int32)) - (1 : Int32)).toNatClampNeg) (vp_nar .boolean (0 : Int32))) J) (rI x Q))) ∧ (¬ (I 50 ((l9 + (-1 : Int32)).toNatClampNeg)) = (0 : Int32) → (¬ mOut ((l9 + (-1 : Int32)) - (1 : Int32)) 64 ∧ wp S (d + 1) 195 6 [some (.ref 43), some (.int l1), some (.int l2), some (.long l3), none, some (.long l5), none, some (.int l7), some (.int l8), some (.int (l9 + (-1 : Int32))), some (.int (l10 + (1 : Int32))), none, none, none, none, none] [] (wv x (mSet I 50 (((l9 + (-1 : Int32)) - (1 : Int32)).toNatClampNeg) (vp_nar .boolean (1 : Int32))) J) (rI x Q)))))) ∧ (¬ (I 50 (((l9 + (-1 : Int32)) - (1 : Int32)).toNatClampNeg)) = (0 : Int32) → (¬ mOut ((l9 + (-1 : Int32)) - (1 : Int32)) 64 ∧ wp S (d + 1) 195 6 [some (.ref 43), some (.int l1), some (.int l2), some (.long l3), none, some (.long l5), none, some (.int l7), some (.int l8), some (.int (l9 + (-1 : Int32))), some (.int (l10 + (1 : Int32))), none, none, none, none, none] [] (wv x (mSet I 50 (((l9 + (-1 : Int32)) - (1 : Int32)).toNatClampNeg) (vp_nar .boolean (1 : Int32))) J) (rI x Q)))))))) : wp S (d + 1) 195 86 [some (.ref 43), some (.int l1), some (.int l2), some (.long l3), none, some (.long l5), none, some (.int l7), some (.int l8), some (.int l9), some (.int l10), some (.int l11), some (.int l12), none, none, none] [] (wv x I J) (rI x Q) := by
  refine wp_seg (C := gC195) (pc1 := 100) (Lo1 := [some (.ref 43), some (.int l1), some (.int l2), some (.long l3), none, some (.long l5), none, some (.int l7), some (.int l8), some (.int (l9 + (-1 : Int32))), some (.int l10), some (.int l11), some (.int l12), none, none, none]) (st1' := [.int (4 : Int32), .int l12, .int ((l9 + (-1 : Int32)) - (1 : Int32)), .ref 50]) (w1 := (wv x I J)) hC195 8 rfl ?_
  refine wj_ne (tgt := 133) rfl rfl (fun h => ?_) (fun h => ?_)
  · have k := k.1 h
    refine wp_seg (C := gC195) (pc1 := 111) (Lo1 := [some (.ref 43), some (.int l1), some (.int l2), some (.long l3), none, some (.long l5), none, some (.int l7), some (.int l8), some (.int (l9 + (-1 : Int32))), some (.int l10), some (.int l11), some (.int l12), none, none, none]) (st1' := [.int ((l9 + (-1 : Int32)) - (1 : Int32)), .ref 50, .int ((l9 + (-1 : Int32)) - (1 : Int32)), .ref 50]) (w1 := (wv x I J)) hC195 5 rfl ?_
    refine wa_b (n := 64) rfl (Or.inr rfl) k.1 ?_
    have k := k.2
    refine wi_eq (tgt := 129) rfl rfl (fun h => ?_) (fun h => ?_)
    · have k := k.1 h
      refine wp_seg (C := gC195) (pc1 := 160) (Lo1 := [some (.ref 43), some (.int l1), some (.int l2), some (.long l3), none, some (.long l5), none, some (.int l7), some (.int l8), some (.int (l9 + (-1 : Int32))), some (.int l10), some (.int l11), some (.int l12), none, none, none]) (st1' := [.int (0 : Int32), .int ((l9 + (-1 : Int32)) - (1 : Int32)), .ref 50]) (w1 := (wv x I J)) hC195 2 rfl ?_
      refine ws_z (n := 64) rfl rfl k.1 ?_
      have k := k.2
      refine wp_seg (C := gC195) (pc1 := 6) (Lo1 := [some (.ref 43), some (.int l1), some (.int l2), some (.long l3), none, some (.long l5), none, some (.int l7), some (.int l8), some (.int (l9 + (-1 : Int32))), some (.int (l10 + (1 : Int32))), some (.int l11), some (.int l12), none, none, none]) (st1' := []) (w1 := (wv x (mSet I 50 (((l9 + (-1 : Int32)) - (1 : Int32)).toNatClampNeg) (vp_nar .boolean (0 : Int32))) J)) hC195 3 rfl ?_
      exact wp_sub (Lo := [some (.ref 43), some (.int l1), some (.int l2), some (.long l3), none, some (.long l5), none, some (.int l7), some (.int l8), some (.int (l9 + (-1 : Int32))), some (.int (l10 + (1 : Int32))), none, none, none, none, none]) (And.intro rfl (And.intro rfl (And.intro rfl (And.intro rfl (And.intro rfl (And.intro rfl (And.intro rfl (And.intro rfl (And.intro rfl (trivial)))))))))) k
    · have k := k.2 h
      refine wp_seg (C := gC195) (pc1 := 121) (Lo1 := [some (.ref 43), some (.int l1), some (.int l2), some (.long l3), none, some (.long l5), none, some (.int l7), some (.int l8), some (.int (l9 + (-1 : Int32))), some (.int l10), some (.int l11), some (.int l12), none, none, none]) (st1' := [.int (l9 + (-1 : Int32)), .ref 50, .int ((l9 + (-1 : Int32)) - (1 : Int32)), .ref 50]) (w1 := (wv x I J)) hC195 3 rfl ?_
      refine wa_b (n := 64) rfl (Or.inr rfl) k.1 ?_
      have k := k.2
      refine wi_eq (tgt := 129) rfl rfl (fun h => ?_) (fun h => ?_)
      · have k := k.1 h
        refine wp_seg (C := gC195) (pc1 := 160) (Lo1 := [some (.ref 43), some (.int l1), some (.int l2), some (.long l3), none, some (.long l5), none, some (.int l7), some (.int l8), some (.int (l9 + (-1 : Int32))), some (.int l10), some (.int l11), some (.int l12), none, none, none]) (st1' := [.int (0 : Int32), .int ((l9 + (-1 : Int32)) - (1 : Int32)), .ref 50]) (w1 := (wv x I J)) hC195 2 rfl ?_
        refine ws_z (n := 64) rfl rfl k.1 ?_
        have k := k.2
        refine wp_seg (C := gC195) (pc1 := 6) (Lo1 := [some (.ref 43), some (.int l1), some (.int l2), some (.long l3), none, some (.long l5), none, some (.int l7), some (.int l8), some (.int (l9 + (-1 : Int32))), some (.int (l10 + (1 : Int32))), some (.int l11), some (.int l12), none, none, none]) (st1' := []) (w1 := (wv x (mSet I 50 (((l9 + (-1 : Int32)) - (1 : Int32)).toNatClampNeg) (vp_nar .boolean (0 : Int32))) J)) hC195 3 rfl ?_
        exact wp_sub (Lo := [some (.ref 43), some (.int l1), some (.int l2), some (.long l3), none, some (.long l5), none, some (.int l7), some (.int l8), some (.int (l9 + (-1 : Int32))), some (.int (l10 + (1 : Int32))), none, none, none, none, none]) (And.intro rfl (And.intro rfl (And.intro rfl (And.intro rfl (And.intro rfl (And.intro rfl (And.intro rfl (And.intro rfl (And.intro rfl (trivial)))))))))) k
      · have k := k.2 h
        refine wp_seg (C := gC195) (pc1 := 160) (Lo1 := [some (.ref 43), some (.int l1), some (.int l2), some (.long l3), none, some (.long l5), none, some (.int l7), some (.int l8), some (.int (l9 + (-1 : Int32))), some (.int l10), some (.int l11), some (.int l12), none, none, none]) (st1' := [.int (1 : Int32), .int ((l9 + (-1 : Int32)) - (1 : Int32)), .ref 50]) (w1 := (wv x I J)) hC195 2 rfl ?_
        refine ws_z (n := 64) rfl rfl k.1 ?_
        have k := k.2
        refine wp_seg (C := gC195) (pc1 := 6) (Lo1 := [some (.ref 43), some (.int l1), some (.int l2), some (.long l3), none, some (.long l5), none, some (.int l7), some (.int l8), some (.int (l9 + (-1 : Int32))), some (.int (l10 + (1 : Int32))), some (.int l11), some (.int l12), none, none, none]) (st1' := []) (w1 := (wv x (mSet I 50 (((l9 + (-1 : Int32)) - (1 : Int32)).toNatClampNeg) (vp_nar .boolean (1 : Int32))) J)) hC195 3 rfl ?_
        exact wp_sub (Lo := [some (.ref 43), some (.int l1), some (.int l2), some (.long l3), none, some (.long l5), none, some (.int l7), some (.int l8), some (.int (l9 + (-1 : Int32))), some (.int (l10 + (1 : Int32))), none, none, none, none, none]) (And.intro rfl (And.intro rfl (And.intro rfl (And.intro rfl (And.intro rfl (And.intro rfl (And.intro rfl (And.intro rfl (And.intro rfl (trivial)))))))))) k
  · have k := k.2 h
    refine wp_seg (C := gC195) (pc1 := 141) (Lo1 := [some (.ref 43), some (.int l1), some (.int l2), some (.long l3), none, some (.long l5), none, some (.int l7), some (.int l8), some (.int (l9 + (-1 : Int32))), some (.int l10), some (.int l11), some (.int l12), none, none, none]) (st1' := [.int ((l9 + (-1 : Int32)) - (1 : Int32)), .ref 50, .int ((l9 + (-1 : Int32)) - (1 : Int32)), .ref 50]) (w1 := (wv x I J)) hC195 5 rfl ?_
    refine wa_b (n := 64) rfl (Or.inr rfl) k.1 ?_
    have k := k.2
    refine wi_ne (tgt := 155) rfl rfl (fun h => ?_) (fun h => ?_)
    · have k := k.1 h
      refine wp_seg (C := gC195) (pc1 := 151) (Lo1 := [some (.ref 43), some (.int l1), some (.int l2), some (.long l3), none, some (.long l5), none, some (.int l7), some (.int l8), some (.int (l9 + (-1 : Int32))), some (.int l10), some (.int l11), some (.int l12), none, none, none]) (st1' := [.int (l9 + (-1 : Int32)), .ref 50, .int ((l9 + (-1 : Int32)) - (1 : Int32)), .ref 50]) (w1 := (wv x I J)) hC195 3 rfl ?_
      refine wa_b (n := 64) rfl (Or.inr rfl) k.1 ?_
      have k := k.2
      refine wi_eq (tgt := 159) rfl rfl (fun h => ?_) (fun h => ?_)
      · have k := k.1 h
        refine wp_seg (C := gC195) (pc1 := 160) (Lo1 := [some (.ref 43), some (.int l1), some (.int l2), some (.long l3), none, some (.long l5), none, some (.int l7), some (.int l8), some (.int (l9 + (-1 : Int32))), some (.int l10), some (.int l11), some (.int l12), none, none, none]) (st1' := [.int (0 : Int32), .int ((l9 + (-1 : Int32)) - (1 : Int32)), .ref 50]) (w1 := (wv x I J)) hC195 1 rfl ?_
        refine ws_z (n := 64) rfl rfl k.1 ?_
        have k := k.2
        refine wp_seg (C := gC195) (pc1 := 6) (Lo1 := [some (.ref 43), some (.int l1), some (.int l2), some (.long l3), none, some (.long l5), none, some (.int l7), some (.int l8), some (.int (l9 + (-1 : Int32))), some (.int (l10 + (1 : Int32))), some (.int l11), some (.int l12), none, none, none]) (st1' := []) (w1 := (wv x (mSet I 50 (((l9 + (-1 : Int32)) - (1 : Int32)).toNatClampNeg) (vp_nar .boolean (0 : Int32))) J)) hC195 3 rfl ?_
        exact wp_sub (Lo := [some (.ref 43), some (.int l1), some (.int l2), some (.long l3), none, some (.long l5), none, some (.int l7), some (.int l8), some (.int (l9 + (-1 : Int32))), some (.int (l10 + (1 : Int32))), none, none, none, none, none]) (And.intro rfl (And.intro rfl (And.intro rfl (And.intro rfl (And.intro rfl (And.intro rfl (And.intro rfl (And.intro rfl (And.intro rfl (trivial)))))))))) k
      · have k := k.2 h
        refine wp_seg (C := gC195) (pc1 := 160) (Lo1 := [some (.ref 43), some (.int l1), some (.int l2), some (.long l3), none, some (.long l5), none, some (.int l7), some (.int l8), some (.int (l9 + (-1 : Int32))), some (.int l10), some (.int l11), some (.int l12), none, none, none]) (st1' := [.int (1 : Int32), .int ((l9 + (-1 : Int32)) - (1 : Int32)), .ref 50]) (w1 := (wv x I J)) hC195 2 rfl ?_
        refine ws_z (n := 64) rfl rfl k.1 ?_
        have k := k.2
        refine wp_seg (C := gC195) (pc1 := 6) (Lo1 := [some (.ref 43), some (.int l1), some (.int l2), some (.long l3), none, some (.long l5), none, some (.int l7), some (.int l8), some (.int (l9 + (-1 : Int32))), some (.int (l10 + (1 : Int32))), some (.int l11), some (.int l12), none, none, none]) (st1' := []) (w1 := (wv x (mSet I 50 (((l9 + (-1 : Int32)) - (1 : Int32)).toNatClampNeg) (vp_nar .boolean (1 : Int32))) J)) hC195 3 rfl ?_
        exact wp_sub (Lo := [some (.ref 43), some (.int l1), some (.int l2), some (.long l3), none, some (.long l5), none, some (.int l7), some (.int l8), some (.int (l9 + (-1 : Int32))), some (.int (l10 + (1 : Int32))), none, none, none, none, none]) (And.intro rfl (And.intro rfl (And.intro rfl (And.intro rfl (And.intro rfl (And.intro rfl (And.intro rfl (And.intro rfl (And.intro rfl (trivial)))))))))) k
    · have k := k.2 h
      refine wp_seg (C := gC195) (pc1 := 160) (Lo1 := [some (.ref 43), some (.int l1), some (.int l2), some (.long l3), none, some (.long l5), none, some (.int l7), some (.int l8), some (.int (l9 + (-1 : Int32))), some (.int l10), some (.int l11), some (.int l12), none, none, none]) (st1' := [.int (1 : Int32), .int ((l9 + (-1 : Int32)) - (1 : Int32)), .ref 50]) (w1 := (wv x I J)) hC195 2 rfl ?_
      refine ws_z (n := 64) rfl rfl k.1 ?_
      have k := k.2
      refine wp_seg (C := gC195) (pc1 := 6) (Lo1 := [some (.ref 43), some (.int l1), some (.int l2), some (.long l3), none, some (.long l5), none, some (.int l7), some (.int l8), some (.int (l9 + (-1 : Int32))), some (.int (l10 + (1 : Int32))), some (.int l11), some (.int l12), none, none, none]) (st1' := []) (w1 := (wv x (mSet I 50 (((l9 + (-1 : Int32)) - (1 : Int32)).toNatClampNeg) (vp_nar .boolean (1 : Int32))) J)) hC195 3 rfl ?_
      exact wp_sub (Lo := [some (.ref 43), some (.int l1), some (.int l2), some (.long l3), none, some (.long l5), none, some (.int l7), some (.int l8), some (.int (l9 + (-1 : Int32))), some (.int (l10 + (1 : Int32))), none, none, none, none, none]) (And.intro rfl (And.intro rfl (And.intro rfl (And.intro rfl (And.intro rfl (And.intro rfl (And.intro rfl (And.intro rfl (And.intro rfl (trivial)))))))))) k
set_option maxRecDepth 20000 in
theorem v195_43_224 {S : Nat × (Nat → Int32)} {d : Nat} {x : mX} {I : rI0} {J : rJ0} {l1 : Int32} {l2 : Int32} {l3 : Int64} {l5 : Int64} {l7 : Int32} {l8 : Int32} {l9 : Int32} {l10 : Int32} {l11 : Int32} {l12 : Int32} {s0 : Int32} {Q : Int32 → rI0 → rJ0 → Prop} (k : ((((l11 >>> ((8 : Int32) &&& 31)) &&& (3 : Int32)) = (0 : Int32) → ((s0 < (l11 >>> ((10 : Int32) &&& 31)) → (¬ mOut l9 64 ∧ wp S (d + 1) 195 6 [some (.ref 43), some (.int l1), some (.int l2), some (.long l3), none, some (.long l5), none, some (.int l7), some (.int l8), some (.int (l9 + (1 : Int32))), some (.int (l10 + (1 : Int32))), none, none, none, none, none] [] (wv x (mSet I 50 l9.toNatClampNeg (vp_nar .boolean (1 : Int32))) J) (rI x Q))) ∧ (¬ s0 < (l11 >>> ((10 : Int32) &&& 31)) → (¬ mOut l9 64 ∧ wp S (d + 1) 195 6 [some (.ref 43), some (.int l1), some (.int l2), some (.long l3), none, some (.long l5), none, some (.int l7), some (.int l8), some (.int (l9 + (1 : Int32))), some (.int (l10 + (1 : Int32))), none, none, none, none, none] [] (wv x (mSet I 50 l9.toNatClampNeg (vp_nar .boolean (0 : Int32))) J) (rI x Q))))) ∧ (¬ ((l11 >>> ((8 : Int32) &&& 31)) &&& (3 : Int32)) = (0 : Int32) → ((((l11 >>> ((8 : Int32) &&& 31)) &&& (3 : Int32)) = (1 : Int32) → ((s0 = (l11 >>> ((10 : Int32) &&& 31)) → (¬ mOut l9 64 ∧ wp S (d + 1) 195 6 [some (.ref 43), some (.int l1), some (.int l2), some (.long l3), none, some (.long l5), none, some (.int l7), some (.int l8), some (.int (l9 + (1 : Int32))), some (.int (l10 + (1 : Int32))), none, none, none, none, none] [] (wv x (mSet I 50 l9.toNatClampNeg (vp_nar .boolean (1 : Int32))) J) (rI x Q))) ∧ (¬ s0 = (l11 >>> ((10 : Int32) &&& 31)) → (¬ mOut l9 64 ∧ wp S (d + 1) 195 6 [some (.ref 43), some (.int l1), some (.int l2), some (.long l3), none, some (.long l5), none, some (.int l7), some (.int l8), some (.int (l9 + (1 : Int32))), some (.int (l10 + (1 : Int32))), none, none, none, none, none] [] (wv x (mSet I 50 l9.toNatClampNeg (vp_nar .boolean (0 : Int32))) J) (rI x Q))))) ∧ (¬ ((l11 >>> ((8 : Int32) &&& 31)) &&& (3 : Int32)) = (1 : Int32) → (((l11 >>> ((10 : Int32) &&& 31)) < s0 → (¬ mOut l9 64 ∧ wp S (d + 1) 195 6 [some (.ref 43), some (.int l1), some (.int l2), some (.long l3), none, some (.long l5), none, some (.int l7), some (.int l8), some (.int (l9 + (1 : Int32))), some (.int (l10 + (1 : Int32))), none, none, none, none, none] [] (wv x (mSet I 50 l9.toNatClampNeg (vp_nar .boolean (1 : Int32))) J) (rI x Q))) ∧ (¬ (l11 >>> ((10 : Int32) &&& 31)) < s0 → (¬ mOut l9 64 ∧ wp S (d + 1) 195 6 [some (.ref 43), some (.int l1), some (.int l2), some (.long l3), none, some (.long l5), none, some (.int l7), some (.int l8), some (.int (l9 + (1 : Int32))), some (.int (l10 + (1 : Int32))), none, none, none, none, none] [] (wv x (mSet I 50 l9.toNatClampNeg (vp_nar .boolean (0 : Int32))) J) (rI x Q))))))))) : wp S (d + 1) 195 224 [some (.ref 43), some (.int l1), some (.int l2), some (.long l3), none, some (.long l5), none, some (.int l7), some (.int l8), some (.int l9), some (.int l10), some (.int l11), some (.int l12), none, none, none] [.int s0] (wv x I J) (rI x Q) := by
  refine wp_seg (C := gC195) (pc1 := 235) (Lo1 := [some (.ref 43), some (.int l1), some (.int l2), some (.long l3), none, some (.long l5), none, some (.int l7), some (.int l8), some (.int l9), some (.int l10), some (.int l11), some (.int l12), some (.int s0), some (.int ((l11 >>> ((8 : Int32) &&& 31)) &&& (3 : Int32))), none]) (st1' := []) (w1 := (wv x I J)) hC195 7 rfl ?_
  refine wp_seg (C := gC195) (pc1 := 250) (Lo1 := [some (.ref 43), some (.int l1), some (.int l2), some (.long l3), none, some (.long l5), none, some (.int l7), some (.int l8), some (.int l9), some (.int l10), some (.int l11), some (.int l12), some (.int s0), some (.int ((l11 >>> ((8 : Int32) &&& 31)) &&& (3 : Int32))), some (.int (l11 >>> ((10 : Int32) &&& 31)))]) (st1' := [.int ((l11 >>> ((8 : Int32) &&& 31)) &&& (3 : Int32)), .int l9, .ref 50]) (w1 := (wv x I J)) hC195 8 rfl ?_
  refine wi_ne (tgt := 268) rfl rfl (fun h => ?_) (fun h => ?_)
  · have k := k.1 h
    refine wp_seg (C := gC195) (pc1 := 257) (Lo1 := [some (.ref 43), some (.int l1), some (.int l2), some (.long l3), none, some (.long l5), none, some (.int l7), some (.int l8), some (.int l9), some (.int l10), some (.int l11), some (.int l12), some (.int s0), some (.int ((l11 >>> ((8 : Int32) &&& 31)) &&& (3 : Int32))), some (.int (l11 >>> ((10 : Int32) &&& 31)))]) (st1' := [.int (l11 >>> ((10 : Int32) &&& 31)), .int s0, .int l9, .ref 50]) (w1 := (wv x I J)) hC195 2 rfl ?_
    refine wj_ge (tgt := 264) rfl rfl (fun h => ?_) (fun h => ?_)
    · have k := k.1 h
      refine wp_seg (C := gC195) (pc1 := 301) (Lo1 := [some (.ref 43), some (.int l1), some (.int l2), some (.long l3), none, some (.long l5), none, some (.int l7), some (.int l8), some (.int l9), some (.int l10), some (.int l11), some (.int l12), some (.int s0), some (.int ((l11 >>> ((8 : Int32) &&& 31)) &&& (3 : Int32))), some (.int (l11 >>> ((10 : Int32) &&& 31)))]) (st1' := [.int (1 : Int32), .int l9, .ref 50]) (w1 := (wv x I J)) hC195 2 rfl ?_
      refine ws_z (n := 64) rfl rfl k.1 ?_
      have k := k.2
      refine wp_seg (C := gC195) (pc1 := 308) (Lo1 := [some (.ref 43), some (.int l1), some (.int l2), some (.long l3), none, some (.long l5), none, some (.int l7), some (.int l8), some (.int (l9 + (1 : Int32))), some (.int (l10 + (1 : Int32))), some (.int l11), some (.int l12), some (.int s0), some (.int ((l11 >>> ((8 : Int32) &&& 31)) &&& (3 : Int32))), some (.int (l11 >>> ((10 : Int32) &&& 31)))]) (st1' := []) (w1 := (wv x (mSet I 50 l9.toNatClampNeg (vp_nar .boolean (1 : Int32))) J)) hC195 2 rfl ?_
      refine wp_seg (C := gC195) (pc1 := 6) (Lo1 := [some (.ref 43), some (.int l1), some (.int l2), some (.long l3), none, some (.long l5), none, some (.int l7), some (.int l8), some (.int (l9 + (1 : Int32))), some (.int (l10 + (1 : Int32))), some (.int l11), some (.int l12), some (.int s0), some (.int ((l11 >>> ((8 : Int32) &&& 31)) &&& (3 : Int32))), some (.int (l11 >>> ((10 : Int32) &&& 31)))]) (st1' := []) (w1 := (wv x (mSet I 50 l9.toNatClampNeg (vp_nar .boolean (1 : Int32))) J)) hC195 1 rfl ?_
      exact wp_sub (Lo := [some (.ref 43), some (.int l1), some (.int l2), some (.long l3), none, some (.long l5), none, some (.int l7), some (.int l8), some (.int (l9 + (1 : Int32))), some (.int (l10 + (1 : Int32))), none, none, none, none, none]) (And.intro rfl (And.intro rfl (And.intro rfl (And.intro rfl (And.intro rfl (And.intro rfl (And.intro rfl (And.intro rfl (And.intro rfl (trivial)))))))))) k
    · have k := k.2 h
      refine wp_seg (C := gC195) (pc1 := 301) (Lo1 := [some (.ref 43), some (.int l1), some (.int l2), some (.long l3), none, some (.long l5), none, some (.int l7), some (.int l8), some (.int l9), some (.int l10), some (.int l11), some (.int l12), some (.int s0), some (.int ((l11 >>> ((8 : Int32) &&& 31)) &&& (3 : Int32))), some (.int (l11 >>> ((10 : Int32) &&& 31)))]) (st1' := [.int (0 : Int32), .int l9, .ref 50]) (w1 := (wv x I J)) hC195 2 rfl ?_
      refine ws_z (n := 64) rfl rfl k.1 ?_
      have k := k.2
      refine wp_seg (C := gC195) (pc1 := 308) (Lo1 := [some (.ref 43), some (.int l1), some (.int l2), some (.long l3), none, some (.long l5), none, some (.int l7), some (.int l8), some (.int (l9 + (1 : Int32))), some (.int (l10 + (1 : Int32))), some (.int l11), some (.int l12), some (.int s0), some (.int ((l11 >>> ((8 : Int32) &&& 31)) &&& (3 : Int32))), some (.int (l11 >>> ((10 : Int32) &&& 31)))]) (st1' := []) (w1 := (wv x (mSet I 50 l9.toNatClampNeg (vp_nar .boolean (0 : Int32))) J)) hC195 2 rfl ?_
      refine wp_seg (C := gC195) (pc1 := 6) (Lo1 := [some (.ref 43), some (.int l1), some (.int l2), some (.long l3), none, some (.long l5), none, some (.int l7), some (.int l8), some (.int (l9 + (1 : Int32))), some (.int (l10 + (1 : Int32))), some (.int l11), some (.int l12), some (.int s0), some (.int ((l11 >>> ((8 : Int32) &&& 31)) &&& (3 : Int32))), some (.int (l11 >>> ((10 : Int32) &&& 31)))]) (st1' := []) (w1 := (wv x (mSet I 50 l9.toNatClampNeg (vp_nar .boolean (0 : Int32))) J)) hC195 1 rfl ?_
      exact wp_sub (Lo := [some (.ref 43), some (.int l1), some (.int l2), some (.long l3), none, some (.long l5), none, some (.int l7), some (.int l8), some (.int (l9 + (1 : Int32))), some (.int (l10 + (1 : Int32))), none, none, none, none, none]) (And.intro rfl (And.intro rfl (And.intro rfl (And.intro rfl (And.intro rfl (And.intro rfl (And.intro rfl (And.intro rfl (And.intro rfl (trivial)))))))))) k
  · have k := k.2 h
    refine wp_seg (C := gC195) (pc1 := 271) (Lo1 := [some (.ref 43), some (.int l1), some (.int l2), some (.long l3), none, some (.long l5), none, some (.int l7), some (.int l8), some (.int l9), some (.int l10), some (.int l11), some (.int l12), some (.int s0), some (.int ((l11 >>> ((8 : Int32) &&& 31)) &&& (3 : Int32))), some (.int (l11 >>> ((10 : Int32) &&& 31)))]) (st1' := [.int (1 : Int32), .int ((l11 >>> ((8 : Int32) &&& 31)) &&& (3 : Int32)), .int l9, .ref 50]) (w1 := (wv x I J)) hC195 2 rfl ?_
    refine wj_ne (tgt := 289) rfl rfl (fun h => ?_) (fun h => ?_)
    · have k := k.1 h
      refine wp_seg (C := gC195) (pc1 := 278) (Lo1 := [some (.ref 43), some (.int l1), some (.int l2), some (.long l3), none, some (.long l5), none, some (.int l7), some (.int l8), some (.int l9), some (.int l10), some (.int l11), some (.int l12), some (.int s0), some (.int ((l11 >>> ((8 : Int32) &&& 31)) &&& (3 : Int32))), some (.int (l11 >>> ((10 : Int32) &&& 31)))]) (st1' := [.int (l11 >>> ((10 : Int32) &&& 31)), .int s0, .int l9, .ref 50]) (w1 := (wv x I J)) hC195 2 rfl ?_
      refine wj_ne (tgt := 285) rfl rfl (fun h => ?_) (fun h => ?_)
      · have k := k.1 h
        refine wp_seg (C := gC195) (pc1 := 301) (Lo1 := [some (.ref 43), some (.int l1), some (.int l2), some (.long l3), none, some (.long l5), none, some (.int l7), some (.int l8), some (.int l9), some (.int l10), some (.int l11), some (.int l12), some (.int s0), some (.int ((l11 >>> ((8 : Int32) &&& 31)) &&& (3 : Int32))), some (.int (l11 >>> ((10 : Int32) &&& 31)))]) (st1' := [.int (1 : Int32), .int l9, .ref 50]) (w1 := (wv x I J)) hC195 2 rfl ?_
        refine ws_z (n := 64) rfl rfl k.1 ?_
        have k := k.2
        refine wp_seg (C := gC195) (pc1 := 308) (Lo1 := [some (.ref 43), some (.int l1), some (.int l2), some (.long l3), none, some (.long l5), none, some (.int l7), some (.int l8), some (.int (l9 + (1 : Int32))), some (.int (l10 + (1 : Int32))), some (.int l11), some (.int l12), some (.int s0), some (.int ((l11 >>> ((8 : Int32) &&& 31)) &&& (3 : Int32))), some (.int (l11 >>> ((10 : Int32) &&& 31)))]) (st1' := []) (w1 := (wv x (mSet I 50 l9.toNatClampNeg (vp_nar .boolean (1 : Int32))) J)) hC195 2 rfl ?_
        refine wp_seg (C := gC195) (pc1 := 6) (Lo1 := [some (.ref 43), some (.int l1), some (.int l2), some (.long l3), none, some (.long l5), none, some (.int l7), some (.int l8), some (.int (l9 + (1 : Int32))), some (.int (l10 + (1 : Int32))), some (.int l11), some (.int l12), some (.int s0), some (.int ((l11 >>> ((8 : Int32) &&& 31)) &&& (3 : Int32))), some (.int (l11 >>> ((10 : Int32) &&& 31)))]) (st1' := []) (w1 := (wv x (mSet I 50 l9.toNatClampNeg (vp_nar .boolean (1 : Int32))) J)) hC195 1 rfl ?_
        exact wp_sub (Lo := [some (.ref 43), some (.int l1), some (.int l2), some (.long l3), none, some (.long l5), none, some (.int l7), some (.int l8), some (.int (l9 + (1 : Int32))), some (.int (l10 + (1 : Int32))), none, none, none, none, none]) (And.intro rfl (And.intro rfl (And.intro rfl (And.intro rfl (And.intro rfl (And.intro rfl (And.intro rfl (And.intro rfl (And.intro rfl (trivial)))))))))) k
      · have k := k.2 h
        refine wp_seg (C := gC195) (pc1 := 301) (Lo1 := [some (.ref 43), some (.int l1), some (.int l2), some (.long l3), none, some (.long l5), none, some (.int l7), some (.int l8), some (.int l9), some (.int l10), some (.int l11), some (.int l12), some (.int s0), some (.int ((l11 >>> ((8 : Int32) &&& 31)) &&& (3 : Int32))), some (.int (l11 >>> ((10 : Int32) &&& 31)))]) (st1' := [.int (0 : Int32), .int l9, .ref 50]) (w1 := (wv x I J)) hC195 2 rfl ?_
        refine ws_z (n := 64) rfl rfl k.1 ?_
        have k := k.2
        refine wp_seg (C := gC195) (pc1 := 308) (Lo1 := [some (.ref 43), some (.int l1), some (.int l2), some (.long l3), none, some (.long l5), none, some (.int l7), some (.int l8), some (.int (l9 + (1 : Int32))), some (.int (l10 + (1 : Int32))), some (.int l11), some (.int l12), some (.int s0), some (.int ((l11 >>> ((8 : Int32) &&& 31)) &&& (3 : Int32))), some (.int (l11 >>> ((10 : Int32) &&& 31)))]) (st1' := []) (w1 := (wv x (mSet I 50 l9.toNatClampNeg (vp_nar .boolean (0 : Int32))) J)) hC195 2 rfl ?_
        refine wp_seg (C := gC195) (pc1 := 6) (Lo1 := [some (.ref 43), some (.int l1), some (.int l2), some (.long l3), none, some (.long l5), none, some (.int l7), some (.int l8), some (.int (l9 + (1 : Int32))), some (.int (l10 + (1 : Int32))), some (.int l11), some (.int l12), some (.int s0), some (.int ((l11 >>> ((8 : Int32) &&& 31)) &&& (3 : Int32))), some (.int (l11 >>> ((10 : Int32) &&& 31)))]) (st1' := []) (w1 := (wv x (mSet I 50 l9.toNatClampNeg (vp_nar .boolean (0 : Int32))) J)) hC195 1 rfl ?_
        exact wp_sub (Lo := [some (.ref 43), some (.int l1), some (.int l2), some (.long l3), none, some (.long l5), none, some (.int l7), some (.int l8), some (.int (l9 + (1 : Int32))), some (.int (l10 + (1 : Int32))), none, none, none, none, none]) (And.intro rfl (And.intro rfl (And.intro rfl (And.intro rfl (And.intro rfl (And.intro rfl (And.intro rfl (And.intro rfl (And.intro rfl (trivial)))))))))) k
    · have k := k.2 h
      refine wp_seg (C := gC195) (pc1 := 293) (Lo1 := [some (.ref 43), some (.int l1), some (.int l2), some (.long l3), none, some (.long l5), none, some (.int l7), some (.int l8), some (.int l9), some (.int l10), some (.int l11), some (.int l12), some (.int s0), some (.int ((l11 >>> ((8 : Int32) &&& 31)) &&& (3 : Int32))), some (.int (l11 >>> ((10 : Int32) &&& 31)))]) (st1' := [.int (l11 >>> ((10 : Int32) &&& 31)), .int s0, .int l9, .ref 50]) (w1 := (wv x I J)) hC195 2 rfl ?_
      refine wj_le (tgt := 300) rfl rfl (fun h => ?_) (fun h => ?_)
      · have k := k.1 h
        refine wp_seg (C := gC195) (pc1 := 301) (Lo1 := [some (.ref 43), some (.int l1), some (.int l2), some (.long l3), none, some (.long l5), none, some (.int l7), some (.int l8), some (.int l9), some (.int l10), some (.int l11), some (.int l12), some (.int s0), some (.int ((l11 >>> ((8 : Int32) &&& 31)) &&& (3 : Int32))), some (.int (l11 >>> ((10 : Int32) &&& 31)))]) (st1' := [.int (1 : Int32), .int l9, .ref 50]) (w1 := (wv x I J)) hC195 2 rfl ?_
        refine ws_z (n := 64) rfl rfl k.1 ?_
        have k := k.2
        refine wp_seg (C := gC195) (pc1 := 308) (Lo1 := [some (.ref 43), some (.int l1), some (.int l2), some (.long l3), none, some (.long l5), none, some (.int l7), some (.int l8), some (.int (l9 + (1 : Int32))), some (.int (l10 + (1 : Int32))), some (.int l11), some (.int l12), some (.int s0), some (.int ((l11 >>> ((8 : Int32) &&& 31)) &&& (3 : Int32))), some (.int (l11 >>> ((10 : Int32) &&& 31)))]) (st1' := []) (w1 := (wv x (mSet I 50 l9.toNatClampNeg (vp_nar .boolean (1 : Int32))) J)) hC195 2 rfl ?_
        refine wp_seg (C := gC195) (pc1 := 6) (Lo1 := [some (.ref 43), some (.int l1), some (.int l2), some (.long l3), none, some (.long l5), none, some (.int l7), some (.int l8), some (.int (l9 + (1 : Int32))), some (.int (l10 + (1 : Int32))), some (.int l11), some (.int l12), some (.int s0), some (.int ((l11 >>> ((8 : Int32) &&& 31)) &&& (3 : Int32))), some (.int (l11 >>> ((10 : Int32) &&& 31)))]) (st1' := []) (w1 := (wv x (mSet I 50 l9.toNatClampNeg (vp_nar .boolean (1 : Int32))) J)) hC195 1 rfl ?_
        exact wp_sub (Lo := [some (.ref 43), some (.int l1), some (.int l2), some (.long l3), none, some (.long l5), none, some (.int l7), some (.int l8), some (.int (l9 + (1 : Int32))), some (.int (l10 + (1 : Int32))), none, none, none, none, none]) (And.intro rfl (And.intro rfl (And.intro rfl (And.intro rfl (And.intro rfl (And.intro rfl (And.intro rfl (And.intro rfl (And.intro rfl (trivial)))))))))) k
      · have k := k.2 h
        refine wp_seg (C := gC195) (pc1 := 301) (Lo1 := [some (.ref 43), some (.int l1), some (.int l2), some (.long l3), none, some (.long l5), none, some (.int l7), some (.int l8), some (.int l9), some (.int l10), some (.int l11), some (.int l12), some (.int s0), some (.int ((l11 >>> ((8 : Int32) &&& 31)) &&& (3 : Int32))), some (.int (l11 >>> ((10 : Int32) &&& 31)))]) (st1' := [.int (0 : Int32), .int l9, .ref 50]) (w1 := (wv x I J)) hC195 1 rfl ?_
        refine ws_z (n := 64) rfl rfl k.1 ?_
        have k := k.2
        refine wp_seg (C := gC195) (pc1 := 308) (Lo1 := [some (.ref 43), some (.int l1), some (.int l2), some (.long l3), none, some (.long l5), none, some (.int l7), some (.int l8), some (.int (l9 + (1 : Int32))), some (.int (l10 + (1 : Int32))), some (.int l11), some (.int l12), some (.int s0), some (.int ((l11 >>> ((8 : Int32) &&& 31)) &&& (3 : Int32))), some (.int (l11 >>> ((10 : Int32) &&& 31)))]) (st1' := []) (w1 := (wv x (mSet I 50 l9.toNatClampNeg (vp_nar .boolean (0 : Int32))) J)) hC195 2 rfl ?_
        refine wp_seg (C := gC195) (pc1 := 6) (Lo1 := [some (.ref 43), some (.int l1), some (.int l2), some (.long l3), none, some (.long l5), none, some (.int l7), some (.int l8), some (.int (l9 + (1 : Int32))), some (.int (l10 + (1 : Int32))), some (.int l11), some (.int l12), some (.int s0), some (.int ((l11 >>> ((8 : Int32) &&& 31)) &&& (3 : Int32))), some (.int (l11 >>> ((10 : Int32) &&& 31)))]) (st1' := []) (w1 := (wv x (mSet I 50 l9.toNatClampNeg (vp_nar .boolean (0 : Int32))) J)) hC195 1 rfl ?_
        exact wp_sub (Lo := [some (.ref 43), some (.int l1), some (.int l2), some (.long l3), none, some (.long l5), none, some (.int l7), some (.int l8), some (.int (l9 + (1 : Int32))), some (.int (l10 + (1 : Int32))), none, none, none, none, none]) (And.intro rfl (And.intro rfl (And.intro rfl (And.intro rfl (And.intro rfl (And.intro rfl (And.intro rfl (And.intro rfl (And.intro rfl (trivial)))))))))) k
