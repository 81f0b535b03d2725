set_option maxRecDepth 20000 in
theorem v62_41_166 {S : Nat × (Nat → Int32)} {d : Nat} {x : mX} {I : rI0} {J : rJ0} {l1 : Int32} {l2 : Int64} {l4 : Int32} {l5 : Int32} {l6 : Int32} {l7 : Int32} {l8 : Int32} {l9 : Int32} {s0 : Int32} {Q : Int64 → rI0 → rJ0 → Prop} (k : ((l6 = (6 : Int32) → (wcJ S d 63 [.ref 41, .int l9, .int s0] x I J (fun r1 I1 J1 => Q (l2 &&& r1) I1 J1))) ∧ (¬ l6 = (6 : Int32) → ((l6 = (7 : Int32) → (wcJ S d 64 [.ref 41, .int l9, .int s0] x I J (fun r2 I2 J2 => Q (l2 &&& r2) I2 J2))) ∧ (¬ l6 = (7 : Int32) → (((((l5.toUInt32 >>> ((12 : Int32).toUInt32 &&& Int32.toUInt32 31)).toInt32) &&& (3 : Int32)) = (1 : Int32) → wp S (d + 1) 62 237 [some (.ref 41), some (.int l1), some (.long l2), none, some (.int l4), some (.int l5), some (.int l6), some (.int l7), some (.int l8), some (.int l9), some (.int s0), some (.long (J 41 8)), none, some (.long (0 : Int64)), none, some (.long l2), none, some (.int (0 : Int32)), none] [] (wv x I J) (rJ x Q)) ∧ (¬ (((l5.toUInt32 >>> ((12 : Int32).toUInt32 &&& Int32.toUInt32 31)).toInt32) &&& (3 : Int32)) = (1 : Int32) → wp S (d + 1) 62 237 [some (.ref 41), some (.int l1), some (.long l2), none, some (.int l4), some (.int l5), some (.int l6), some (.int l7), some (.int l8), some (.int l9), some (.int s0), some (.long (J 41 9)), none, some (.long (0 : Int64)), none, some (.long l2), none, some (.int (0 : Int32)), none] [] (wv x I J) (rJ x Q)))))))) : wp S (d + 1) 62 166 [some (.ref 41), some (.int l1), some (.long l2), none, some (.int l4), some (.int l5), some (.int l6), some (.int l7), some (.int l8), some (.int l9), none, none, none, none, none, none, none, none, none] [.int s0] (wv x I J) (rJ x Q) := by
  refine wp_seg (C := gC62) (pc1 := 172) (Lo1 := [some (.ref 41), some (.int l1), some (.long l2), none, some (.int l4), some (.int l5), some (.int l6), some (.int l7), some (.int l8), some (.int l9), some (.int s0), none, none, none, none, none, none, none, none]) (st1' := [.int (6 : Int32), .int l6]) (w1 := (wv x I J)) hC62 3 rfl ?_
  refine wj_ne (tgt := 186) rfl rfl (fun h => ?_) (fun h => ?_)
  · have k := k.1 h
    refine wp_seg (C := gC62) (pc1 := 181) (Lo1 := [some (.ref 41), some (.int l1), some (.long l2), none, some (.int l4), some (.int l5), some (.int l6), some (.int l7), some (.int l8), some (.int l9), some (.int s0), none, none, none, none, none, none, none, none]) (st1' := [.int s0, .int l9, .ref 41, .long l2]) (w1 := (wv x I J)) hC62 4 rfl ?_
    refine cv_J (mj := 63) (a := 41) (as := [.int l9, .int s0]) (r := [.long l2]) rfl rfl rfl ⟨rfl, by decide, Nat.le_of_ble_eq_true rfl, Nat.le_of_ble_eq_true rfl⟩ rfl (wcJ_mono k (fun r1 I1 J1 k => ?_))
    refine wp_seg (C := gC62) (pc1 := 185) (Lo1 := [some (.ref 41), some (.int l1), some (.long l2), none, some (.int l4), some (.int l5), some (.int l6), some (.int l7), some (.int l8), some (.int l9), some (.int s0), none, none, none, none, none, none, none, none]) (st1' := [.long (l2 &&& r1)]) (w1 := (wv x I1 J1)) hC62 1 rfl ?_
    exact we_l rfl rfl k
  · have k := k.2 h
    refine wp_seg (C := gC62) (pc1 := 190) (Lo1 := [some (.ref 41), some (.int l1), some (.long l2), none, some (.int l4), some (.int l5), some (.int l6), some (.int l7), some (.int l8), some (.int l9), some (.int s0), none, none, none, none, none, none, none, none]) (st1' := [.int (7 : Int32), .int l6]) (w1 := (wv x I J)) hC62 2 rfl ?_
    refine wj_ne (tgt := 204) rfl rfl (fun h => ?_) (fun h => ?_)
    · have k := k.1 h
      refine wp_seg (C := gC62) (pc1 := 199) (Lo1 := [some (.ref 41), some (.int l1), some (.long l2), none, some (.int l4), some (.int l5), some (.int l6), some (.int l7), some (.int l8), some (.int l9), some (.int s0), none, none, none, none, none, none, none, none]) (st1' := [.int s0, .int l9, .ref 41, .long l2]) (w1 := (wv x I J)) hC62 4 rfl ?_
      refine cv_J (mj := 64) (a := 41) (as := [.int l9, .int s0]) (r := [.long l2]) rfl rfl rfl ⟨rfl, by decide, Nat.le_of_ble_eq_true rfl, Nat.le_of_ble_eq_true rfl⟩ rfl (wcJ_mono k (fun r2 I2 J2 k => ?_))
      refine wp_seg (C := gC62) (pc1 := 203) (Lo1 := [some (.ref 41), some (.int l1), some (.long l2), none, some (.int l4), some (.int l5), some (.int l6), some (.int l7), some (.int l8), some (.int l9), some (.int s0), none, none, none, none, none, none, none, none]) (st1' := [.long (l2 &&& r2)]) (w1 := (wv x I2 J2)) hC62 1 rfl ?_
      exact we_l rfl rfl k
    · have k := k.2 h
      refine wp_seg (C := gC62) (pc1 := 212) (Lo1 := [some (.ref 41), some (.int l1), some (.long l2), none, some (.int l4), some (.int l5), some (.int l6), some (.int l7), some (.int l8), some (.int l9), some (.int s0), none, none, none, none, none, none, none, none]) (st1' := [.int (1 : Int32), .int (((l5.toUInt32 >>> ((12 : Int32).toUInt32 &&& Int32.toUInt32 31)).toInt32) &&& (3 : Int32))]) (w1 := (wv x I J)) hC62 6 rfl ?_
      refine wj_ne (tgt := 222) rfl rfl (fun h => ?_) (fun h => ?_)
      · have k := k.1 h
        refine wp_seg (C := gC62) (pc1 := 231) (Lo1 := [some (.ref 41), some (.int l1), some (.long l2), none, some (.int l4), some (.int l5), some (.int l6), some (.int l7), some (.int l8), some (.int l9), some (.int s0), some (.long (J 41 8)), none, some (.long (0 : Int64)), none, none, none, none, none]) (st1' := []) (w1 := (wv x I J)) hC62 6 rfl ?_
        refine wp_seg (C := gC62) (pc1 := 237) (Lo1 := [some (.ref 41), some (.int l1), some (.long l2), none, some (.int l4), some (.int l5), some (.int l6), some (.int l7), some (.int l8), some (.int l9), some (.int s0), some (.long (J 41 8)), none, some (.long (0 : Int64)), none, some (.long l2), none, some (.int (0 : Int32)), none]) (st1' := []) (w1 := (wv x I J)) hC62 4 rfl ?_
        exact k
      · have k := k.2 h
        refine wp_seg (C := gC62) (pc1 := 231) (Lo1 := [some (.ref 41), some (.int l1), some (.long l2), none, some (.int l4), some (.int l5), some (.int l6), some (.int l7), some (.int l8), some (.int l9), some (.int s0), some (.long (J 41 9)), none, some (.long (0 : Int64)), none, none, none, none, none]) (st1' := []) (w1 := (wv x I J)) hC62 5 rfl ?_
        refine wp_seg (C := gC62) (pc1 := 237) (Lo1 := [some (.ref 41), some (.int l1), some (.long l2), none, some (.int l4), some (.int l5), some (.int l6), some (.int l7), some (.int l8), some (.int l9), some (.int s0), some (.long (J 41 9)), none, some (.long (0 : Int64)), none, some (.long l2), none, some (.int (0 : Int32)), none]) (st1' := []) (w1 := (wv x I J)) hC62 4 rfl ?_
        exact k
set_option maxRecDepth 20000 in
theorem v62_41_237 {S : Nat × (Nat → Int32)} {d : Nat} {x : mX} {I : rI0} {J : rJ0} {l1 : Int32} {l2 : Int64} {l4 : Int32} {l5 : Int32} {l6 : Int32} {l7 : Int32} {l8 : Int32} {l9 : Int32} {l10 : Int32} {l11 : Int64} {l13 : Int64} {l15 : Int64} {l17 : Int32} {Q : Int64 → rI0 → rJ0 → Prop} (k : ((l17 < (64 : Int32) → ((l6 < (6 : Int32) → (((lg_cmp l15 (0 : Int64)) = (0 : Int32) → Q l13 I J) ∧ (¬ (lg_cmp l15 (0 : Int64)) = (0 : Int32) → (((lg_cmp (l15 &&& (1 : Int64)) (0 : Int64)) = (0 : Int32) → wp S (d + 1) 62 237 [some (.ref 41), some (.int l1), some (.long l2), none, some (.int l4), some (.int l5), some (.int l6), some (.int l7), some (.int l8), some (.int l9), some (.int l10), some (.long l11), none, some (.long l13), none, some (.long ((l15.toUInt64 >>> ((1 : Int32).toInt64.toUInt64 &&& Int64.toUInt64 63)).toInt64)), none, some (.int (l17 + (1 : Int32))), none] [] (wv x I J) (rJ x Q)) ∧ (¬ (lg_cmp (l15 &&& (1 : Int64)) (0 : Int64)) = (0 : Int32) → (¬ mOut ((l6 * (64 : Int32)) + l17) 384 ∧ (wcI S d 250 [.long ((J 11 (((l6 * (64 : Int32)) + l17).toNatClampNeg)) &&& l11)] x I J (fun r1 I1 J1 => ((r1 < l9 → wp S (d + 1) 62 237 [some (.ref 41), some (.int l1), some (.long l2), none, some (.int l4), some (.int l5), some (.int l6), some (.int l7), some (.int l8), some (.int l9), some (.int l10), some (.long l11), none, some (.long l13), none, some (.long ((l15.toUInt64 >>> ((1 : Int32).toInt64.toUInt64 &&& Int64.toUInt64 63)).toInt64)), none, some (.int (l17 + (1 : Int32))), none] [] (wv x I1 J1) (rJ x Q)) ∧ (¬ r1 < l9 → ((l10 < r1 → wp S (d + 1) 62 237 [some (.ref 41), some (.int l1), some (.long l2), none, some (.int l4), some (.int l5), some (.int l6), some (.int l7), some (.int l8), some (.int l9), some (.int l10), some (.long l11), none, some (.long l13), none, some (.long ((l15.toUInt64 >>> ((1 : Int32).toInt64.toUInt64 &&& Int64.toUInt64 63)).toInt64)), none, some (.int (l17 + (1 : Int32))), none] [] (wv x I1 J1) (rJ x Q)) ∧ (¬ l10 < r1 → wp S (d + 1) 62 237 [some (.ref 41), some (.int l1), some (.long l2), none, some (.int l4), some (.int l5), some (.int l6), some (.int l7), some (.int l8), some (.int l9), some (.int l10), some (.long l11), none, some (.long (l13 ||| ((1 : Int64) <<< (l17.toInt64 &&& 63)))), none, some (.long ((l15.toUInt64 >>> ((1 : Int32).toInt64.toUInt64 &&& Int64.toUInt64 63)).toInt64)), none, some (.int (l17 + (1 : Int32))), none] [] (wv x I1 J1) (rJ x Q))))))))))))) ∧ (¬ l6 < (6 : Int32) → Q l13 I J))) ∧ (¬ l17 < (64 : Int32) → Q l13 I J))) : wp S (d + 1) 62 237 [some (.ref 41), some (.int l1), some (.long l2), none, some (.int l4), some (.int l5), some (.int l6), some (.int l7), some (.int l8), some (.int l9), some (.int l10), some (.long l11), none, some (.long l13), none, some (.long l15), none, some (.int l17), none] [] (wv x I J) (rJ x Q) := by
  refine wp_seg (C := gC62) (pc1 := 241) (Lo1 := [some (.ref 41), some (.int l1), some (.long l2), none, some (.int l4), some (.int l5), some (.int l6), some (.int l7), some (.int l8), some (.int l9), some (.int l10), some (.long l11), none, some (.long l13), none, some (.long l15), none, some (.int l17), none]) (st1' := [.int (64 : Int32), .int l17]) (w1 := (wv x I J)) hC62 2 rfl ?_
  refine wj_ge (tgt := 326) rfl rfl (fun h => ?_) (fun h => ?_)
  · have k := k.1 h
    refine wp_seg (C := gC62) (pc1 := 248) (Lo1 := [some (.ref 41), some (.int l1), some (.long l2), none, some (.int l4), some (.int l5), some (.int l6), some (.int l7), some (.int l8), some (.int l9), some (.int l10), some (.long l11), none, some (.long l13), none, some (.long l15), none, some (.int l17), none]) (st1' := [.int (6 : Int32), .int l6]) (w1 := (wv x I J)) hC62 2 rfl ?_
    refine wj_ge (tgt := 326) rfl rfl (fun h => ?_) (fun h => ?_)
    · have k := k.1 h
      refine wp_seg (C := gC62) (pc1 := 255) (Lo1 := [some (.ref 41), some (.int l1), some (.long l2), none, some (.int l4), some (.int l5), some (.int l6), some (.int l7), some (.int l8), some (.int l9), some (.int l10), some (.long l11), none, some (.long l13), none, some (.long l15), none, some (.int l17), none]) (st1' := [.int (lg_cmp l15 (0 : Int64))]) (w1 := (wv x I J)) hC62 3 rfl ?_
      refine wi_eq (tgt := 326) rfl rfl (fun h => ?_) (fun h => ?_)
      · have k := k.1 h
        refine wp_seg (C := gC62) (pc1 := 328) (Lo1 := [some (.ref 41), some (.int l1), some (.long l2), none, some (.int l4), some (.int l5), some (.int l6), some (.int l7), some (.int l8), some (.int l9), some (.int l10), some (.long l11), none, some (.long l13), none, some (.long l15), none, some (.int l17), none]) (st1' := [.long l13]) (w1 := (wv x I J)) hC62 1 rfl ?_
        exact we_l rfl rfl k
      · have k := k.2 h
        refine wp_seg (C := gC62) (pc1 := 264) (Lo1 := [some (.ref 41), some (.int l1), some (.long l2), none, some (.int l4), some (.int l5), some (.int l6), some (.int l7), some (.int l8), some (.int l9), some (.int l10), some (.long l11), none, some (.long l13), none, some (.long l15), none, some (.int l17), none]) (st1' := [.int (lg_cmp (l15 &&& (1 : Int64)) (0 : Int64))]) (w1 := (wv x I J)) hC62 5 rfl ?_
        refine wi_eq (tgt := 314) rfl rfl (fun h => ?_) (fun h => ?_)
        · have k := k.1 h
          refine wp_seg (C := gC62) (pc1 := 323) (Lo1 := [some (.ref 41), some (.int l1), some (.long l2), none, some (.int l4), some (.int l5), some (.int l6), some (.int l7), some (.int l8), some (.int l9), some (.int l10), some (.long l11), none, some (.long l13), none, some (.long ((l15.toUInt64 >>> ((1 : Int32).toInt64.toUInt64 &&& Int64.toUInt64 63)).toInt64)), none, some (.int (l17 + (1 : Int32))), none]) (st1' := []) (w1 := (wv x I J)) hC62 5 rfl ?_
          refine wp_seg (C := gC62) (pc1 := 237) (Lo1 := [some (.ref 41), some (.int l1), some (.long l2), none, some (.int l4), some (.int l5), some (.int l6), some (.int l7), some (.int l8), some (.int l9), some (.int l10), some (.long l11), none, some (.long l13), none, some (.long ((l15.toUInt64 >>> ((1 : Int32).toInt64.toUInt64 &&& Int64.toUInt64 63)).toInt64)), none, some (.int (l17 + (1 : Int32))), none]) (st1' := []) (w1 := (wv x I J)) hC62 1 rfl ?_
          exact k
        · have k := k.2 h
          refine wp_seg (C := gC62) (pc1 := 282) (Lo1 := [some (.ref 41), some (.int l1), some (.long l2), none, some (.int l4), some (.int l5), some (.int l6), some (.int l7), some (.int l8), some (.int l9), some (.int l10), some (.long l11), none, some (.long l13), none, some (.long l15), none, some (.int l17), none]) (st1' := [.int ((l6 * (64 : Int32)) + l17), .ref 11]) (w1 := (wv x I J)) hC62 8 rfl ?_
          refine wa_l (n := 384) rfl rfl k.1 ?_
          have k := k.2
          refine wp_seg (C := gC62) (pc1 := 286) (Lo1 := [some (.ref 41), some (.int l1), some (.long l2), none, some (.int l4), some (.int l5), some (.int l6), some (.int l7), some (.int l8), some (.int l9), some (.int l10), some (.long l11), none, some (.long l13), none, some (.long l15), none, some (.int l17), none]) (st1' := [.long ((J 11 (((l6 * (64 : Int32)) + l17).toNatClampNeg)) &&& l11)]) (w1 := (wv x I J)) hC62 2 rfl ?_
          refine cs_I (mj := 250) (nn := 0) (as := [.long ((J 11 (((l6 * (64 : Int32)) + l17).toNatClampNeg)) &&& l11)]) (r := []) rfl rfl rfl ⟨rfl, by decide, Nat.le_of_ble_eq_true rfl, Nat.le_of_ble_eq_true rfl⟩ (by decide) (wcI_mono k (fun r1 I1 J1 k => ?_))
          refine wp_seg (C := gC62) (pc1 := 295) (Lo1 := [some (.ref 41), some (.int l1), some (.long l2), none, some (.int l4), some (.int l5), some (.int l6), some (.int l7), some (.int l8), some (.int l9), some (.int l10), some (.long l11), none, some (.long l13), none, some (.long l15), none, some (.int l17), some (.int r1)]) (st1' := [.int l9, .int r1]) (w1 := (wv x I1 J1)) hC62 3 rfl ?_
          refine wj_lt (tgt := 314) rfl rfl (fun h => ?_) (fun h => ?_)
          · have k := k.1 h
            refine wp_seg (C := gC62) (pc1 := 323) (Lo1 := [some (.ref 41), some (.int l1), some (.long l2), none, some (.int l4), some (.int l5), some (.int l6), some (.int l7), some (.int l8), some (.int l9), some (.int l10), some (.long l11), none, some (.long l13), none, some (.long ((l15.toUInt64 >>> ((1 : Int32).toInt64.toUInt64 &&& Int64.toUInt64 63)).toInt64)), none, some (.int (l17 + (1 : Int32))), some (.int r1)]) (st1' := []) (w1 := (wv x I1 J1)) hC62 5 rfl ?_
            refine wp_seg (C := gC62) (pc1 := 237) (Lo1 := [some (.ref 41), some (.int l1), some (.long l2), none, some (.int l4), some (.int l5), some (.int l6), some (.int l7), some (.int l8), some (.int l9), some (.int l10), some (.long l11), none, some (.long l13), none, some (.long ((l15.toUInt64 >>> ((1 : Int32).toInt64.toUInt64 &&& Int64.toUInt64 63)).toInt64)), none, some (.int (l17 + (1 : Int32))), some (.int r1)]) (st1' := []) (w1 := (wv x I1 J1)) hC62 1 rfl ?_
            exact wp_sub (Lo := [some (.ref 41), some (.int l1), some (.long l2), none, some (.int l4), some (.int l5), some (.int l6), some (.int l7), some (.int l8), some (.int l9), some (.int l10), some (.long l11), none, some (.long l13), none, some (.long ((l15.toUInt64 >>> ((1 : Int32).toInt64.toUInt64 &&& Int64.toUInt64 63)).toInt64)), none, some (.int (l17 + (1 : Int32))), none]) (And.intro rfl (And.intro rfl (And.intro rfl (And.intro rfl (And.intro rfl (And.intro rfl (And.intro rfl (And.intro rfl (And.intro rfl (And.intro rfl (And.intro rfl (And.intro rfl (And.intro rfl (And.intro rfl (trivial))))))))))))))) k
          · have k := k.2 h
            refine wp_seg (C := gC62) (pc1 := 302) (Lo1 := [some (.ref 41), some (.int l1), some (.long l2), none, some (.int l4), some (.int l5), some (.int l6), some (.int l7), some (.int l8), some (.int l9), some (.int l10), some (.long l11), none, some (.long l13), none, some (.long l15), none, some (.int l17), some (.int r1)]) (st1' := [.int l10, .int r1]) (w1 := (wv x I1 J1)) hC62 2 rfl ?_
            refine wj_gt (tgt := 314) rfl rfl (fun h => ?_) (fun h => ?_)
            · have k := k.1 h
              refine wp_seg (C := gC62) (pc1 := 323) (Lo1 := [some (.ref 41), some (.int l1), some (.long l2), none, some (.int l4), some (.int l5), some (.int l6), some (.int l7), some (.int l8), some (.int l9), some (.int l10), some (.long l11), none, some (.long l13), none, some (.long ((l15.toUInt64 >>> ((1 : Int32).toInt64.toUInt64 &&& Int64.toUInt64 63)).toInt64)), none, some (.int (l17 + (1 : Int32))), some (.int r1)]) (st1' := []) (w1 := (wv x I1 J1)) hC62 5 rfl ?_
              refine wp_seg (C := gC62) (pc1 := 237) (Lo1 := [some (.ref 41), some (.int l1), some (.long l2), none, some (.int l4), some (.int l5), some (.int l6), some (.int l7), some (.int l8), some (.int l9), some (.int l10), some (.long l11), none, some (.long l13), none, some (.long ((l15.toUInt64 >>> ((1 : Int32).toInt64.toUInt64 &&& Int64.toUInt64 63)).toInt64)), none, some (.int (l17 + (1 : Int32))), some (.int r1)]) (st1' := []) (w1 := (wv x I1 J1)) hC62 1 rfl ?_
              exact wp_sub (Lo := [some (.ref 41), some (.int l1), some (.long l2), none, some (.int l4), some (.int l5), some (.int l6), some (.int l7), some (.int l8), some (.int l9), some (.int l10), some (.long l11), none, some (.long l13), none, some (.long ((l15.toUInt64 >>> ((1 : Int32).toInt64.toUInt64 &&& Int64.toUInt64 63)).toInt64)), none, some (.int (l17 + (1 : Int32))), none]) (And.intro rfl (And.intro rfl (And.intro rfl (And.intro rfl (And.intro rfl (And.intro rfl (And.intro rfl (And.intro rfl (And.intro rfl (And.intro rfl (And.intro rfl (And.intro rfl (And.intro rfl (And.intro rfl (trivial))))))))))))))) k
            · have k := k.2 h
              refine wp_seg (C := gC62) (pc1 := 320) (Lo1 := [some (.ref 41), some (.int l1), some (.long l2), none, some (.int l4), some (.int l5), some (.int l6), some (.int l7), some (.int l8), some (.int l9), some (.int l10), some (.long l11), none, some (.long (l13 ||| ((1 : Int64) <<< (l17.toInt64 &&& 63)))), none, some (.long ((l15.toUInt64 >>> ((1 : Int32).toInt64.toUInt64 &&& Int64.toUInt64 63)).toInt64)), none, some (.int l17), some (.int r1)]) (st1' := []) (w1 := (wv x I1 J1)) hC62 10 rfl ?_
              refine wp_seg (C := gC62) (pc1 := 237) (Lo1 := [some (.ref 41), some (.int l1), some (.long l2), none, some (.int l4), some (.int l5), some (.int l6), some (.int l7), some (.int l8), some (.int l9), some (.int l10), some (.long l11), none, some (.long (l13 ||| ((1 : Int64) <<< (l17.toInt64 &&& 63)))), none, some (.long ((l15.toUInt64 >>> ((1 : Int32).toInt64.toUInt64 &&& Int64.toUInt64 63)).toInt64)), none, some (.int (l17 + (1 : Int32))), some (.int r1)]) (st1' := []) (w1 := (wv x I1 J1)) hC62 2 rfl ?_
              exact wp_sub (Lo := [some (.ref 41), some (.int l1), some (.long l2), none, some (.int l4), some (.int l5), some (.int l6), some (.int l7), some (.int l8), some (.int l9), some (.int l10), some (.long l11), none, some (.long (l13 ||| ((1 : Int64) <<< (l17.toInt64 &&& 63)))), none, some (.long ((l15.toUInt64 >>> ((1 : Int32).toInt64.toUInt64 &&& Int64.toUInt64 63)).toInt64)), none, some (.int (l17 + (1 : Int32))), none]) (And.intro rfl (And.intro rfl (And.intro rfl (And.intro rfl (And.intro rfl (And.intro rfl (And.intro rfl (And.intro rfl (And.intro rfl (And.intro rfl (And.intro rfl (And.intro rfl (And.intro rfl (And.intro rfl (trivial))))))))))))))) k
    · have k := k.2 h
      refine wp_seg (C := gC62) (pc1 := 328) (Lo1 := [some (.ref 41), some (.int l1), some (.long l2), none, some (.int l4), some (.int l5), some (.int l6), some (.int l7), some (.int l8), some (.int l9), some (.int l10), some (.long l11), none, some (.long l13), none, some (.long l15), none, some (.int l17), none]) (st1' := [.long l13]) (w1 := (wv x I J)) hC62 1 rfl ?_
      exact we_l rfl rfl k
  · have k := k.2 h
    refine wp_seg (C := gC62) (pc1 := 328) (Lo1 := [some (.ref 41), some (.int l1), some (.long l2), none, some (.int l4), some (.int l5), some (.int l6), some (.int l7), some (.int l8), some (.int l9), some (.int l10), some (.long l11), none, some (.long l13), none, some (.long l15), none, some (.int l17), none]) (st1' := [.long l13]) (w1 := (wv x I J)) hC62 1 rfl ?_
    exact we_l rfl rfl k
set_option maxRecDepth 20000 in
theorem v29_4_0 {S : Nat × (Nat → Int32)} {d : Nat} {x : mX} {I : rI0} {J : rJ0} {Q : Int32 → rI0 → rJ0 → Prop} (k : wp S (d + 1) 29 4 [some (.ref 4), some (.int (-1 : Int32)), some (.int (0 : Int32))] [] (wv x I J) (rI x Q)) : wp S (d + 1) 29 0 [some (.ref 4), none, none] [] (wv x I J) (rI x Q) := by
  refine wp_seg (C := gC29) (pc1 := 4) (Lo1 := [some (.ref 4), some (.int (-1 : Int32)), some (.int (0 : Int32))]) (st1' := []) (w1 := (wv x I J)) hC29 4 rfl ?_
  exact k
set_option maxRecDepth 20000 in
theorem v29_4_4 {S : Nat × (Nat → Int32)} {d : Nat} {x : mX} {I : rI0} {J : rJ0} {l1 : Int32} {l2 : Int32} {Q : Int32 → rI0 → rJ0 → Prop} (k : ((l2 < (I 4 0) → (¬ mOut l2 8 ∧ wp S (d + 1) 29 4 [some (.ref 4), some (.int (if l1 < (I 8 l2.toNatClampNeg) then I 8 l2.toNatClampNeg else l1)), some (.int (l2 + (1 : Int32)))] [] (wv x I J) (rI x Q))) ∧ (¬ l2 < (I 4 0) → Q l1 I J))) : wp S (d + 1) 29 4 [some (.ref 4), some (.int l1), some (.int l2)] [] (wv x I J) (rI x Q) := by
  refine wp_seg (C := gC29) (pc1 := 9) (Lo1 := [some (.ref 4), some (.int l1), some (.int l2)]) (st1' := [.int (I 4 0), .int l2]) (w1 := (wv x I J)) hC29 3 rfl ?_
  refine wj_ge (tgt := 29) rfl rfl (fun h => ?_) (fun h => ?_)
  · have k := k.1 h
    refine wp_seg (C := gC29) (pc1 := 18) (Lo1 := [some (.ref 4), some (.int l1), some (.int l2)]) (st1' := [.int l2, .ref 8, .int l1]) (w1 := (wv x I J)) hC29 4 rfl ?_
    refine wa_i (n := 8) rfl (by decide) rfl k.1 ?_
    have k := k.2
    refine wm_2 (f := fun x y => if x < y then y else x) rfl rfl (Or.inl ⟨rfl, rfl⟩) (Nat.le_of_ble_eq_true rfl) ?_
    refine wp_seg (C := gC29) (pc1 := 26) (Lo1 := [some (.ref 4), some (.int (if l1 < (I 8 l2.toNatClampNeg) then I 8 l2.toNatClampNeg else l1)), some (.int (l2 + (1 : Int32)))]) (st1' := []) (w1 := (wv x I J)) hC29 2 rfl ?_
    refine wp_seg (C := gC29) (pc1 := 4) (Lo1 := [some (.ref 4), some (.int (if l1 < (I 8 l2.toNatClampNeg) then I 8 l2.toNatClampNeg else l1)), some (.int (l2 + (1 : Int32)))]) (st1' := []) (w1 := (wv x I J)) hC29 1 rfl ?_
    exact k
  · have k := k.2 h
    refine wp_seg (C := gC29) (pc1 := 30) (Lo1 := [some (.ref 4), some (.int l1), some (.int l2)]) (st1' := [.int l1]) (w1 := (wv x I J)) hC29 1 rfl ?_
    exact we_i rfl rfl k
set_option maxRecDepth 20000 in
theorem v59_41_0 {S : Nat × (Nat → Int32)} {d : Nat} {x : mX} {I : rI0} {J : rJ0} {p1 : Int64} {p2 : Int64} {p3 : Int64} {Q : rI0 → rJ0 → Prop} (k : wp S (d + 1) 59 27 [some (.ref 41), some (.long p1), none, some (.long p2), none, some (.long p3), none, some (.long ((p1 &&& (p3 ^^^ (-1 : Int64))) &&& (J 4 5))), none, some (.long (0 : Int64)), none, some (.long (0 : Int64)), none, some (.int (0 : Int32)), none, none, none, none, none] [] (wv x I J) (rV x Q)) : wp S (d + 1) 59 0 [some (.ref 41), some (.long p1), none, some (.long p2), none, some (.long p3), none, none, none, none, none, none, none, none, none, none, none, none, none] [] (wv x I J) (rV x Q) := by
  refine wp_seg (C := gC59) (pc1 := 21) (Lo1 := [some (.ref 41), some (.long p1), none, some (.long p2), none, some (.long p3), none, some (.long ((p1 &&& (p3 ^^^ (-1 : Int64))) &&& (J 4 5))), none, some (.long (0 : Int64)), none, none, none, none, none, none, none, none, none]) (st1' := []) (w1 := (wv x I J)) hC59 12 rfl ?_
  refine wp_seg (C := gC59) (pc1 := 27) (Lo1 := [some (.ref 41), some (.long p1), none, some (.long p2), none, some (.long p3), none, some (.long ((p1 &&& (p3 ^^^ (-1 : Int64))) &&& (J 4 5))), none, some (.long (0 : Int64)), none, some (.long (0 : Int64)), none, some (.int (0 : Int32)), none, none, none, none, none]) (st1' := []) (w1 := (wv x I J)) hC59 4 rfl ?_
  exact k
set_option maxRecDepth 20000 in
theorem v59_41_27 {S : Nat × (Nat → Int32)} {d : Nat} {x : mX} {I : rI0} {J : rJ0} {l1 : Int64} {l3 : Int64} {l5 : Int64} {l7 : Int64} {l9 : Int64} {l11 : Int64} {l13 : Int32} {Q : rI0 → rJ0 → Prop} (k : ((l13 < (6 : Int32) → (¬ mOut l13 6 ∧ (((lg_cmp (l7 &&& (J 6 l13.toNatClampNeg)) (0 : Int64)) = (0 : Int32) → wp S (d + 1) 59 27 [some (.ref 41), some (.long l1), none, some (.long l3), none, some (.long l5), none, some (.long l7), none, some (.long l9), none, some (.long l11), none, some (.int (l13 + (1 : Int32))), none, none, none, none, none] [] (wv x I J) (rV x Q)) ∧ (¬ (lg_cmp (l7 &&& (J 6 l13.toNatClampNeg)) (0 : Int64)) = (0 : Int32) → (¬ mOut ((2 : Int32) * l13) 12 ∧ (wcJ S d 61 [.ref 41, .int (((2 : Int32) * l13) * (20 : Int32)), .int (I 9 (((2 : Int32) * l13).toNatClampNeg)), .long (l7 &&& (J 6 l13.toNatClampNeg)), .int (1 : Int32)] x I J (fun r1 I1 J1 => (¬ mOut (((2 : Int32) * l13) + (1 : Int32)) 12 ∧ (wcJ S d 61 [.ref 41, .int ((((2 : Int32) * l13) + (1 : Int32)) * (20 : Int32)), .int (I1 9 ((((2 : Int32) * l13) + (1 : Int32)).toNatClampNeg)), .long (((l7 &&& (J 6 l13.toNatClampNeg)) &&& (r1 ^^^ (-1 : Int64))) &&& (J1 41 8)), .int (1 : Int32)] x I1 J1 (fun r2 I2 J2 => wp S (d + 1) 59 27 [some (.ref 41), some (.long l1), none, some (.long l3), none, some (.long l5), none, some (.long l7), none, some (.long (l9 ||| r1)), none, some (.long (l11 ||| r2)), none, some (.int (l13 + (1 : Int32))), none, none, none, none, none] [] (wv x I2 J2) (rV x Q))))))))))) ∧ (¬ l13 < (6 : Int32) → Q I (mSet (mSet J 41 8 ((((J 41 8) &&& (l1 ^^^ (-1 : Int64))) ||| ((((J 41 8) ||| l9) &&& ((l11 &&& ((J 41 9) ^^^ (-1 : Int64))) ^^^ (-1 : Int64))) &&& l7)) ||| (l3 &&& l1))) 41 9 ((((J 41 9) &&& (l1 ^^^ (-1 : Int64))) ||| ((((J 41 9) ||| (l9 &&& (J 41 8))) &&& (l11 ^^^ (-1 : Int64))) &&& l7)) ||| (l3 &&& l1)))))) : wp S (d + 1) 59 27 [some (.ref 41), some (.long l1), none, some (.long l3), none, some (.long l5), none, some (.long l7), none, some (.long l9), none, some (.long l11), none, some (.int l13), none, none, none, none, none] [] (wv x I J) (rV x Q) := by
  refine wp_seg (C := gC59) (pc1 := 31) (Lo1 := [some (.ref 41), some (.long l1), none, some (.long l3), none, some (.long l5), none, some (.long l7), none, some (.long l9), none, some (.long l11), none, some (.int l13), none, none, none, none, none]) (st1' := [.int (6 : Int32), .int l13]) (w1 := (wv x I J)) hC59 2 rfl ?_
  refine wj_ge (tgt := 141) rfl rfl (fun h => ?_) (fun h => ?_)
  · have k := k.1 h
    refine wp_seg (C := gC59) (pc1 := 45) (Lo1 := [some (.ref 41), some (.long l1), none, some (.long l3), none, some (.long l5), none, some (.long l7), none, some (.long l9), none, some (.long l11), none, some (.int l13), none, none, none, none, none]) (st1' := [.int l13, .ref 6, .long l7]) (w1 := (wv x I J)) hC59 5 rfl ?_
    refine wa_l (n := 6) rfl rfl k.1 ?_
    have k := k.2
    refine wp_seg (C := gC59) (pc1 := 53) (Lo1 := [some (.ref 41), some (.long l1), none, some (.long l3), none, some (.long l5), none, some (.long l7), none, some (.long l9), none, some (.long l11), none, some (.int l13), some (.long (l7 &&& (J 6 l13.toNatClampNeg))), none, none, none, none]) (st1' := [.int (lg_cmp (l7 &&& (J 6 l13.toNatClampNeg)) (0 : Int64))]) (w1 := (wv x I J)) hC59 5 rfl ?_
    refine wi_eq (tgt := 135) rfl rfl (fun h => ?_) (fun h => ?_)
    · have k := k.1 h
      refine wp_seg (C := gC59) (pc1 := 27) (Lo1 := [some (.ref 41), some (.long l1), none, some (.long l3), none, some (.long l5), none, some (.long l7), none, some (.long l9), none, some (.long l11), none, some (.int (l13 + (1 : Int32))), some (.long (l7 &&& (J 6 l13.toNatClampNeg))), none, none, none, none]) (st1' := []) (w1 := (wv x I J)) hC59 2 rfl ?_
      exact wp_sub (Lo := [some (.ref 41), some (.long l1), none, some (.long l3), none, some (.long l5), none, some (.long l7), none, some (.long l9), none, some (.long l11), none, some (.int (l13 + (1 : Int32))), none, none, none, none, none]) (And.intro rfl (And.intro rfl (And.intro rfl (And.intro rfl (And.intro rfl (And.intro rfl (And.intro rfl (And.intro rfl (trivial))))))))) k
    · have k := k.2 h
      refine wp_seg (C := gC59) (pc1 := 77) (Lo1 := [some (.ref 41), some (.long l1), none, some (.long l3), none, some (.long l5), none, some (.long l7), none, some (.long l9), none, some (.long l11), none, some (.int l13), some (.long (l7 &&& (J 6 l13.toNatClampNeg))), none, some (.int ((2 : Int32) * l13)), none, none]) (st1' := [.int ((2 : Int32) * l13), .ref 9, .int (((2 : Int32) * l13) * (20 : Int32)), .ref 41]) (w1 := (wv x I J)) hC59 12 rfl ?_
      refine wa_i (n := 12) rfl (by decide) rfl k.1 ?_
      have k := k.2
      refine wp_seg (C := gC59) (pc1 := 81) (Lo1 := [some (.ref 41), some (.long l1), none, some (.long l3), none, some (.long l5), none, some (.long l7), none, some (.long l9), none, some (.long l11), none, some (.int l13), some (.long (l7 &&& (J 6 l13.toNatClampNeg))), none, some (.int ((2 : Int32) * l13)), none, none]) (st1' := [.int (1 : Int32), .long (l7 &&& (J 6 l13.toNatClampNeg)), .int (I 9 (((2 : Int32) * l13).toNatClampNeg)), .int (((2 : Int32) * l13) * (20 : Int32)), .ref 41]) (w1 := (wv x I J)) hC59 2 rfl ?_
      refine cv_J (mj := 61) (a := 41) (as := [.int (((2 : Int32) * l13) * (20 : Int32)), .int (I 9 (((2 : Int32) * l13).toNatClampNeg)), .long (l7 &&& (J 6 l13.toNatClampNeg)), .int (1 : Int32)]) (r := []) rfl rfl rfl ⟨rfl, by decide, Nat.le_of_ble_eq_true rfl, Nat.le_of_ble_eq_true rfl⟩ rfl (wcJ_mono k (fun r1 I1 J1 k => ?_))
      refine wp_seg (C := gC59) (pc1 := 89) (Lo1 := [some (.ref 41), some (.long l1), none, some (.long l3), none, some (.long l5), none, some (.long l7), none, some (.long l9), none, some (.long l11), none, some (.int l13), some (.long (l7 &&& (J 6 l13.toNatClampNeg))), none, some (.int (((2 : Int32) * l13) + (1 : Int32))), some (.long r1), none]) (st1' := []) (w1 := (wv x I1 J1)) hC59 2 rfl ?_
      refine wp_seg (C := gC59) (pc1 := 111) (Lo1 := [some (.ref 41), some (.long l1), none, some (.long l3), none, some (.long l5), none, some (.long l7), none, some (.long (l9 ||| r1)), none, some (.long l11), none, some (.int l13), some (.long (l7 &&& (J 6 l13.toNatClampNeg))), none, some (.int (((2 : Int32) * l13) + (1 : Int32))), some (.long r1), none]) (st1' := [.ref 9, .int ((((2 : Int32) * l13) + (1 : Int32)) * (20 : Int32)), .ref 41, .long l11]) (w1 := (wv x I1 J1)) hC59 12 rfl ?_
      refine wp_seg (C := gC59) (pc1 := 113) (Lo1 := [some (.ref 41), some (.long l1), none, some (.long l3), none, some (.long l5), none, some (.long l7), none, some (.long (l9 ||| r1)), none, some (.long l11), none, some (.int l13), some (.long (l7 &&& (J 6 l13.toNatClampNeg))), none, some (.int (((2 : Int32) * l13) + (1 : Int32))), some (.long r1), none]) (st1' := [.int (((2 : Int32) * l13) + (1 : Int32)), .ref 9, .int ((((2 : Int32) * l13) + (1 : Int32)) * (20 : Int32)), .ref 41, .long l11]) (w1 := (wv x I1 J1)) hC59 1 rfl ?_
      refine wa_i (n := 12) rfl (by decide) rfl k.1 ?_
      have k := k.2
      refine wp_seg (C := gC59) (pc1 := 129) (Lo1 := [some (.ref 41), some (.long l1), none, some (.long l3), none, some (.long l5), none, some (.long l7), none, some (.long (l9 ||| r1)), none, some (.long l11), none, some (.int l13), some (.long (l7 &&& (J 6 l13.toNatClampNeg))), none, some (.int (((2 : Int32) * l13) + (1 : Int32))), some (.long r1), none]) (st1' := [.int (1 : Int32), .long (((l7 &&& (J 6 l13.toNatClampNeg)) &&& (r1 ^^^ (-1 : Int64))) &&& (J1 41 8)), .int (I1 9 ((((2 : Int32) * l13) + (1 : Int32)).toNatClampNeg)), .int ((((2 : Int32) * l13) + (1 : Int32)) * (20 : Int32)), .ref 41, .long l11]) (w1 := (wv x I1 J1)) hC59 9 rfl ?_
      refine cv_J (mj := 61) (a := 41) (as := [.int ((((2 : Int32) * l13) + (1 : Int32)) * (20 : Int32)), .int (I1 9 ((((2 : Int32) * l13) + (1 : Int32)).toNatClampNeg)), .long (((l7 &&& (J 6 l13.toNatClampNeg)) &&& (r1 ^^^ (-1 : Int64))) &&& (J1 41 8)), .int (1 : Int32)]) (r := [.long l11]) rfl rfl rfl ⟨rfl, by decide, Nat.le_of_ble_eq_true rfl, Nat.le_of_ble_eq_true rfl⟩ rfl (wcJ_mono k (fun r2 I2 J2 k => ?_))
      refine wp_seg (C := gC59) (pc1 := 138) (Lo1 := [some (.ref 41), some (.long l1), none, some (.long l3), none, some (.long l5), none, some (.long l7), none, some (.long (l9 ||| r1)), none, some (.long (l11 ||| r2)), none, some (.int (l13 + (1 : Int32))), some (.long (l7 &&& (J 6 l13.toNatClampNeg))), none, some (.int (((2 : Int32) * l13) + (1 : Int32))), some (.long r1), none]) (st1' := []) (w1 := (wv x I2 J2)) hC59 3 rfl ?_
      refine wp_seg (C := gC59) (pc1 := 27) (Lo1 := [some (.ref 41), some (.long l1), none, some (.long l3), none, some (.long l5), none, some (.long l7), none, some (.long (l9 ||| r1)), none, some (.long (l11 ||| r2)), none, some (.int (l13 + (1 : Int32))), some (.long (l7 &&& (J 6 l13.toNatClampNeg))), none, some (.int (((2 : Int32) * l13) + (1 : Int32))), some (.long r1), none]) (st1' := []) (w1 := (wv x I2 J2)) hC59 1 rfl ?_
      exact wp_sub (Lo := [some (.ref 41), some (.long l1), none, some (.long l3), none, some (.long l5), none, some (.long l7), none, some (.long (l9 ||| r1)), none, some (.long (l11 ||| r2)), none, some (.int (l13 + (1 : Int32))), none, none, none, none, none]) (And.intro rfl (And.intro rfl (And.intro rfl (And.intro rfl (And.intro rfl (And.intro rfl (And.intro rfl (And.intro rfl (trivial))))))))) k
  · have k := k.2 h
    refine wp_seg (C := gC59) (pc1 := 163) (Lo1 := [some (.ref 41), some (.long l1), none, some (.long l3), none, some (.long l5), none, some (.long l7), none, some (.long l9), none, some (.long l11), none, some (.int l13), none, none, none, none, none]) (st1' := [.long ((l11 &&& ((J 41 9) ^^^ (-1 : Int64))) ^^^ (-1 : Int64)), .long ((J 41 8) ||| l9)]) (w1 := (wv x I J)) hC59 12 rfl ?_
    refine wp_seg (C := gC59) (pc1 := 184) (Lo1 := [some (.ref 41), some (.long l1), none, some (.long l3), none, some (.long l5), none, some (.long l7), none, some (.long l9), none, some (.long l11), none, some (.long (((J 41 8) ||| l9) &&& ((l11 &&& ((J 41 9) ^^^ (-1 : Int64))) ^^^ (-1 : Int64)))), none, none, none, none, none]) (st1' := [.long (l11 ^^^ (-1 : Int64)), .long ((J 41 9) ||| (l9 &&& (J 41 8)))]) (w1 := (wv x I J)) hC59 12 rfl ?_
    refine wp_seg (C := gC59) (pc1 := 203) (Lo1 := [some (.ref 41), some (.long l1), none, some (.long l3), none, some (.long l5), none, some (.long l7), none, some (.long l9), none, some (.long l11), none, some (.long (((J 41 8) ||| l9) &&& ((l11 &&& ((J 41 9) ^^^ (-1 : Int64))) ^^^ (-1 : Int64)))), none, some (.long (((J 41 9) ||| (l9 &&& (J 41 8))) &&& (l11 ^^^ (-1 : Int64)))), none, none, none]) (st1' := [.long ((((J 41 8) ||| l9) &&& ((l11 &&& ((J 41 9) ^^^ (-1 : Int64))) ^^^ (-1 : Int64))) &&& l7), .long ((J 41 8) &&& (l1 ^^^ (-1 : Int64))), .ref 41]) (w1 := (wv x I J)) hC59 12 rfl ?_
    refine wp_seg (C := gC59) (pc1 := 221) (Lo1 := [some (.ref 41), some (.long l1), none, some (.long l3), none, some (.long l5), none, some (.long l7), none, some (.long l9), none, some (.long l11), none, some (.long (((J 41 8) ||| l9) &&& ((l11 &&& ((J 41 9) ^^^ (-1 : Int64))) ^^^ (-1 : Int64)))), none, some (.long (((J 41 9) ||| (l9 &&& (J 41 8))) &&& (l11 ^^^ (-1 : Int64)))), none, none, none]) (st1' := [.long (l1 ^^^ (-1 : Int64)), .long (J 41 9), .ref 41]) (w1 := (wv x I (mSet J 41 8 ((((J 41 8) &&& (l1 ^^^ (-1 : Int64))) ||| ((((J 41 8) ||| l9) &&& ((l11 &&& ((J 41 9) ^^^ (-1 : Int64))) ^^^ (-1 : Int64))) &&& l7)) ||| (l3 &&& l1))))) hC59 12 rfl ?_
    refine wp_seg (C := gC59) (pc1 := 235) (Lo1 := [some (.ref 41), some (.long l1), none, some (.long l3), none, some (.long l5), none, some (.long l7), none, some (.long l9), none, some (.long l11), none, some (.long (((J 41 8) ||| l9) &&& ((l11 &&& ((J 41 9) ^^^ (-1 : Int64))) ^^^ (-1 : Int64)))), none, some (.long (((J 41 9) ||| (l9 &&& (J 41 8))) &&& (l11 ^^^ (-1 : Int64)))), none, none, none]) (st1' := []) (w1 := (wv x I (mSet (mSet J 41 8 ((((J 41 8) &&& (l1 ^^^ (-1 : Int64))) ||| ((((J 41 8) ||| l9) &&& ((l11 &&& ((J 41 9) ^^^ (-1 : Int64))) ^^^ (-1 : Int64))) &&& l7)) ||| (l3 &&& l1))) 41 9 ((((J 41 9) &&& (l1 ^^^ (-1 : Int64))) ||| ((((J 41 9) ||| (l9 &&& (J 41 8))) &&& (l11 ^^^ (-1 : Int64))) &&& l7)) ||| (l3 &&& l1))))) hC59 10 rfl ?_
    exact we_v rfl rfl k
set_option maxRecDepth 20000 in
theorem v60_41_0 {S : Nat × (Nat → Int32)} {d : Nat} {x : mX} {I : rI0} {J : rJ0} {p1 : Int64} {Q : rI0 → rJ0 → Prop} (k : (((lg_cmp p1 (J 4 5)) = (0 : Int32) → (((lg_cmp ((((J 41 10) ^^^ (-1 : Int64)) ||| (J 41 11)) &&& p1) (J 41 10)) = (0 : Int32) → (((lg_cmp (((J 41 11) ||| (J 41 10)) &&& p1) (J 41 11)) = (0 : Int32) → wp S d 60 65 [some (.ref 41), some (.long p1), none, some (.long ((((J 41 10) ^^^ (-1 : Int64)) ||| (J 41 11)) &&& p1)), none, some (.long (((J 41 11) ||| (J 41 10)) &&& p1)), none, none] [.int (1 : Int32)] (wv x I J) (rV x Q)) ∧ (¬ (lg_cmp (((J 41 11) ||| (J 41 10)) &&& p1) (J 41 11)) = (0 : Int32) → wp S d 60 65 [some (.ref 41), some (.long p1), none, some (.long ((((J 41 10) ^^^ (-1 : Int64)) ||| (J 41 11)) &&& p1)), none, some (.long (((J 41 11) ||| (J 41 10)) &&& p1)), none, none] [.int (0 : Int32)] (wv x I J) (rV x Q)))) ∧ (¬ (lg_cmp ((((J 41 10) ^^^ (-1 : Int64)) ||| (J 41 11)) &&& p1) (J 41 10)) = (0 : Int32) → wp S d 60 65 [some (.ref 41), some (.long p1), none, some (.long ((((J 41 10) ^^^ (-1 : Int64)) ||| (J 41 11)) &&& p1)), none, some (.long (((J 41 11) ||| (J 41 10)) &&& p1)), none, none] [.int (0 : Int32)] (wv x I J) (rV x Q)))) ∧ (¬ (lg_cmp p1 (J 4 5)) = (0 : Int32) → wp S d 60 65 [some (.ref 41), some (.long p1), none, some (.long ((((J 41 10) ^^^ (-1 : Int64)) ||| (J 41 11)) &&& p1)), none, some (.long (((J 41 11) ||| (J 41 10)) &&& p1)), none, none] [.int (0 : Int32)] (wv x I J) (rV x Q)))) : wp S d 60 0 [some (.ref 41), some (.long p1), none, none, none, none, none, none] [] (wv x I J) (rV x Q) := by
  refine wp_seg (C := gC60) (pc1 := 20) (Lo1 := [some (.ref 41), some (.long p1), none, some (.long ((((J 41 10) ^^^ (-1 : Int64)) ||| (J 41 11)) &&& p1)), none, none, none, none]) (st1' := [.long (J 41 11)]) (w1 := (wv x I J)) hC60 12 rfl ?_
  refine wp_seg (C := gC60) (pc1 := 38) (Lo1 := [some (.ref 41), some (.long p1), none, some (.long ((((J 41 10) ^^^ (-1 : Int64)) ||| (J 41 11)) &&& p1)), none, some (.long (((J 41 11) ||| (J 41 10)) &&& p1)), none, none]) (st1' := [.int (lg_cmp p1 (J 4 5))]) (w1 := (wv x I J)) hC60 11 rfl ?_
  refine wi_ne (tgt := 64) rfl rfl (fun h => ?_) (fun h => ?_)
  · have k := k.1 h
    refine wp_seg (C := gC60) (pc1 := 47) (Lo1 := [some (.ref 41), some (.long p1), none, some (.long ((((J 41 10) ^^^ (-1 : Int64)) ||| (J 41 11)) &&& p1)), none, some (.long (((J 41 11) ||| (J 41 10)) &&& p1)), none, none]) (st1' := [.int (lg_cmp ((((J 41 10) ^^^ (-1 : Int64)) ||| (J 41 11)) &&& p1) (J 41 10))]) (w1 := (wv x I J)) hC60 4 rfl ?_
    refine wi_ne (tgt := 64) rfl rfl (fun h => ?_) (fun h => ?_)
    · have k := k.1 h
      refine wp_seg (C := gC60) (pc1 := 57) (Lo1 := [some (.ref 41), some (.long p1), none, some (.long ((((J 41 10) ^^^ (-1 : Int64)) ||| (J 41 11)) &&& p1)), none, some (.long (((J 41 11) ||| (J 41 10)) &&& p1)), none, none]) (st1' := [.int (lg_cmp (((J 41 11) ||| (J 41 10)) &&& p1) (J 41 11))]) (w1 := (wv x I J)) hC60 4 rfl ?_
      refine wi_ne (tgt := 64) rfl rfl (fun h => ?_) (fun h => ?_)
      · have k := k.1 h
        refine wp_seg (C := gC60) (pc1 := 65) (Lo1 := [some (.ref 41), some (.long p1), none, some (.long ((((J 41 10) ^^^ (-1 : Int64)) ||| (J 41 11)) &&& p1)), none, some (.long (((J 41 11) ||| (J 41 10)) &&& p1)), none, none]) (st1' := [.int (1 : Int32)]) (w1 := (wv x I J)) hC60 2 rfl ?_
        exact k
      · have k := k.2 h
        refine wp_seg (C := gC60) (pc1 := 65) (Lo1 := [some (.ref 41), some (.long p1), none, some (.long ((((J 41 10) ^^^ (-1 : Int64)) ||| (J 41 11)) &&& p1)), none, some (.long (((J 41 11) ||| (J 41 10)) &&& p1)), none, none]) (st1' := [.int (0 : Int32)]) (w1 := (wv x I J)) hC60 1 rfl ?_
        exact k
    · have k := k.2 h
      refine wp_seg (C := gC60) (pc1 := 65) (Lo1 := [some (.ref 41), some (.long p1), none, some (.long ((((J 41 10) ^^^ (-1 : Int64)) ||| (J 41 11)) &&& p1)), none, some (.long (((J 41 11) ||| (J 41 10)) &&& p1)), none, none]) (st1' := [.int (0 : Int32)]) (w1 := (wv x I J)) hC60 1 rfl ?_
      exact k
  · have k := k.2 h
    refine wp_seg (C := gC60) (pc1 := 65) (Lo1 := [some (.ref 41), some (.long p1), none, some (.long ((((J 41 10) ^^^ (-1 : Int64)) ||| (J 41 11)) &&& p1)), none, some (.long (((J 41 11) ||| (J 41 10)) &&& p1)), none, none]) (st1' := [.int (0 : Int32)]) (w1 := (wv x I J)) hC60 1 rfl ?_
    exact k
set_option maxRecDepth 20000 in
theorem v60_41_65 {S : Nat × (Nat → Int32)} {d : Nat} {x : mX} {I : rI0} {J : rJ0} {l1 : Int64} {l3 : Int64} {l5 : Int64} {s0 : Int32} {Q : rI0 → rJ0 → Prop} (k : ((s0 = (0 : Int32) → Q (mSet I 41 12 (0 : Int32)) (mSet (mSet J 41 10 l3) 41 11 l5)) ∧ (¬ s0 = (0 : Int32) → (((I 41 4) < (I 41 2) → Q (mSet I 41 12 (1 : Int32)) (mSet (mSet J 41 10 l3) 41 11 l5)) ∧ (¬ (I 41 4) < (I 41 2) → Q (mSet I 41 12 (0 : Int32)) (mSet (mSet J 41 10 l3) 41 11 l5)))))) : wp S d 60 65 [some (.ref 41), some (.long l1), none, some (.long l3), none, some (.long l5), none, none] [.int s0] (wv x I J) (rV x Q) := by
  refine wp_seg (C := gC60) (pc1 := 70) (Lo1 := [some (.ref 41), some (.long l1), none, some (.long l3), none, some (.long l5), none, some (.int s0)]) (st1' := [.int s0, .ref 41]) (w1 := (wv x I J)) hC60 3 rfl ?_
  refine wi_eq (tgt := 88) rfl rfl (fun h => ?_) (fun h => ?_)
  · have k := k.1 h
    refine wp_seg (C := gC60) (pc1 := 103) (Lo1 := [some (.ref 41), some (.long l1), none, some (.long l3), none, some (.long l5), none, some (.int s0)]) (st1' := []) (w1 := (wv x (mSet I 41 12 (0 : Int32)) (mSet (mSet J 41 10 l3) 41 11 l5))) hC60 8 rfl ?_
    exact we_v rfl rfl k
  · have k := k.2 h
    refine wp_seg (C := gC60) (pc1 := 81) (Lo1 := [some (.ref 41), some (.long l1), none, some (.long l3), none, some (.long l5), none, some (.int s0)]) (st1' := [.int (I 41 4), .int (I 41 2), .ref 41]) (w1 := (wv x I J)) hC60 4 rfl ?_
    refine wj_le (tgt := 88) rfl rfl (fun h => ?_) (fun h => ?_)
    · have k := k.1 h
      refine wp_seg (C := gC60) (pc1 := 103) (Lo1 := [some (.ref 41), some (.long l1), none, some (.long l3), none, some (.long l5), none, some (.int s0)]) (st1' := []) (w1 := (wv x (mSet I 41 12 (1 : Int32)) (mSet (mSet J 41 10 l3) 41 11 l5))) hC60 9 rfl ?_
      exact we_v rfl rfl k
    · have k := k.2 h
      refine wp_seg (C := gC60) (pc1 := 103) (Lo1 := [some (.ref 41), some (.long l1), none, some (.long l3), none, some (.long l5), none, some (.int s0)]) (st1' := []) (w1 := (wv x (mSet I 41 12 (0 : Int32)) (mSet (mSet J 41 10 l3) 41 11 l5))) hC60 8 rfl ?_
      exact we_v rfl rfl k
set_option maxRecDepth 20000 in
theorem v90_37_0 {S : Nat × (Nat → Int32)} {d : Nat} {x : mX} {I : rI0} {J : rJ0} {p1 : Int32} {Q : Int32 → rI0 → rJ0 → Prop} (k : wp S d 90 4 [some (.ref 37), some (.int p1), some (.int (1 : Int32)), some (.int (2 : Int32))] [] (wv x I J) (rI x Q)) : wp S d 90 0 [some (.ref 37), some (.int p1), none, none] [] (wv x I J) (rI x Q) := by
  refine wp_seg (C := gC90) (pc1 := 4) (Lo1 := [some (.ref 37), some (.int p1), some (.int (1 : Int32)), some (.int (2 : Int32))]) (st1' := []) (w1 := (wv x I J)) hC90 4 rfl ?_
  exact k
set_option maxRecDepth 20000 in
theorem v90_37_4 {S : Nat × (Nat → Int32)} {d : Nat} {x : mX} {I : rI0} {J : rJ0} {l1 : Int32} {l2 : Int32} {l3 : Int32} {Q : Int32 → rI0 → rJ0 → Prop} (k : ((l1 < l3 → Q l2 I J) ∧ (¬ l1 < l3 → (((8 : Int32) < l3 → Q l2 I J) ∧ (¬ (8 : Int32) < l3 → wp S d 90 4 [some (.ref 37), some (.int l1), some (.int (l2 * l3)), some (.int (l3 + (1 : Int32)))] [] (wv x I J) (rI x Q)))))) : wp S d 90 4 [some (.ref 37), some (.int l1), some (.int l2), some (.int l3)] [] (wv x I J) (rI x Q) := by
  refine wp_seg (C := gC90) (pc1 := 6) (Lo1 := [some (.ref 37), some (.int l1), some (.int l2), some (.int l3)]) (st1' := [.int l1, .int l3]) (w1 := (wv x I J)) hC90 2 rfl ?_
  refine wj_gt (tgt := 25) rfl rfl (fun h => ?_) (fun h => ?_)
  · have k := k.1 h
    refine wp_seg (C := gC90) (pc1 := 26) (Lo1 := [some (.ref 37), some (.int l1), some (.int l2), some (.int l3)]) (st1' := [.int l2]) (w1 := (wv x I J)) hC90 1 rfl ?_
    exact we_i rfl rfl k
  · have k := k.2 h
    refine wp_seg (C := gC90) (pc1 := 12) (Lo1 := [some (.ref 37), some (.int l1), some (.int l2), some (.int l3)]) (st1' := [.int (8 : Int32), .int l3]) (w1 := (wv x I J)) hC90 2 rfl ?_
    refine wj_gt (tgt := 25) rfl rfl (fun h => ?_) (fun h => ?_)
    · have k := k.1 h
      refine wp_seg (C := gC90) (pc1 := 26) (Lo1 := [some (.ref 37), some (.int l1), some (.int l2), some (.int l3)]) (st1' := [.int l2]) (w1 := (wv x I J)) hC90 1 rfl ?_
      exact we_i rfl rfl k
    · have k := k.2 h
      refine wp_seg (C := gC90) (pc1 := 22) (Lo1 := [some (.ref 37), some (.int l1), some (.int (l2 * l3)), some (.int (l3 + (1 : Int32)))]) (st1' := []) (w1 := (wv x I J)) hC90 5 rfl ?_
      refine wp_seg (C := gC90) (pc1 := 4) (Lo1 := [some (.ref 37), some (.int l1), some (.int (l2 * l3)), some (.int (l3 + (1 : Int32)))]) (st1' := []) (w1 := (wv x I J)) hC90 1 rfl ?_
      exact k
set_option maxRecDepth 20000 in
theorem v56_42_0 {S : Nat × (Nat → Int32)} {d : Nat} {x : mX} {I : rI0} {J : rJ0} {Q : Int32 → rI0 → rJ0 → Prop} (k : wp S (d + 1) 56 2 [some (.ref 42), some (.int (0 : Int32)), none, none] [] (wv x I J) (rI x Q)) : wp S (d + 1) 56 0 [some (.ref 42), none, none, none] [] (wv x I J) (rI x Q) := by
  refine wp_seg (C := gC56) (pc1 := 2) (Lo1 := [some (.ref 42), some (.int (0 : Int32)), none, none]) (st1' := []) (w1 := (wv x I J)) hC56 2 rfl ?_
  exact k
set_option maxRecDepth 20000 in
theorem v56_42_2 {S : Nat × (Nat → Int32)} {d : Nat} {x : mX} {I : rI0} {J : rJ0} {l1 : Int32} {Q : Int32 → rI0 → rJ0 → Prop} (k : (((I 42 3) < (I 3 4) → (((I 42 3) < (30 : Int32) → (¬ mOut (I 42 3) 30 ∧ (((I 42 2) < (I 12 ((I 42 3).toNatClampNeg)) → ((l1 = 0 ∨ l1 = 1) ∧ Q l1 I J)) ∧ (¬ (I 42 2) < (I 12 ((I 42 3).toNatClampNeg)) → (¬ mOut (I 42 3) 30 ∧ (((I 13 ((I 42 3).toNatClampNeg)) = (3 : Int32) → wp S (d + 1) 56 2 [some (.ref 42), some (.int (1 : Int32)), none, none] [] (wv x (mSet I 42 3 ((I 42 3) + (1 : Int32))) J) (rI x Q)) ∧ (¬ (I 13 ((I 42 3).toNatClampNeg)) = (3 : Int32) → (¬ mOut (I 42 3) 30 ∧ (((I 13 ((I 42 3).toNatClampNeg)) = (0 : Int32) → wp S (d + 1) 56 95 [some (.ref 42), some (.int l1), some (.int (I 13 ((I 42 3).toNatClampNeg))), some (.int (I 14 ((I 42 3).toNatClampNeg)))] [.int (1 : Int32), .int (I 14 ((I 42 3).toNatClampNeg)), .long (J 42 5), .ref 42] (wv x I J) (rI x Q)) ∧ (¬ (I 13 ((I 42 3).toNatClampNeg)) = (0 : Int32) → wp S (d + 1) 56 95 [some (.ref 42), some (.int l1), some (.int (I 13 ((I 42 3).toNatClampNeg))), some (.int (I 14 ((I 42 3).toNatClampNeg)))] [.int (0 : Int32), .int (I 14 ((I 42 3).toNatClampNeg)), .long (J 42 5), .ref 42] (wv x I J) (rI x Q))))))))))) ∧ (¬ (I 42 3) < (30 : Int32) → ((l1 = 0 ∨ l1 = 1) ∧ Q l1 I J)))) ∧ (¬ (I 42 3) < (I 3 4) → ((l1 = 0 ∨ l1 = 1) ∧ Q l1 I J)))) : wp S (d + 1) 56 2 [some (.ref 42), some (.int l1), none, none] [] (wv x I J) (rI x Q) := by
  refine wp_seg (C := gC56) (pc1 := 13) (Lo1 := [some (.ref 42), some (.int l1), none, none]) (st1' := [.int (I 3 4), .int (I 42 3)]) (w1 := (wv x I J)) hC56 5 rfl ?_
  refine wj_ge (tgt := 136) rfl rfl (fun h => ?_) (fun h => ?_)
  · have k := k.1 h
    refine wp_seg (C := gC56) (pc1 := 22) (Lo1 := [some (.ref 42), some (.int l1), none, none]) (st1' := [.int (30 : Int32), .int (I 42 3)]) (w1 := (wv x I J)) hC56 3 rfl ?_
    refine wj_ge (tgt := 136) rfl rfl (fun h => ?_) (fun h => ?_)
    · have k := k.1 h
      refine wp_seg (C := gC56) (pc1 := 36) (Lo1 := [some (.ref 42), some (.int l1), none, none]) (st1' := [.int (I 42 3), .ref 12]) (w1 := (wv x I J)) hC56 5 rfl ?_
      refine wa_i (n := 30) rfl (by decide) rfl k.1 ?_
      have k := k.2
      refine wp_seg (C := gC56) (pc1 := 41) (Lo1 := [some (.ref 42), some (.int l1), none, none]) (st1' := [.int (I 42 2), .int (I 12 ((I 42 3).toNatClampNeg))]) (w1 := (wv x I J)) hC56 2 rfl ?_
      refine wj_gt (tgt := 136) rfl rfl (fun h => ?_) (fun h => ?_)
      · have k := k.1 h
        refine wp_seg (C := gC56) (pc1 := 137) (Lo1 := [some (.ref 42), some (.int l1), none, none]) (st1' := [.int l1]) (w1 := (wv x I J)) hC56 1 rfl ?_
        exact we_z rfl rfl k.1 k.2
      · have k := k.2 h
        refine wp_seg (C := gC56) (pc1 := 55) (Lo1 := [some (.ref 42), some (.int l1), none, none]) (st1' := [.int (I 42 3), .ref 13]) (w1 := (wv x I J)) hC56 5 rfl ?_
        refine wa_i (n := 30) rfl (by decide) rfl k.1 ?_
        have k := k.2
        refine wp_seg (C := gC56) (pc1 := 59) (Lo1 := [some (.ref 42), some (.int l1), some (.int (I 13 ((I 42 3).toNatClampNeg))), none]) (st1' := [.int (3 : Int32), .int (I 13 ((I 42 3).toNatClampNeg))]) (w1 := (wv x I J)) hC56 3 rfl ?_
        refine wj_ne (tgt := 67) rfl rfl (fun h => ?_) (fun h => ?_)
        · have k := k.1 h
          refine wp_seg (C := gC56) (pc1 := 2) (Lo1 := [some (.ref 42), some (.int (1 : Int32)), some (.int (I 13 ((I 42 3).toNatClampNeg))), none]) (st1' := []) (w1 := (wv x (mSet I 42 3 ((I 42 3) + (1 : Int32))) J)) hC56 10 rfl ?_
          exact wp_sub (Lo := [some (.ref 42), some (.int (1 : Int32)), none, none]) (And.intro rfl (And.intro rfl (trivial))) k
        · have k := k.2 h
          refine wp_seg (C := gC56) (pc1 := 78) (Lo1 := [some (.ref 42), some (.int l1), some (.int (I 13 ((I 42 3).toNatClampNeg))), none]) (st1' := [.int (I 42 3), .ref 14]) (w1 := (wv x I J)) hC56 5 rfl ?_
          refine wa_i (n := 30) rfl (by decide) rfl k.1 ?_
          have k := k.2
          refine wp_seg (C := gC56) (pc1 := 87) (Lo1 := [some (.ref 42), some (.int l1), some (.int (I 13 ((I 42 3).toNatClampNeg))), some (.int (I 14 ((I 42 3).toNatClampNeg)))]) (st1' := [.int (I 13 ((I 42 3).toNatClampNeg)), .int (I 14 ((I 42 3).toNatClampNeg)), .long (J 42 5), .ref 42]) (w1 := (wv x I J)) hC56 6 rfl ?_
          refine wi_ne (tgt := 94) rfl rfl (fun h => ?_) (fun h => ?_)
          · have k := k.1 h
            refine wp_seg (C := gC56) (pc1 := 95) (Lo1 := [some (.ref 42), some (.int l1), some (.int (I 13 ((I 42 3).toNatClampNeg))), some (.int (I 14 ((I 42 3).toNatClampNeg)))]) (st1' := [.int (1 : Int32), .int (I 14 ((I 42 3).toNatClampNeg)), .long (J 42 5), .ref 42]) (w1 := (wv x I J)) hC56 2 rfl ?_
            exact k
          · have k := k.2 h
            refine wp_seg (C := gC56) (pc1 := 95) (Lo1 := [some (.ref 42), some (.int l1), some (.int (I 13 ((I 42 3).toNatClampNeg))), some (.int (I 14 ((I 42 3).toNatClampNeg)))]) (st1' := [.int (0 : Int32), .int (I 14 ((I 42 3).toNatClampNeg)), .long (J 42 5), .ref 42]) (w1 := (wv x I J)) hC56 1 rfl ?_
            exact k
    · have k := k.2 h
      refine wp_seg (C := gC56) (pc1 := 137) (Lo1 := [some (.ref 42), some (.int l1), none, none]) (st1' := [.int l1]) (w1 := (wv x I J)) hC56 1 rfl ?_
      exact we_z rfl rfl k.1 k.2
  · have k := k.2 h
    refine wp_seg (C := gC56) (pc1 := 137) (Lo1 := [some (.ref 42), some (.int l1), none, none]) (st1' := [.int l1]) (w1 := (wv x I J)) hC56 1 rfl ?_
    exact we_z rfl rfl k.1 k.2
set_option maxRecDepth 20000 in
theorem v56_42_95 {S : Nat × (Nat → Int32)} {d : Nat} {x : mX} {I : rI0} {J : rJ0} {l1 : Int32} {l2 : Int32} {l3 : Int32} {s1 : Int64} {s2 : Int32} {s3 : Int32} {Q : Int32 → rI0 → rJ0 → Prop} (k : (wcJ S d 143 [.long s1, .int s2, .int s3] x I J (fun r1 I1 J1 => ((l2 = (1 : Int32) → (wcJ S d 143 [.long (J1 42 6), .int l3, .int (1 : Int32)] x I1 (mSet J1 42 5 r1) (fun r2 I2 J2 => wp S (d + 1) 56 2 [some (.ref 42), some (.int l1), none, none] [] (wv x (mSet I2 42 3 ((I2 42 3) + (1 : Int32))) (mSet J2 42 6 r2)) (rI x Q)))) ∧ (¬ l2 = (1 : Int32) → (wcJ S d 143 [.long (J1 42 6), .int l3, .int (0 : Int32)] x I1 (mSet J1 42 5 r1) (fun r3 I3 J3 => wp S (d + 1) 56 2 [some (.ref 42), some (.int l1), none, none] [] (wv x (mSet I3 42 3 ((I3 42 3) + (1 : Int32))) (mSet J3 42 6 r3)) (rI x Q)))))))) : wp S (d + 1) 56 95 [some (.ref 42), some (.int l1), some (.int l2), some (.int l3)] [.int s3, .int s2, .long s1, .ref 42] (wv x I J) (rI x Q) := by
  refine cs_J (mj := 143) (nn := 1) (as := [.long s1, .int s2, .int s3]) (r := [.ref 42]) rfl rfl rfl ⟨rfl, by decide, Nat.le_of_ble_eq_true rfl, Nat.le_of_ble_eq_true rfl⟩ (by decide) (wcJ_mono k (fun r1 I1 J1 k => ?_))
  refine wp_seg (C := gC56) (pc1 := 109) (Lo1 := [some (.ref 42), some (.int l1), some (.int l2), some (.int l3)]) (st1' := [.int (1 : Int32), .int l2, .int l3, .long (J1 42 6), .ref 42]) (w1 := (wv x I1 (mSet J1 42 5 r1))) hC56 7 rfl ?_
  refine wj_ne (tgt := 116) rfl rfl (fun h => ?_) (fun h => ?_)
  · have k := k.1 h
    refine wp_seg (C := gC56) (pc1 := 117) (Lo1 := [some (.ref 42), some (.int l1), some (.int l2), some (.int l3)]) (st1' := [.int (1 : Int32), .int l3, .long (J1 42 6), .ref 42]) (w1 := (wv x I1 (mSet J1 42 5 r1))) hC56 2 rfl ?_
    refine cs_J (mj := 143) (nn := 1) (as := [.long (J1 42 6), .int l3, .int (1 : Int32)]) (r := [.ref 42]) rfl rfl rfl ⟨rfl, by decide, Nat.le_of_ble_eq_true rfl, Nat.le_of_ble_eq_true rfl⟩ (by decide) (wcJ_mono k (fun r2 I2 J2 k => ?_))
    refine wp_seg (C := gC56) (pc1 := 2) (Lo1 := [some (.ref 42), some (.int l1), some (.int l2), some (.int l3)]) (st1' := []) (w1 := (wv x (mSet I2 42 3 ((I2 42 3) + (1 : Int32))) (mSet J2 42 6 r2))) hC56 8 rfl ?_
    exact wp_sub (Lo := [some (.ref 42), some (.int l1), none, none]) (And.intro rfl (And.intro rfl (trivial))) k
  · have k := k.2 h
    refine wp_seg (C := gC56) (pc1 := 117) (Lo1 := [some (.ref 42), some (.int l1), some (.int l2), some (.int l3)]) (st1' := [.int (0 : Int32), .int l3, .long (J1 42 6), .ref 42]) (w1 := (wv x I1 (mSet J1 42 5 r1))) hC56 1 rfl ?_
    refine cs_J (mj := 143) (nn := 1) (as := [.long (J1 42 6), .int l3, .int (0 : Int32)]) (r := [.ref 42]) rfl rfl rfl ⟨rfl, by decide, Nat.le_of_ble_eq_true rfl, Nat.le_of_ble_eq_true rfl⟩ (by decide) (wcJ_mono k (fun r3 I3 J3 k => ?_))
    refine wp_seg (C := gC56) (pc1 := 2) (Lo1 := [some (.ref 42), some (.int l1), some (.int l2), some (.int l3)]) (st1' := []) (w1 := (wv x (mSet I3 42 3 ((I3 42 3) + (1 : Int32))) (mSet J3 42 6 r3))) hC56 8 rfl ?_
    exact wp_sub (Lo := [some (.ref 42), some (.int l1), none, none]) (And.intro rfl (And.intro rfl (trivial))) k
set_option maxRecDepth 20000 in
theorem v57_42_0 {S : Nat × (Nat → Int32)} {d : Nat} {x : mX} {I : rI0} {J : rJ0} {Q : rI0 → rJ0 → Prop} (k : wp S (d + 1) 57 2 [some (.ref 42), some (.int (0 : Int32))] [] (wv x I J) (rV x Q)) : wp S (d + 1) 57 0 [some (.ref 42), none] [] (wv x I J) (rV x Q) := by
  refine wp_seg (C := gC57) (pc1 := 2) (Lo1 := [some (.ref 42), some (.int (0 : Int32))]) (st1' := []) (w1 := (wv x I J)) hC57 2 rfl ?_
  exact k
set_option maxRecDepth 20000 in
theorem v57_42_2 {S : Nat × (Nat → Int32)} {d : Nat} {x : mX} {I : rI0} {J : rJ0} {l1 : Int32} {Q : rI0 → rJ0 → Prop} (k : ((l1 < (I 4 0) → (¬ mOut l1 8 ∧ (((I 8 l1.toNatClampNeg) = (I 42 2) → (wcJ S d 28 [.ref 4, .int l1] x I J (fun r1 I1 J1 => wp S (d + 1) 57 2 [some (.ref 42), some (.int (l1 + (1 : Int32)))] [] (wv x I1 (mSet J1 42 7 ((J 42 7) ||| r1))) (rV x Q)))) ∧ (¬ (I 8 l1.toNatClampNeg) = (I 42 2) → wp S (d + 1) 57 2 [some (.ref 42), some (.int (l1 + (1 : Int32)))] [] (wv x I J) (rV x Q))))) ∧ (¬ l1 < (I 4 0) → Q I J))) : wp S (d + 1) 57 2 [some (.ref 42), some (.int l1)] [] (wv x I J) (rV x Q) := by
  refine wp_seg (C := gC57) (pc1 := 10) (Lo1 := [some (.ref 42), some (.int l1)]) (st1' := [.int (I 4 0), .int l1]) (w1 := (wv x I J)) hC57 4 rfl ?_
  refine wj_ge (tgt := 52) rfl rfl (fun h => ?_) (fun h => ?_)
  · have k := k.1 h
    refine wp_seg (C := gC57) (pc1 := 21) (Lo1 := [some (.ref 42), some (.int l1)]) (st1' := [.int l1, .ref 8]) (w1 := (wv x I J)) hC57 4 rfl ?_
    refine wa_i (n := 8) rfl (by decide) rfl k.1 ?_
    have k := k.2
    refine wp_seg (C := gC57) (pc1 := 26) (Lo1 := [some (.ref 42), some (.int l1)]) (st1' := [.int (I 42 2), .int (I 8 l1.toNatClampNeg)]) (w1 := (wv x I J)) hC57 2 rfl ?_
    refine wj_ne (tgt := 46) rfl rfl (fun h => ?_) (fun h => ?_)
    · have k := k.1 h
      refine wp_seg (C := gC57) (pc1 := 39) (Lo1 := [some (.ref 42), some (.int l1)]) (st1' := [.int l1, .ref 4, .long (J 42 7), .ref 42]) (w1 := (wv x I J)) hC57 6 rfl ?_
      refine cv_J (mj := 28) (a := 4) (as := [.int l1]) (r := [.long (J 42 7), .ref 42]) rfl rfl rfl ⟨rfl, by decide, Nat.le_of_ble_eq_true rfl, Nat.le_of_ble_eq_true rfl⟩ rfl (wcJ_mono k (fun r1 I1 J1 k => ?_))
      refine wp_seg (C := gC57) (pc1 := 2) (Lo1 := [some (.ref 42), some (.int (l1 + (1 : Int32)))]) (st1' := []) (w1 := (wv x I1 (mSet J1 42 7 ((J 42 7) ||| r1)))) hC57 4 rfl ?_
      exact k
    · have k := k.2 h
      refine wp_seg (C := gC57) (pc1 := 2) (Lo1 := [some (.ref 42), some (.int (l1 + (1 : Int32)))]) (st1' := []) (w1 := (wv x I J)) hC57 2 rfl ?_
      exact k
  · have k := k.2 h
    exact we_v rfl rfl k
set_option maxRecDepth 20000 in
theorem v58_42_0 {S : Nat × (Nat → Int32)} {d : Nat} {x : mX} {I : rI0} {J : rJ0} {Q : Int64 → rI0 → rJ0 → Prop} (k : (((I 4 3) < (I 42 2) → Q (0 : Int64) I J) ∧ (¬ (I 4 3) < (I 42 2) → Q (((J 42 5) &&& ((J 42 6) ^^^ (-1 : Int64))) &&& ((J 42 7) ^^^ (-1 : Int64))) I J))) : wp S d 58 0 [some (.ref 42)] [] (wv x I J) (rJ x Q) := by
  refine wp_seg (C := gC58) (pc1 := 11) (Lo1 := [some (.ref 42)]) (st1' := [.int (I 4 3), .int (I 42 2)]) (w1 := (wv x I J)) hC58 5 rfl ?_
  refine wj_gt (tgt := 39) rfl rfl (fun h => ?_) (fun h => ?_)
  · have k := k.1 h
    refine wp_seg (C := gC58) (pc1 := 40) (Lo1 := [some (.ref 42)]) (st1' := [.long (0 : Int64)]) (w1 := (wv x I J)) hC58 1 rfl ?_
    exact we_l rfl rfl k
  · have k := k.2 h
    refine wp_seg (C := gC58) (pc1 := 36) (Lo1 := [some (.ref 42)]) (st1' := [.long (((J 42 5) &&& ((J 42 6) ^^^ (-1 : Int64))) &&& ((J 42 7) ^^^ (-1 : Int64)))]) (w1 := (wv x I J)) hC58 12 rfl ?_
    refine wp_seg (C := gC58) (pc1 := 40) (Lo1 := [some (.ref 42)]) (st1' := [.long (((J 42 5) &&& ((J 42 6) ^^^ (-1 : Int64))) &&& ((J 42 7) ^^^ (-1 : Int64)))]) (w1 := (wv x I J)) hC58 1 rfl ?_
    exact we_l rfl rfl k
set_option maxRecDepth 20000 in
theorem v55_42_0 {S : Nat × (Nat → Int32)} {d : Nat} {x : mX} {I : rI0} {J : rJ0} {Q : rI0 → rJ0 → Prop} (k : (wcI S d 56 [.ref 42] x (mSet I 42 2 ((I 42 2) + (1 : Int32))) J (fun r1 I1 J1 => (wcV S d 57 [.ref 42] x I1 J1 (fun I2 J2 => (wcJ S d 58 [.ref 42] x I2 J2 (fun r3 I3 J3 => ((r1 = (0 : Int32) → wp S (d + 1) 55 49 [some (.ref 42), some (.int r1), some (.long r3), none, none, none, none, none, none, none, none] [.long ((r3 ||| (J3 42 6)) ||| (J3 42 7))] (wv x I3 J3) (rV x Q)) ∧ (¬ r1 = (0 : Int32) → wp S (d + 1) 55 49 [some (.ref 42), some (.int r1), some (.long r3), none, none, none, none, none, none, none, none] [.long (J3 4 5)] (wv x I3 J3) (rV x Q)))))))))) : wp S (d + 1) 55 0 [some (.ref 42), none, none, none, none, none, none, none, none, none, none] [] (wv x I J) (rV x Q) := by
  refine wp_seg (C := gC55) (pc1 := 11) (Lo1 := [some (.ref 42), none, none, none, none, none, none, none, none, none, none]) (st1' := [.ref 42]) (w1 := (wv x (mSet I 42 2 ((I 42 2) + (1 : Int32))) J)) hC55 7 rfl ?_
  refine cv_I (mj := 56) (a := 42) (as := []) (r := []) rfl rfl rfl ⟨rfl, by decide, Nat.le_of_ble_eq_true rfl, Nat.le_of_ble_eq_true rfl⟩ rfl (wcI_mono k (fun r1 I1 J1 k => ?_))
  refine wp_seg (C := gC55) (pc1 := 16) (Lo1 := [some (.ref 42), some (.int r1), none, none, none, none, none, none, none, none, none]) (st1' := [.ref 42]) (w1 := (wv x I1 J1)) hC55 2 rfl ?_
  refine cv_V (mj := 57) (a := 42) (as := []) (r := []) rfl rfl rfl ⟨rfl, by decide, Nat.le_of_ble_eq_true rfl, Nat.le_of_ble_eq_true rfl⟩ rfl (wcV_mono k (fun I2 J2 k => ?_))
  refine wp_seg (C := gC55) (pc1 := 20) (Lo1 := [some (.ref 42), some (.int r1), none, none, none, none, none, none, none, none, none]) (st1' := [.ref 42]) (w1 := (wv x I2 J2)) hC55 1 rfl ?_
  refine cv_J (mj := 58) (a := 42) (as := []) (r := []) rfl rfl rfl ⟨rfl, by decide, Nat.le_of_ble_eq_true rfl, Nat.le_of_ble_eq_true rfl⟩ rfl (wcJ_mono k (fun r3 I3 J3 k => ?_))
  refine wp_seg (C := gC55) (pc1 := 25) (Lo1 := [some (.ref 42), some (.int r1), some (.long r3), none, none, none, none, none, none, none, none]) (st1' := [.int r1]) (w1 := (wv x I3 J3)) hC55 2 rfl ?_
  refine wi_eq (tgt := 38) rfl rfl (fun h => ?_) (fun h => ?_)
  · have k := k.1 h
    refine wp_seg (C := gC55) (pc1 := 49) (Lo1 := [some (.ref 42), some (.int r1), some (.long r3), none, none, none, none, none, none, none, none]) (st1' := [.long ((r3 ||| (J3 42 6)) ||| (J3 42 7))]) (w1 := (wv x I3 J3)) hC55 7 rfl ?_
    exact k
  · have k := k.2 h
    refine wp_seg (C := gC55) (pc1 := 49) (Lo1 := [some (.ref 42), some (.int r1), some (.long r3), none, none, none, none, none, none, none, none]) (st1' := [.long (J3 4 5)]) (w1 := (wv x I3 J3)) hC55 4 rfl ?_
    exact k
set_option maxRecDepth 20000 in
theorem v55_42_49 {S : Nat × (Nat → Int32)} {d : Nat} {x : mX} {I : rI0} {J : rJ0} {l1 : Int32} {l2 : Int64} {s0 : Int64} {Q : rI0 → rJ0 → Prop} (k : (((I 4 4) = (0 : Int32) → (wcV S d 59 [.ref 42, .long (J 4 5), .long l2, .long s0] x I J (fun I1 J1 => wp S (d + 1) 55 127 [some (.ref 42), some (.int l1), some (.long l2), none, some (.long s0), none, some (.long (J 42 8)), none, some (.long (J 42 9)), none, none] [] (wv x I1 J1) (rV x Q)))) ∧ (¬ (I 4 4) = (0 : Int32) → wp S (d + 1) 55 76 [some (.ref 42), some (.int l1), some (.long l2), none, some (.long s0), none, some (.long (J 42 8)), none, some (.long (J 42 9)), none, some (.int (0 : Int32))] [] (wv x I J) (rV x Q)))) : wp S (d + 1) 55 49 [some (.ref 42), some (.int l1), some (.long l2), none, none, none, none, none, none, none, none] [.long s0] (wv x I J) (rV x Q) := by
  refine wp_seg (C := gC55) (pc1 := 57) (Lo1 := [some (.ref 42), some (.int l1), some (.long l2), none, some (.long s0), none, some (.long (J 42 8)), none, none, none, none]) (st1' := []) (w1 := (wv x I J)) hC55 4 rfl ?_
  refine wp_seg (C := gC55) (pc1 := 70) (Lo1 := [some (.ref 42), some (.int l1), some (.long l2), none, some (.long s0), none, some (.long (J 42 8)), none, some (.long (J 42 9)), none, none]) (st1' := [.int (I 4 4)]) (w1 := (wv x I J)) hC55 6 rfl ?_
  refine wi_eq (tgt := 113) rfl rfl (fun h => ?_) (fun h => ?_)
  · have k := k.1 h
    refine wp_seg (C := gC55) (pc1 := 124) (Lo1 := [some (.ref 42), some (.int l1), some (.long l2), none, some (.long s0), none, some (.long (J 42 8)), none, some (.long (J 42 9)), none, none]) (st1' := [.long s0, .long l2, .long (J 4 5), .ref 42]) (w1 := (wv x I J)) hC55 6 rfl ?_
    refine cv_V (mj := 59) (a := 42) (as := [.long (J 4 5), .long l2, .long s0]) (r := []) rfl rfl rfl ⟨rfl, by decide, Nat.le_of_ble_eq_true rfl, Nat.le_of_ble_eq_true rfl⟩ rfl (wcV_mono k (fun I1 J1 k => ?_))
    exact k
  · have k := k.2 h
    refine wp_seg (C := gC55) (pc1 := 76) (Lo1 := [some (.ref 42), some (.int l1), some (.long l2), none, some (.long s0), none, some (.long (J 42 8)), none, some (.long (J 42 9)), none, some (.int (0 : Int32))]) (st1' := []) (w1 := (wv x I J)) hC55 2 rfl ?_
    exact k
set_option maxRecDepth 20000 in
theorem v55_42_76 {S : Nat × (Nat → Int32)} {d : Nat} {x : mX} {I : rI0} {J : rJ0} {l1 : Int32} {l2 : Int64} {l4 : Int64} {l6 : Int64} {l8 : Int64} {l10 : Int32} {Q : rI0 → rJ0 → Prop} (k : ((l10 < (I 4 0) → (wcJ S d 28 [.ref 4, .int l10] x I J (fun r1 I1 J1 => (wcV S d 59 [.ref 42, .long r1, .long l2, .long l4] x I1 J1 (fun I2 J2 => wp S (d + 1) 55 76 [some (.ref 42), some (.int l1), some (.long l2), none, some (.long l4), none, some (.long l6), none, some (.long l8), none, some (.int (l10 + (1 : Int32)))] [] (wv x I2 J2) (rV x Q)))))) ∧ (¬ l10 < (I 4 0) → wp S (d + 1) 55 127 [some (.ref 42), some (.int l1), some (.long l2), none, some (.long l4), none, some (.long l6), none, some (.long l8), none, none] [] (wv x I J) (rV x Q)))) : wp S (d + 1) 55 76 [some (.ref 42), some (.int l1), some (.long l2), none, some (.long l4), none, some (.long l6), none, some (.long l8), none, some (.int l10)] [] (wv x I J) (rV x Q) := by
  refine wp_seg (C := gC55) (pc1 := 85) (Lo1 := [some (.ref 42), some (.int l1), some (.long l2), none, some (.long l4), none, some (.long l6), none, some (.long l8), none, some (.int l10)]) (st1' := [.int (I 4 0), .int l10]) (w1 := (wv x I J)) hC55 4 rfl ?_
  refine wj_ge (tgt := 110) rfl rfl (fun h => ?_) (fun h => ?_)
  · have k := k.1 h
    refine wp_seg (C := gC55) (pc1 := 95) (Lo1 := [some (.ref 42), some (.int l1), some (.long l2), none, some (.long l4), none, some (.long l6), none, some (.long l8), none, some (.int l10)]) (st1' := [.int l10, .ref 4, .ref 42]) (w1 := (wv x I J)) hC55 4 rfl ?_
    refine cv_J (mj := 28) (a := 4) (as := [.int l10]) (r := [.ref 42]) rfl rfl rfl ⟨rfl, by decide, Nat.le_of_ble_eq_true rfl, Nat.le_of_ble_eq_true rfl⟩ rfl (wcJ_mono k (fun r1 I1 J1 k => ?_))
    refine wp_seg (C := gC55) (pc1 := 101) (Lo1 := [some (.ref 42), some (.int l1), some (.long l2), none, some (.long l4), none, some (.long l6), none, some (.long l8), none, some (.int l10)]) (st1' := [.long l4, .long l2, .long r1, .ref 42]) (w1 := (wv x I1 J1)) hC55 2 rfl ?_
    refine cv_V (mj := 59) (a := 42) (as := [.long r1, .long l2, .long l4]) (r := []) rfl rfl rfl ⟨rfl, by decide, Nat.le_of_ble_eq_true rfl, Nat.le_of_ble_eq_true rfl⟩ rfl (wcV_mono k (fun I2 J2 k => ?_))
    refine wp_seg (C := gC55) (pc1 := 76) (Lo1 := [some (.ref 42), some (.int l1), some (.long l2), none, some (.long l4), none, some (.long l6), none, some (.long l8), none, some (.int (l10 + (1 : Int32)))]) (st1' := []) (w1 := (wv x I2 J2)) hC55 2 rfl ?_
    exact k
  · have k := k.2 h
    refine wp_seg (C := gC55) (pc1 := 127) (Lo1 := [some (.ref 42), some (.int l1), some (.long l2), none, some (.long l4), none, some (.long l6), none, some (.long l8), none, some (.int l10)]) (st1' := []) (w1 := (wv x I J)) hC55 1 rfl ?_
    exact wp_sub (Lo := [some (.ref 42), some (.int l1), some (.long l2), none, some (.long l4), none, some (.long l6), none, some (.long l8), none, none]) (And.intro rfl (And.intro rfl (And.intro rfl (And.intro rfl (And.intro rfl (And.intro rfl (trivial))))))) k
set_option maxRecDepth 20000 in
theorem v55_42_127 {S : Nat × (Nat → Int32)} {d : Nat} {x : mX} {I : rI0} {J : rJ0} {l1 : Int32} {l2 : Int64} {l4 : Int64} {l6 : Int64} {l8 : Int64} {Q : rI0 → rJ0 → Prop} (k : (wcV S d 60 [.ref 42, .long (((J 4 5) &&& (((J 42 8) ^^^ l6) ^^^ (-1 : Int64))) &&& (((J 42 9) ^^^ l8) ^^^ (-1 : Int64)))] x I J (fun I1 J1 => Q I1 J1))) : wp S (d + 1) 55 127 [some (.ref 42), some (.int l1), some (.long l2), none, some (.long l4), none, some (.long l6), none, some (.long l8), none, none] [] (wv x I J) (rV x Q) := by
  refine wp_seg (C := gC55) (pc1 := 148) (Lo1 := [some (.ref 42), some (.int l1), some (.long l2), none, some (.long l4), none, some (.long l6), none, some (.long l8), none, none]) (st1' := [.ref 42, .long ((J 4 5) &&& (((J 42 8) ^^^ l6) ^^^ (-1 : Int64))), .ref 42]) (w1 := (wv x I J)) hC55 12 rfl ?_
  refine wp_seg (C := gC55) (pc1 := 159) (Lo1 := [some (.ref 42), some (.int l1), some (.long l2), none, some (.long l4), none, some (.long l6), none, some (.long l8), none, none]) (st1' := [.long (((J 4 5) &&& (((J 42 8) ^^^ l6) ^^^ (-1 : Int64))) &&& (((J 42 9) ^^^ l8) ^^^ (-1 : Int64))), .ref 42]) (w1 := (wv x I J)) hC55 6 rfl ?_
  refine cv_V (mj := 60) (a := 42) (as := [.long (((J 4 5) &&& (((J 42 8) ^^^ l6) ^^^ (-1 : Int64))) &&& (((J 42 9) ^^^ l8) ^^^ (-1 : Int64)))]) (r := []) rfl rfl rfl ⟨rfl, by decide, Nat.le_of_ble_eq_true rfl, Nat.le_of_ble_eq_true rfl⟩ rfl (wcV_mono k (fun I1 J1 k => ?_))
  exact we_v rfl rfl k
set_option maxRecDepth 20000 in
theorem v42_29_0 {S : Nat × (Nat → Int32)} {d : Nat} {x : mX} {I : rI0} {J : rJ0} {p1 : Int32} {p2 : Int32} {p3 : Int32} {Q : Int32 → rI0 → rJ0 → Prop} (k : (((I 28 3) = (40 : Int32) → wp S (d + 1) 42 26 [some (.ref 29), some (.int p1), some (.int p2), some (.int p3), none, none, none] [.int (9 : Int32)] (wv x I J) (rI x Q)) ∧ (¬ (I 28 3) = (40 : Int32) → (wcI S d 73 [.ref 28, .ref 1000002] x I J (fun r1 I1 J1 => wp S (d + 1) 42 26 [some (.ref 29), some (.int p1), some (.int p2), some (.int p3), none, none, none] [.int r1] (wv x I1 J1) (rI x Q)))))) : wp S (d + 1) 42 0 [some (.ref 29), some (.int p1), some (.int p2), some (.int p3), none, none, none] [] (wv x I J) (rI x Q) := by
  refine wp_seg (C := gC42) (pc1 := 9) (Lo1 := [some (.ref 29), some (.int p1), some (.int p2), some (.int p3), none, none, none]) (st1' := [.int (40 : Int32), .int (I 28 3)]) (w1 := (wv x I J)) hC42 4 rfl ?_
  refine wj_ne (tgt := 17) rfl rfl (fun h => ?_) (fun h => ?_)
  · have k := k.1 h
    refine wp_seg (C := gC42) (pc1 := 26) (Lo1 := [some (.ref 29), some (.int p1), some (.int p2), some (.int p3), none, none, none]) (st1' := [.int (9 : Int32)]) (w1 := (wv x I J)) hC42 2 rfl ?_
    exact k
  · have k := k.2 h
    refine wp_seg (C := gC42) (pc1 := 23) (Lo1 := [some (.ref 29), some (.int p1), some (.int p2), some (.int p3), none, none, none]) (st1' := [.ref 1000002, .ref 28]) (w1 := (wv x I J)) hC42 3 rfl ?_
    refine cv_I (mj := 73) (a := 28) (as := [.ref 1000002]) (r := []) rfl rfl rfl ⟨rfl, by decide, Nat.le_of_ble_eq_true rfl, Nat.le_of_ble_eq_true rfl⟩ rfl (wcI_mono k (fun r1 I1 J1 k => ?_))
    exact k
set_option maxRecDepth 20000 in
theorem v42_29_26 {S : Nat × (Nat → Int32)} {d : Nat} {x : mX} {I : rI0} {J : rJ0} {l1 : Int32} {l2 : Int32} {l3 : Int32} {s0 : Int32} {Q : Int32 → rI0 → rJ0 → Prop} (k : ((s0 = (-1 : Int32) → (wcI S d 75 [.ref 28, .int (1 : Int32)] x I J (fun r1 I1 J1 => ((r1 = 0 ∨ r1 = 1) ∧ Q r1 I1 J1)))) ∧ (¬ s0 = (-1 : Int32) → (((I 29 2) < (20 : Int32) → (((8 : Int32) < l3 → (wcI S d 75 [.ref 28, .int (4 : Int32)] x I J (fun r2 I2 J2 => ((r2 = 0 ∨ r2 = 1) ∧ Q r2 I2 J2)))) ∧ (¬ (8 : Int32) < l3 → (wcV S d 70 [.ref 28] x (mSet I 29 2 ((I 29 2) + (1 : Int32))) J (fun I3 J3 => ((s0 = (9 : Int32) → (wcI S d 41 [.ref 29, .int l1, .int (l3 + (1 : Int32))] x I3 J3 (fun r4 I4 J4 => ((r4 = (0 : Int32) → Q (0 : Int32) I4 J4) ∧ (¬ r4 = (0 : Int32) → (wcI S d 78 [.ref 28, .int (41 : Int32)] x I4 J4 (fun r5 I5 J5 => ((r5 = (0 : Int32) → Q (0 : Int32) I5 J5) ∧ (¬ r5 = (0 : Int32) → wp S (d + 1) 42 188 [some (.ref 29), some (.int l1), some (.int l2), some (.int l3), some (.int s0), some (.int (I 29 2)), some (.int ((l2 <<< ((18 : Int32) &&& 31)) ||| (s0 <<< ((14 : Int32) &&& 31))))] [] (wv x I5 J5) (rI x Q)))))))))) ∧ (¬ s0 = (9 : Int32) → ((s0 = (8 : Int32) → (wcI S d 42 [.ref 29, .int l1, .int (0 : Int32), .int (l3 + (1 : Int32))] x I3 J3 (fun r6 I6 J6 => ((r6 = (0 : Int32) → Q (0 : Int32) I6 J6) ∧ (¬ r6 = (0 : Int32) → wp S (d + 1) 42 188 [some (.ref 29), some (.int l1), some (.int l2), some (.int l3), some (.int s0), some (.int (I 29 2)), some (.int ((l2 <<< ((18 : Int32) &&& 31)) ||| (s0 <<< ((14 : Int32) &&& 31))))] [] (wv x I6 J6) (rI x Q)))))) ∧ (¬ s0 = (8 : Int32) → ((s0 < (6 : Int32) → (wcI S d 43 [.ref 29, .int (1 : Int32)] x I3 J3 (fun r7 I7 J7 => ((r7 = (0 : Int32) → Q (0 : Int32) I7 J7) ∧ (¬ r7 = (0 : Int32) → wp S (d + 1) 42 188 [some (.ref 29), some (.int l1), some (.int l2), some (.int l3), some (.int s0), some (.int (I 29 2)), some (.int (((l2 <<< ((18 : Int32) &&& 31)) ||| (s0 <<< ((14 : Int32) &&& 31))) ||| (I7 29 6)))] [] (wv x I7 J7) (rI x Q)))))) ∧ (¬ s0 < (6 : Int32) → (wcI S d 43 [.ref 29, .int (0 : Int32)] x I3 J3 (fun r8 I8 J8 => ((r8 = (0 : Int32) → Q (0 : Int32) I8 J8) ∧ (¬ r8 = (0 : Int32) → wp S (d + 1) 42 188 [some (.ref 29), some (.int l1), some (.int l2), some (.int l3), some (.int s0), some (.int (I 29 2)), some (.int (((l2 <<< ((18 : Int32) &&& 31)) ||| (s0 <<< ((14 : Int32) &&& 31))) ||| (I8 29 6)))] [] (wv x I8 J8) (rI x Q)))))))))))))))) ∧ (¬ (I 29 2) < (20 : Int32) → (wcI S d 75 [.ref 28, .int (4 : Int32)] x I J (fun r9 I9 J9 => ((r9 = 0 ∨ r9 = 1) ∧ Q r9 I9 J9)))))))) : wp S (d + 1) 42 26 [some (.ref 29), some (.int l1), some (.int l2), some (.int l3), none, none, none] [.int s0] (wv x I J) (rI x Q) := by
  refine wp_seg (C := gC42) (pc1 := 31) (Lo1 := [some (.ref 29), some (.int l1), some (.int l2), some (.int l3), some (.int s0), none, none]) (st1' := [.int (-1 : Int32), .int s0]) (w1 := (wv x I J)) hC42 3 rfl ?_
  refine wj_ne (tgt := 43) rfl rfl (fun h => ?_) (fun h => ?_)
  · have k := k.1 h
    refine wp_seg (C := gC42) (pc1 := 39) (Lo1 := [some (.ref 29), some (.int l1), some (.int l2), some (.int l3), some (.int s0), none, none]) (st1' := [.int (1 : Int32), .ref 28]) (w1 := (wv x I J)) hC42 3 rfl ?_
    refine cv_I (mj := 75) (a := 28) (as := [.int (1 : Int32)]) (r := []) rfl rfl rfl ⟨rfl, by decide, Nat.le_of_ble_eq_true rfl, Nat.le_of_ble_eq_true rfl⟩ rfl (wcI_mono k (fun r1 I1 J1 k => ?_))
    exact we_z rfl rfl k.1 k.2
  · have k := k.2 h
    refine wp_seg (C := gC42) (pc1 := 49) (Lo1 := [some (.ref 29), some (.int l1), some (.int l2), some (.int l3), some (.int s0), none, none]) (st1' := [.int (20 : Int32), .int (I 29 2)]) (w1 := (wv x I J)) hC42 3 rfl ?_
    refine wj_ge (tgt := 58) rfl rfl (fun h => ?_) (fun h => ?_)
    · have k := k.1 h
      refine wp_seg (C := gC42) (pc1 := 55) (Lo1 := [some (.ref 29), some (.int l1), some (.int l2), some (.int l3), some (.int s0), none, none]) (st1' := [.int (8 : Int32), .int l3]) (w1 := (wv x I J)) hC42 2 rfl ?_
      refine wj_le (tgt := 67) rfl rfl (fun h => ?_) (fun h => ?_)
      · have k := k.1 h
        refine wp_seg (C := gC42) (pc1 := 63) (Lo1 := [some (.ref 29), some (.int l1), some (.int l2), some (.int l3), some (.int s0), none, none]) (st1' := [.int (4 : Int32), .ref 28]) (w1 := (wv x I J)) hC42 3 rfl ?_
        refine cv_I (mj := 75) (a := 28) (as := [.int (4 : Int32)]) (r := []) rfl rfl rfl ⟨rfl, by decide, Nat.le_of_ble_eq_true rfl, Nat.le_of_ble_eq_true rfl⟩ rfl (wcI_mono k (fun r2 I2 J2 k => ?_))
        exact we_z rfl rfl k.1 k.2
      · have k := k.2 h
        refine wp_seg (C := gC42) (pc1 := 87) (Lo1 := [some (.ref 29), some (.int l1), some (.int l2), some (.int l3), some (.int s0), some (.int (I 29 2)), none]) (st1' := [.ref 28]) (w1 := (wv x (mSet I 29 2 ((I 29 2) + (1 : Int32))) J)) hC42 11 rfl ?_
        refine cv_V (mj := 70) (a := 28) (as := []) (r := []) rfl rfl rfl ⟨rfl, by decide, Nat.le_of_ble_eq_true rfl, Nat.le_of_ble_eq_true rfl⟩ rfl (wcV_mono k (fun I3 J3 k => ?_))
        refine wp_seg (C := gC42) (pc1 := 106) (Lo1 := [some (.ref 29), some (.int l1), some (.int l2), some (.int l3), some (.int s0), some (.int (I 29 2)), some (.int ((l2 <<< ((18 : Int32) &&& 31)) ||| (s0 <<< ((14 : Int32) &&& 31))))]) (st1' := [.int (9 : Int32), .int s0]) (w1 := (wv x I3 J3)) hC42 10 rfl ?_
        refine wj_ne (tgt := 134) rfl rfl (fun h => ?_) (fun h => ?_)
        · have k := k.1 h
          refine wp_seg (C := gC42) (pc1 := 114) (Lo1 := [some (.ref 29), some (.int l1), some (.int l2), some (.int l3), some (.int s0), some (.int (I 29 2)), some (.int ((l2 <<< ((18 : Int32) &&& 31)) ||| (s0 <<< ((14 : Int32) &&& 31))))]) (st1' := [.int (l3 + (1 : Int32)), .int l1, .ref 29]) (w1 := (wv x I3 J3)) hC42 5 rfl ?_
          refine cv_I (mj := 41) (a := 29) (as := [.int l1, .int (l3 + (1 : Int32))]) (r := []) rfl rfl rfl ⟨rfl, by decide, Nat.le_of_ble_eq_true rfl, Nat.le_of_ble_eq_true rfl⟩ rfl (wcI_mono k (fun r4 I4 J4 k => ?_))
          refine wi_eq (tgt := 132) rfl rfl (fun h => ?_) (fun h => ?_)
          · have k := k.1 h
            refine wp_seg (C := gC42) (pc1 := 133) (Lo1 := [some (.ref 29), some (.int l1), some (.int l2), some (.int l3), some (.int s0), some (.int (I 29 2)), some (.int ((l2 <<< ((18 : Int32) &&& 31)) ||| (s0 <<< ((14 : Int32) &&& 31))))]) (st1' := [.int (0 : Int32)]) (w1 := (wv x I4 J4)) hC42 1 rfl ?_
            exact we_z rfl rfl (Or.inl rfl) k
          · have k := k.2 h
            refine wp_seg (C := gC42) (pc1 := 126) (Lo1 := [some (.ref 29), some (.int l1), some (.int l2), some (.int l3), some (.int s0), some (.int (I 29 2)), some (.int ((l2 <<< ((18 : Int32) &&& 31)) ||| (s0 <<< ((14 : Int32) &&& 31))))]) (st1' := [.int (41 : Int32), .ref 28]) (w1 := (wv x I4 J4)) hC42 3 rfl ?_
            refine cv_I (mj := 78) (a := 28) (as := [.int (41 : Int32)]) (r := []) rfl rfl rfl ⟨rfl, by decide, Nat.le_of_ble_eq_true rfl, Nat.le_of_ble_eq_true rfl⟩ rfl (wcI_mono k (fun r5 I5 J5 k => ?_))
            refine wi_ne (tgt := 188) rfl rfl (fun h => ?_) (fun h => ?_)
            · have k := k.1 h
              refine wp_seg (C := gC42) (pc1 := 133) (Lo1 := [some (.ref 29), some (.int l1), some (.int l2), some (.int l3), some (.int s0), some (.int (I 29 2)), some (.int ((l2 <<< ((18 : Int32) &&& 31)) ||| (s0 <<< ((14 : Int32) &&& 31))))]) (st1' := [.int (0 : Int32)]) (w1 := (wv x I5 J5)) hC42 1 rfl ?_
              exact we_z rfl rfl (Or.inl rfl) k
            · have k := k.2 h
              exact k
        · have k := k.2 h
          refine wp_seg (C := gC42) (pc1 := 138) (Lo1 := [some (.ref 29), some (.int l1), some (.int l2), some (.int l3), some (.int s0), some (.int (I 29 2)), some (.int ((l2 <<< ((18 : Int32) &&& 31)) ||| (s0 <<< ((14 : Int32) &&& 31))))]) (st1' := [.int (8 : Int32), .int s0]) (w1 := (wv x I3 J3)) hC42 2 rfl ?_
          refine wj_ne (tgt := 155) rfl rfl (fun h => ?_) (fun h => ?_)
          · have k := k.1 h
            refine wp_seg (C := gC42) (pc1 := 147) (Lo1 := [some (.ref 29), some (.int l1), some (.int l2), some (.int l3), some (.int s0), some (.int (I 29 2)), some (.int ((l2 <<< ((18 : Int32) &&& 31)) ||| (s0 <<< ((14 : Int32) &&& 31))))]) (st1' := [.int (l3 + (1 : Int32)), .int (0 : Int32), .int l1, .ref 29]) (w1 := (wv x I3 J3)) hC42 6 rfl ?_
            refine cv_I (mj := 42) (a := 29) (as := [.int l1, .int (0 : Int32), .int (l3 + (1 : Int32))]) (r := []) rfl rfl rfl ⟨rfl, by decide, Nat.le_of_ble_eq_true rfl, Nat.le_of_ble_eq_true rfl⟩ rfl (wcI_mono k (fun r6 I6 J6 k => ?_))
            refine wi_ne (tgt := 188) rfl rfl (fun h => ?_) (fun h => ?_)
            · have k := k.1 h
              refine wp_seg (C := gC42) (pc1 := 154) (Lo1 := [some (.ref 29), some (.int l1), some (.int l2), some (.int l3), some (.int s0), some (.int (I 29 2)), some (.int ((l2 <<< ((18 : Int32) &&& 31)) ||| (s0 <<< ((14 : Int32) &&& 31))))]) (st1' := [.int (0 : Int32)]) (w1 := (wv x I6 J6)) hC42 1 rfl ?_
              exact we_z rfl rfl (Or.inl rfl) k
            · have k := k.2 h
              exact k
          · have k := k.2 h
            refine wp_seg (C := gC42) (pc1 := 160) (Lo1 := [some (.ref 29), some (.int l1), some (.int l2), some (.int l3), some (.int s0), some (.int (I 29 2)), some (.int ((l2 <<< ((18 : Int32) &&& 31)) ||| (s0 <<< ((14 : Int32) &&& 31))))]) (st1' := [.int (6 : Int32), .int s0, .ref 29]) (w1 := (wv x I3 J3)) hC42 3 rfl ?_
            refine wj_ge (tgt := 167) rfl rfl (fun h => ?_) (fun h => ?_)
            · have k := k.1 h
              refine wp_seg (C := gC42) (pc1 := 168) (Lo1 := [some (.ref 29), some (.int l1), some (.int l2), some (.int l3), some (.int s0), some (.int (I 29 2)), some (.int ((l2 <<< ((18 : Int32) &&& 31)) ||| (s0 <<< ((14 : Int32) &&& 31))))]) (st1' := [.int (1 : Int32), .ref 29]) (w1 := (wv x I3 J3)) hC42 2 rfl ?_
              refine cv_I (mj := 43) (a := 29) (as := [.int (1 : Int32)]) (r := []) rfl rfl rfl ⟨rfl, by decide, Nat.le_of_ble_eq_true rfl, Nat.le_of_ble_eq_true rfl⟩ rfl (wcI_mono k (fun r7 I7 J7 k => ?_))
              refine wi_eq (tgt := 186) rfl rfl (fun h => ?_) (fun h => ?_)
              · have k := k.1 h
                refine wp_seg (C := gC42) (pc1 := 187) (Lo1 := [some (.ref 29), some (.int l1), some (.int l2), some (.int l3), some (.int s0), some (.int (I 29 2)), some (.int ((l2 <<< ((18 : Int32) &&& 31)) ||| (s0 <<< ((14 : Int32) &&& 31))))]) (st1' := [.int (0 : Int32)]) (w1 := (wv x I7 J7)) hC42 1 rfl ?_
                exact we_z rfl rfl (Or.inl rfl) k
              · have k := k.2 h
                refine wp_seg (C := gC42) (pc1 := 188) (Lo1 := [some (.ref 29), some (.int l1), some (.int l2), some (.int l3), some (.int s0), some (.int (I 29 2)), some (.int (((l2 <<< ((18 : Int32) &&& 31)) ||| (s0 <<< ((14 : Int32) &&& 31))) ||| (I7 29 6)))]) (st1' := []) (w1 := (wv x I7 J7)) hC42 6 rfl ?_
                exact k
            · have k := k.2 h
              refine wp_seg (C := gC42) (pc1 := 168) (Lo1 := [some (.ref 29), some (.int l1), some (.int l2), some (.int l3), some (.int s0), some (.int (I 29 2)), some (.int ((l2 <<< ((18 : Int32) &&& 31)) ||| (s0 <<< ((14 : Int32) &&& 31))))]) (st1' := [.int (0 : Int32), .ref 29]) (w1 := (wv x I3 J3)) hC42 1 rfl ?_
              refine cv_I (mj := 43) (a := 29) (as := [.int (0 : Int32)]) (r := []) rfl rfl rfl ⟨rfl, by decide, Nat.le_of_ble_eq_true rfl, Nat.le_of_ble_eq_true rfl⟩ rfl (wcI_mono k (fun r8 I8 J8 k => ?_))
              refine wi_eq (tgt := 186) rfl rfl (fun h => ?_) (fun h => ?_)
              · have k := k.1 h
                refine wp_seg (C := gC42) (pc1 := 187) (Lo1 := [some (.ref 29), some (.int l1), some (.int l2), some (.int l3), some (.int s0), some (.int (I 29 2)), some (.int ((l2 <<< ((18 : Int32) &&& 31)) ||| (s0 <<< ((14 : Int32) &&& 31))))]) (st1' := [.int (0 : Int32)]) (w1 := (wv x I8 J8)) hC42 1 rfl ?_
                exact we_z rfl rfl (Or.inl rfl) k
              · have k := k.2 h
                refine wp_seg (C := gC42) (pc1 := 188) (Lo1 := [some (.ref 29), some (.int l1), some (.int l2), some (.int l3), some (.int s0), some (.int (I 29 2)), some (.int (((l2 <<< ((18 : Int32) &&& 31)) ||| (s0 <<< ((14 : Int32) &&& 31))) ||| (I8 29 6)))]) (st1' := []) (w1 := (wv x I8 J8)) hC42 6 rfl ?_
                exact k
    · have k := k.2 h
      refine wp_seg (C := gC42) (pc1 := 63) (Lo1 := [some (.ref 29), some (.int l1), some (.int l2), some (.int l3), some (.int s0), none, none]) (st1' := [.int (4 : Int32), .ref 28]) (w1 := (wv x I J)) hC42 3 rfl ?_
      refine cv_I (mj := 75) (a := 28) (as := [.int (4 : Int32)]) (r := []) rfl rfl rfl ⟨rfl, by decide, Nat.le_of_ble_eq_true rfl, Nat.le_of_ble_eq_true rfl⟩ rfl (wcI_mono k (fun r9 I9 J9 k => ?_))
      exact we_z rfl rfl k.1 k.2
set_option maxRecDepth 20000 in
theorem v42_29_188 {S : Nat × (Nat → Int32)} {d : Nat} {x : mX} {I : rI0} {J : rJ0} {l1 : Int32} {l2 : Int32} {l3 : Int32} {l4 : Int32} {l5 : Int32} {l6 : Int32} {Q : Int32 → rI0 → rJ0 → Prop} (k : (¬ mOut (l1 + l5) 240 ∧ Q (1 : Int32) (mSet I 22 ((l1 + l5).toNatClampNeg) (l6 ||| (((I 29 2) - l5) <<< ((19 : Int32) &&& 31)))) J)) : wp S (d + 1) 42 188 [some (.ref 29), some (.int l1), some (.int l2), some (.int l3), some (.int l4), some (.int l5), some (.int l6)] [] (wv x I J) (rI x Q) := by
  refine wp_seg (C := gC42) (pc1 := 210) (Lo1 := [some (.ref 29), some (.int l1), some (.int l2), some (.int l3), some (.int l4), some (.int l5), some (.int l6)]) (st1' := [.int (19 : Int32), .int ((I 29 2) - l5), .int l6, .int (l1 + l5), .ref 22]) (w1 := (wv x I J)) hC42 12 rfl ?_
  refine wp_seg (C := gC42) (pc1 := 212) (Lo1 := [some (.ref 29), some (.int l1), some (.int l2), some (.int l3), some (.int l4), some (.int l5), some (.int l6)]) (st1' := [.int (l6 ||| (((I 29 2) - l5) <<< ((19 : Int32) &&& 31))), .int (l1 + l5), .ref 22]) (w1 := (wv x I J)) hC42 2 rfl ?_
  refine ws_i (n := 240) rfl rfl k.1 ?_
  have k := k.2
  refine wp_seg (C := gC42) (pc1 := 214) (Lo1 := [some (.ref 29), some (.int l1), some (.int l2), some (.int l3), some (.int l4), some (.int l5), some (.int l6)]) (st1' := [.int (1 : Int32)]) (w1 := (wv x (mSet I 22 ((l1 + l5).toNatClampNeg) (l6 ||| (((I 29 2) - l5) <<< ((19 : Int32) &&& 31)))) J)) hC42 1 rfl ?_
  exact we_z rfl rfl (Or.inr rfl) k
set_option maxRecDepth 20000 in
theorem v73_28_1000003_0 {S : Nat × (Nat → Int32)} {d : Nat} {x : mX} {I : rI0} {J : rJ0} {Q : Int32 → rI0 → rJ0 → Prop} (k : (((I 28 3) = (2 : Int32) → wp S (d + 7) 73 12 [some (.ref 28), some (.ref 1000003), some (.int (0 : Int32))] [] (wv x I J) (rI x Q)) ∧ (¬ (I 28 3) = (2 : Int32) → Q (-1 : Int32) I J))) : wp S (d + 7) 73 0 [some (.ref 28), some (.ref 1000003), none] [] (wv x I J) (rI x Q) := by
  refine wp_seg (C := gC73) (pc1 := 5) (Lo1 := [some (.ref 28), some (.ref 1000003), none]) (st1' := [.int (2 : Int32), .int (I 28 3)]) (w1 := (wv x I J)) hC73 3 rfl ?_
  refine wj_eq (tgt := 10) rfl rfl (fun h => ?_) (fun h => ?_)
  · have k := k.1 h
    refine wp_seg (C := gC73) (pc1 := 12) (Lo1 := [some (.ref 28), some (.ref 1000003), some (.int (0 : Int32))]) (st1' := []) (w1 := (wv x I J)) hC73 2 rfl ?_
    exact k
  · have k := k.2 h
    refine wp_seg (C := gC73) (pc1 := 9) (Lo1 := [some (.ref 28), some (.ref 1000003), none]) (st1' := [.int (-1 : Int32)]) (w1 := (wv x I J)) hC73 1 rfl ?_
    exact we_i rfl rfl k
set_option maxRecDepth 20000 in
theorem v73_28_1000003_12 {S : Nat × (Nat → Int32)} {d : Nat} {x : mX} {I : rI0} {J : rJ0} {l2 : Int32} {Q : Int32 → rI0 → rJ0 → Prop} (k : (((16 : Int32) < (l2 + (8 : Int32)) → Q (-1 : Int32) I J) ∧ (¬ (16 : Int32) < (l2 + (8 : Int32)) → (wcI S (d + 6) 74 [.ref 28, .ref 1000003, .int l2] x I J (fun r1 I1 J1 => ((r1 = (0 : Int32) → wp S (d + 7) 73 12 [some (.ref 28), some (.ref 1000003), some (.int (l2 + (8 : Int32)))] [] (wv x I1 J1) (rI x Q)) ∧ (¬ r1 = (0 : Int32) → (¬ (8 : Int32) = 0 ∧ Q (l2 / (8 : Int32)) I1 J1)))))))) : wp S (d + 7) 73 12 [some (.ref 28), some (.ref 1000003), some (.int l2)] [] (wv x I J) (rI x Q) := by
  refine wp_seg (C := gC73) (pc1 := 17) (Lo1 := [some (.ref 28), some (.ref 1000003), some (.int l2)]) (st1' := [.ref 1000003, .int (l2 + (8 : Int32))]) (w1 := (wv x I J)) hC73 4 rfl ?_
  refine wq_sln (v := (16 : Int32)) rfl rfl (by decide) (Nat.le_of_ble_eq_true rfl) (by decide +kernel) ?_
  refine wj_gt (tgt := 43) rfl rfl (fun h => ?_) (fun h => ?_)
  · have k := k.1 h
    refine wp_seg (C := gC73) (pc1 := 44) (Lo1 := [some (.ref 28), some (.ref 1000003), some (.int l2)]) (st1' := [.int (-1 : Int32)]) (w1 := (wv x I J)) hC73 1 rfl ?_
    exact we_i rfl rfl k
  · have k := k.2 h
    refine wp_seg (C := gC73) (pc1 := 26) (Lo1 := [some (.ref 28), some (.ref 1000003), some (.int l2)]) (st1' := [.int l2, .ref 1000003, .ref 28]) (w1 := (wv x I J)) hC73 3 rfl ?_
    refine cv_I (mj := 74) (a := 28) (as := [.ref 1000003, .int l2]) (r := []) rfl rfl rfl ⟨rfl, by decide, Nat.le_of_ble_eq_true rfl, Nat.le_of_ble_eq_true rfl⟩ rfl (wcI_mono k (fun r1 I1 J1 k => ?_))
    refine wi_eq (tgt := 37) rfl rfl (fun h => ?_) (fun h => ?_)
    · have k := k.1 h
      refine wp_seg (C := gC73) (pc1 := 12) (Lo1 := [some (.ref 28), some (.ref 1000003), some (.int (l2 + (8 : Int32)))]) (st1' := []) (w1 := (wv x I1 J1)) hC73 2 rfl ?_
      exact k
    · have k := k.2 h
      refine wp_seg (C := gC73) (pc1 := 35) (Lo1 := [some (.ref 28), some (.ref 1000003), some (.int l2)]) (st1' := [.int (8 : Int32), .int l2]) (w1 := (wv x I1 J1)) hC73 2 rfl ?_
      refine wd_i rfl k.1 ?_
      have k := k.2
      exact we_i rfl rfl k
set_option maxRecDepth 20000 in
theorem v74_28_1000004_0 {S : Nat × (Nat → Int32)} {d : Nat} {x : mX} {I : rI0} {J : rJ0} {p2 : Int32} {Q : Int32 → rI0 → rJ0 → Prop} (k : wp S (d + 7) 74 2 [some (.ref 28), some (.ref 1000004), some (.int p2), some (.int (0 : Int32))] [] (wv x I J) (rI x Q)) : wp S (d + 7) 74 0 [some (.ref 28), some (.ref 1000004), some (.int p2), none] [] (wv x I J) (rI x Q) := by
  refine wp_seg (C := gC74) (pc1 := 2) (Lo1 := [some (.ref 28), some (.ref 1000004), some (.int p2), some (.int (0 : Int32))]) (st1' := []) (w1 := (wv x I J)) hC74 2 rfl ?_
  exact k
set_option maxRecDepth 20000 in
theorem v74_28_1000004_2 {S : Nat × (Nat → Int32)} {d : Nat} {x : mX} {I : rI0} {J : rJ0} {l2 : Int32} {l3 : Int32} {Q : Int32 → rI0 → rJ0 → Prop} (k : ((l3 < (8 : Int32) → (((l2 + l3) < (8 : Int32) → (¬ mOut (l2 + l3) 8 ∧ (wcI S (d + 6) 72 [.ref 28, .int l3] x I J (fun r1 I1 J1 => ((((gSb.getD 3 []).getD (l2 + l3).toNatClampNeg 0) = r1 → wp S (d + 7) 74 2 [some (.ref 28), some (.ref 1000004), some (.int l2), some (.int (l3 + (1 : Int32)))] [] (wv x I1 J1) (rI x Q)) ∧ (¬ ((gSb.getD 3 []).getD (l2 + l3).toNatClampNeg 0) = r1 → Q (0 : Int32) I1 J1)))))) ∧ (¬ (l2 + l3) < (8 : Int32) → Q (1 : Int32) I J))) ∧ (¬ l3 < (8 : Int32) → Q (1 : Int32) I J))) : wp S (d + 7) 74 2 [some (.ref 28), some (.ref 1000004), some (.int l2), some (.int l3)] [] (wv x I J) (rI x Q) := by
  refine wp_seg (C := gC74) (pc1 := 5) (Lo1 := [some (.ref 28), some (.ref 1000004), some (.int l2), some (.int l3)]) (st1' := [.int (8 : Int32), .int l3]) (w1 := (wv x I J)) hC74 2 rfl ?_
  refine wj_ge (tgt := 41) rfl rfl (fun h => ?_) (fun h => ?_)
  · have k := k.1 h
    refine wp_seg (C := gC74) (pc1 := 12) (Lo1 := [some (.ref 28), some (.ref 1000004), some (.int l2), some (.int l3)]) (st1' := [.ref 1000004, .int (l2 + l3)]) (w1 := (wv x I J)) hC74 4 rfl ?_
    refine wq_sln (v := (8 : Int32)) rfl rfl (by decide) (Nat.le_of_ble_eq_true rfl) (by decide +kernel) ?_
    refine wj_ge (tgt := 41) rfl rfl (fun h => ?_) (fun h => ?_)
    · have k := k.1 h
      refine wp_seg (C := gC74) (pc1 := 22) (Lo1 := [some (.ref 28), some (.ref 1000004), some (.int l2), some (.int l3)]) (st1' := [.int (l2 + l3), .ref 1000004]) (w1 := (wv x I J)) hC74 4 rfl ?_
      refine wq_sch (len := 8) rfl rfl (by decide) (Nat.le_of_ble_eq_true rfl) (by decide +kernel) k.1 ?_
      have k := k.2
      refine wp_seg (C := gC74) (pc1 := 27) (Lo1 := [some (.ref 28), some (.ref 1000004), some (.int l2), some (.int l3)]) (st1' := [.int l3, .ref 28, .int ((gSb.getD 3 []).getD (l2 + l3).toNatClampNeg 0)]) (w1 := (wv x I J)) hC74 2 rfl ?_
      refine cv_I (mj := 72) (a := 28) (as := [.int l3]) (r := [.int ((gSb.getD 3 []).getD (l2 + l3).toNatClampNeg 0)]) rfl rfl rfl ⟨rfl, by decide, Nat.le_of_ble_eq_true rfl, Nat.le_of_ble_eq_true rfl⟩ rfl (wcI_mono k (fun r1 I1 J1 k => ?_))
      refine wj_eq (tgt := 35) rfl rfl (fun h => ?_) (fun h => ?_)
      · have k := k.1 h
        refine wp_seg (C := gC74) (pc1 := 2) (Lo1 := [some (.ref 28), some (.ref 1000004), some (.int l2), some (.int (l3 + (1 : Int32)))]) (st1' := []) (w1 := (wv x I1 J1)) hC74 2 rfl ?_
        exact k
      · have k := k.2 h
        refine wp_seg (C := gC74) (pc1 := 34) (Lo1 := [some (.ref 28), some (.ref 1000004), some (.int l2), some (.int l3)]) (st1' := [.int (0 : Int32)]) (w1 := (wv x I1 J1)) hC74 1 rfl ?_
        exact we_z rfl rfl (Or.inl rfl) k
    · have k := k.2 h
      refine wp_seg (C := gC74) (pc1 := 42) (Lo1 := [some (.ref 28), some (.ref 1000004), some (.int l2), some (.int l3)]) (st1' := [.int (1 : Int32)]) (w1 := (wv x I J)) hC74 1 rfl ?_
      exact we_z rfl rfl (Or.inr rfl) k
  · have k := k.2 h
    refine wp_seg (C := gC74) (pc1 := 42) (Lo1 := [some (.ref 28), some (.ref 1000004), some (.int l2), some (.int l3)]) (st1' := [.int (1 : Int32)]) (w1 := (wv x I J)) hC74 1 rfl ?_
    exact we_z rfl rfl (Or.inr rfl) k
set_option maxRecDepth 20000 in
theorem v74_28_1000005_0 {S : Nat × (Nat → Int32)} {d : Nat} {x : mX} {I : rI0} {J : rJ0} {p2 : Int32} {Q : Int32 → rI0 → rJ0 → Prop} (k : wp S (d + 7) 74 2 [some (.ref 28), some (.ref 1000005), some (.int p2), some (.int (0 : Int32))] [] (wv x I J) (rI x Q)) : wp S (d + 7) 74 0 [some (.ref 28), some (.ref 1000005), some (.int p2), none] [] (wv x I J) (rI x Q) := by
  refine wp_seg (C := gC74) (pc1 := 2) (Lo1 := [some (.ref 28), some (.ref 1000005), some (.int p2), some (.int (0 : Int32))]) (st1' := []) (w1 := (wv x I J)) hC74 2 rfl ?_
  exact k
set_option maxRecDepth 20000 in
theorem v74_28_1000005_2 {S : Nat × (Nat → Int32)} {d : Nat} {x : mX} {I : rI0} {J : rJ0} {l2 : Int32} {l3 : Int32} {Q : Int32 → rI0 → rJ0 → Prop} (k : ((l3 < (8 : Int32) → (((l2 + l3) < (32 : Int32) → (¬ mOut (l2 + l3) 32 ∧ (wcI S (d + 6) 72 [.ref 28, .int l3] x I J (fun r1 I1 J1 => ((((gSb.getD 4 []).getD (l2 + l3).toNatClampNeg 0) = r1 → wp S (d + 7) 74 2 [some (.ref 28), some (.ref 1000005), some (.int l2), some (.int (l3 + (1 : Int32)))] [] (wv x I1 J1) (rI x Q)) ∧ (¬ ((gSb.getD 4 []).getD (l2 + l3).toNatClampNeg 0) = r1 → Q (0 : Int32) I1 J1)))))) ∧ (¬ (l2 + l3) < (32 : Int32) → Q (1 : Int32) I J))) ∧ (¬ l3 < (8 : Int32) → Q (1 : Int32) I J))) : wp S (d + 7) 74 2 [some (.ref 28), some (.ref 1000005), some (.int l2), some (.int l3)] [] (wv x I J) (rI x Q) := by
  refine wp_seg (C := gC74) (pc1 := 5) (Lo1 := [some (.ref 28), some (.ref 1000005), some (.int l2), some (.int l3)]) (st1' := [.int (8 : Int32), .int l3]) (w1 := (wv x I J)) hC74 2 rfl ?_
  refine wj_ge (tgt := 41) rfl rfl (fun h => ?_) (fun h => ?_)
  · have k := k.1 h
    refine wp_seg (C := gC74) (pc1 := 12) (Lo1 := [some (.ref 28), some (.ref 1000005), some (.int l2), some (.int l3)]) (st1' := [.ref 1000005, .int (l2 + l3)]) (w1 := (wv x I J)) hC74 4 rfl ?_
    refine wq_sln (v := (32 : Int32)) rfl rfl (by decide) (Nat.le_of_ble_eq_true rfl) (by decide +kernel) ?_
    refine wj_ge (tgt := 41) rfl rfl (fun h => ?_) (fun h => ?_)
    · have k := k.1 h
      refine wp_seg (C := gC74) (pc1 := 22) (Lo1 := [some (.ref 28), some (.ref 1000005), some (.int l2), some (.int l3)]) (st1' := [.int (l2 + l3), .ref 1000005]) (w1 := (wv x I J)) hC74 4 rfl ?_
      refine wq_sch (len := 32) rfl rfl (by decide) (Nat.le_of_ble_eq_true rfl) (by decide +kernel) k.1 ?_
      have k := k.2
      refine wp_seg (C := gC74) (pc1 := 27) (Lo1 := [some (.ref 28), some (.ref 1000005), some (.int l2), some (.int l3)]) (st1' := [.int l3, .ref 28, .int ((gSb.getD 4 []).getD (l2 + l3).toNatClampNeg 0)]) (w1 := (wv x I J)) hC74 2 rfl ?_
      refine cv_I (mj := 72) (a := 28) (as := [.int l3]) (r := [.int ((gSb.getD 4 []).getD (l2 + l3).toNatClampNeg 0)]) rfl rfl rfl ⟨rfl, by decide, Nat.le_of_ble_eq_true rfl, Nat.le_of_ble_eq_true rfl⟩ rfl (wcI_mono k (fun r1 I1 J1 k => ?_))
      refine wj_eq (tgt := 35) rfl rfl (fun h => ?_) (fun h => ?_)
      · have k := k.1 h
        refine wp_seg (C := gC74) (pc1 := 2) (Lo1 := [some (.ref 28), some (.ref 1000005), some (.int l2), some (.int (l3 + (1 : Int32)))]) (st1' := []) (w1 := (wv x I1 J1)) hC74 2 rfl ?_
        exact k
      · have k := k.2 h
        refine wp_seg (C := gC74) (pc1 := 34) (Lo1 := [some (.ref 28), some (.ref 1000005), some (.int l2), some (.int l3)]) (st1' := [.int (0 : Int32)]) (w1 := (wv x I1 J1)) hC74 1 rfl ?_
        exact we_z rfl rfl (Or.inl rfl) k
    · have k := k.2 h
      refine wp_seg (C := gC74) (pc1 := 42) (Lo1 := [some (.ref 28), some (.ref 1000005), some (.int l2), some (.int l3)]) (st1' := [.int (1 : Int32)]) (w1 := (wv x I J)) hC74 1 rfl ?_
      exact we_z rfl rfl (Or.inr rfl) k
  · have k := k.2 h
    refine wp_seg (C := gC74) (pc1 := 42) (Lo1 := [some (.ref 28), some (.ref 1000005), some (.int l2), some (.int l3)]) (st1' := [.int (1 : Int32)]) (w1 := (wv x I J)) hC74 1 rfl ?_
    exact we_z rfl rfl (Or.inr rfl) k
set_option maxRecDepth 20000 in
theorem v61_36_0 {S : Nat × (Nat → Int32)} {d : Nat} {x : mX} {I : rI0} {J : rJ0} {p1 : Int32} {p2 : Int32} {p3 : Int64} {p4 : Int32} {Q : Int64 → rI0 → rJ0 → Prop} (k : (((lg_cmp p3 (0 : Int64)) = (0 : Int32) → Q (0 : Int64) I J) ∧ (¬ (lg_cmp p3 (0 : Int64)) = (0 : Int32) → (((0 : Int32) < p2 → (((8 : Int32) < p4 → Q (0 : Int64) I J) ∧ (¬ (8 : Int32) < p4 → wp S (d + 1) 61 31 [some (.ref 36), some (.int p1), some (.int p2), some (.long p3), none, some (.int p4), some (.long (0 : Int64)), none, some (.long p3), none, some (.int p1), some (.int (0 : Int32))] [] (wv x I J) (rJ x Q)))) ∧ (¬ (0 : Int32) < p2 → Q (0 : Int64) I J))))) : wp S (d + 1) 61 0 [some (.ref 36), some (.int p1), some (.int p2), some (.long p3), none, some (.int p4), none, none, none, none, none, none] [] (wv x I J) (rJ x Q) := by
  refine wp_seg (C := gC61) (pc1 := 3) (Lo1 := [some (.ref 36), some (.int p1), some (.int p2), some (.long p3), none, some (.int p4), none, none, none, none, none, none]) (st1' := [.int (lg_cmp p3 (0 : Int64))]) (w1 := (wv x I J)) hC61 3 rfl ?_
  refine wi_eq (tgt := 17) rfl rfl (fun h => ?_) (fun h => ?_)
  · have k := k.1 h
    refine wp_seg (C := gC61) (pc1 := 18) (Lo1 := [some (.ref 36), some (.int p1), some (.int p2), some (.long p3), none, some (.int p4), none, none, none, none, none, none]) (st1' := [.long (0 : Int64)]) (w1 := (wv x I J)) hC61 1 rfl ?_
    exact we_l rfl rfl k
  · have k := k.2 h
    refine wp_seg (C := gC61) (pc1 := 7) (Lo1 := [some (.ref 36), some (.int p1), some (.int p2), some (.long p3), none, some (.int p4), none, none, none, none, none, none]) (st1' := [.int p2]) (w1 := (wv x I J)) hC61 1 rfl ?_
    refine wi_le (tgt := 17) rfl rfl (fun h => ?_) (fun h => ?_)
    · have k := k.1 h
      refine wp_seg (C := gC61) (pc1 := 14) (Lo1 := [some (.ref 36), some (.int p1), some (.int p2), some (.long p3), none, some (.int p4), none, none, none, none, none, none]) (st1' := [.int (8 : Int32), .int p4]) (w1 := (wv x I J)) hC61 2 rfl ?_
      refine wj_le (tgt := 19) rfl rfl (fun h => ?_) (fun h => ?_)
      · have k := k.1 h
        refine wp_seg (C := gC61) (pc1 := 18) (Lo1 := [some (.ref 36), some (.int p1), some (.int p2), some (.long p3), none, some (.int p4), none, none, none, none, none, none]) (st1' := [.long (0 : Int64)]) (w1 := (wv x I J)) hC61 1 rfl ?_
        exact we_l rfl rfl k
      · have k := k.2 h
        refine wp_seg (C := gC61) (pc1 := 25) (Lo1 := [some (.ref 36), some (.int p1), some (.int p2), some (.long p3), none, some (.int p4), some (.long (0 : Int64)), none, some (.long p3), none, none, none]) (st1' := []) (w1 := (wv x I J)) hC61 4 rfl ?_
        refine wp_seg (C := gC61) (pc1 := 31) (Lo1 := [some (.ref 36), some (.int p1), some (.int p2), some (.long p3), none, some (.int p4), some (.long (0 : Int64)), none, some (.long p3), none, some (.int p1), some (.int (0 : Int32))]) (st1' := []) (w1 := (wv x I J)) hC61 4 rfl ?_
        exact k
    · have k := k.2 h
      refine wp_seg (C := gC61) (pc1 := 18) (Lo1 := [some (.ref 36), some (.int p1), some (.int p2), some (.long p3), none, some (.int p4), none, none, none, none, none, none]) (st1' := [.long (0 : Int64)]) (w1 := (wv x I J)) hC61 1 rfl ?_
      exact we_l rfl rfl k
set_option maxRecDepth 20000 in
theorem v61_36_31 {S : Nat × (Nat → Int32)} {d : Nat} {x : mX} {I : rI0} {J : rJ0} {l1 : Int32} {l2 : Int32} {l3 : Int64} {l5 : Int32} {l6 : Int64} {l8 : Int64} {l10 : Int32} {l11 : Int32} {Q : Int64 → rI0 → rJ0 → Prop} (k : ((l11 < (20 : Int32) → ((l10 < (l1 + l2) → ((l10 < (240 : Int32) → (¬ mOut l10 240 ∧ ((((((I 10 l10.toNatClampNeg).toUInt32 >>> ((18 : Int32).toUInt32 &&& Int32.toUInt32 31)).toInt32) &&& (1 : Int32)) = (0 : Int32) → wp S (d + 1) 61 94 [some (.ref 36), some (.int l1), some (.int l2), some (.long l3), none, some (.int l5), some (.long l6), none, some (.long l8), none, some (.int l10), some (.int l11)] [] (wv x I J) (rJ x Q)) ∧ (¬ ((((I 10 l10.toNatClampNeg).toUInt32 >>> ((18 : Int32).toUInt32 &&& Int32.toUInt32 31)).toInt32) &&& (1 : Int32)) = (0 : Int32) → wp S (d + 1) 61 94 [some (.ref 36), some (.int l1), some (.int l2), some (.long l3), none, some (.int l5), some (.long (l6 ||| l8)), none, some (.long (l3 &&& ((l6 ||| l8) ^^^ (-1 : Int64)))), none, some (.int l10), some (.int l11)] [] (wv x I J) (rJ x Q))))) ∧ (¬ l10 < (240 : Int32) → Q (l6 ||| l8) I J))) ∧ (¬ l10 < (l1 + l2) → Q (l6 ||| l8) I J))) ∧ (¬ l11 < (20 : Int32) → Q (l6 ||| l8) I J))) : wp S (d + 1) 61 31 [some (.ref 36), some (.int l1), some (.int l2), some (.long l3), none, some (.int l5), some (.long l6), none, some (.long l8), none, some (.int l10), some (.int l11)] [] (wv x I J) (rJ x Q) := by
  refine wp_seg (C := gC61) (pc1 := 35) (Lo1 := [some (.ref 36), some (.int l1), some (.int l2), some (.long l3), none, some (.int l5), some (.long l6), none, some (.long l8), none, some (.int l10), some (.int l11)]) (st1' := [.int (20 : Int32), .int l11]) (w1 := (wv x I J)) hC61 2 rfl ?_
  refine wj_ge (tgt := 130) rfl rfl (fun h => ?_) (fun h => ?_)
  · have k := k.1 h
    refine wp_seg (C := gC61) (pc1 := 43) (Lo1 := [some (.ref 36), some (.int l1), some (.int l2), some (.long l3), none, some (.int l5), some (.long l6), none, some (.long l8), none, some (.int l10), some (.int l11)]) (st1' := [.int (l1 + l2), .int l10]) (w1 := (wv x I J)) hC61 4 rfl ?_
    refine wj_ge (tgt := 130) rfl rfl (fun h => ?_) (fun h => ?_)
    · have k := k.1 h
      refine wp_seg (C := gC61) (pc1 := 56) (Lo1 := [some (.ref 36), some (.int l1), some (.int l2), some (.long l3), none, some (.int l5), some (.long l6), none, some (.long l8), none, some (.int l10), some (.int l11)]) (st1' := [.int (240 : Int32), .int l10]) (w1 := (wv x I J)) hC61 5 rfl ?_
      refine wj_ge (tgt := 130) rfl rfl (fun h => ?_) (fun h => ?_)
      · have k := k.1 h
        refine wp_seg (C := gC61) (pc1 := 68) (Lo1 := [some (.ref 36), some (.int l1), some (.int l2), some (.long l3), none, some (.int l5), some (.long l6), none, some (.long l8), none, some (.int l10), some (.int l11)]) (st1' := [.int l10, .ref 10]) (w1 := (wv x I J)) hC61 4 rfl ?_
        refine wa_i (n := 240) rfl (by decide) rfl k.1 ?_
        have k := k.2
        refine wp_seg (C := gC61) (pc1 := 74) (Lo1 := [some (.ref 36), some (.int l1), some (.int l2), some (.long l3), none, some (.int l5), some (.long l6), none, some (.long l8), none, some (.int l10), some (.int l11)]) (st1' := [.int ((((I 10 l10.toNatClampNeg).toUInt32 >>> ((18 : Int32).toUInt32 &&& Int32.toUInt32 31)).toInt32) &&& (1 : Int32))]) (w1 := (wv x I J)) hC61 4 rfl ?_
        refine wi_eq (tgt := 94) rfl rfl (fun h => ?_) (fun h => ?_)
        · have k := k.1 h
          exact k
        · have k := k.2 h
          refine wp_seg (C := gC61) (pc1 := 94) (Lo1 := [some (.ref 36), some (.int l1), some (.int l2), some (.long l3), none, some (.int l5), some (.long (l6 ||| l8)), none, some (.long (l3 &&& ((l6 ||| l8) ^^^ (-1 : Int64)))), none, some (.int l10), some (.int l11)]) (st1' := []) (w1 := (wv x I J)) hC61 10 rfl ?_
          exact k
      · have k := k.2 h
        refine wp_seg (C := gC61) (pc1 := 135) (Lo1 := [some (.ref 36), some (.int l1), some (.int l2), some (.long l3), none, some (.int l5), some (.long l6), none, some (.long l8), none, some (.int l10), some (.int l11)]) (st1' := [.long (l6 ||| l8)]) (w1 := (wv x I J)) hC61 3 rfl ?_
        exact we_l rfl rfl k
    · have k := k.2 h
      refine wp_seg (C := gC61) (pc1 := 135) (Lo1 := [some (.ref 36), some (.int l1), some (.int l2), some (.long l3), none, some (.int l5), some (.long l6), none, some (.long l8), none, some (.int l10), some (.int l11)]) (st1' := [.long (l6 ||| l8)]) (w1 := (wv x I J)) hC61 3 rfl ?_
      exact we_l rfl rfl k
  · have k := k.2 h
    refine wp_seg (C := gC61) (pc1 := 135) (Lo1 := [some (.ref 36), some (.int l1), some (.int l2), some (.long l3), none, some (.int l5), some (.long l6), none, some (.long l8), none, some (.int l10), some (.int l11)]) (st1' := [.long (l6 ||| l8)]) (w1 := (wv x I J)) hC61 3 rfl ?_
    exact we_l rfl rfl k
set_option maxRecDepth 20000 in
theorem v61_36_94 {S : Nat × (Nat → Int32)} {d : Nat} {x : mX} {I : rI0} {J : rJ0} {l1 : Int32} {l2 : Int32} {l3 : Int64} {l5 : Int32} {l6 : Int64} {l8 : Int64} {l10 : Int32} {l11 : Int32} {Q : Int64 → rI0 → rJ0 → Prop} (k : (wcJ S d 62 [.ref 36, .int l10, .long l8, .int l5] x I J (fun r1 I1 J1 => (¬ mOut l10 240 ∧ wp S (d + 1) 61 31 [some (.ref 36), some (.int l1), some (.int l2), some (.long l3), none, some (.int l5), some (.long l6), none, some (.long r1), none, some (.int (l10 + (((I1 10 l10.toNatClampNeg).toUInt32 >>> ((19 : Int32).toUInt32 &&& Int32.toUInt32 31)).toInt32))), some (.int (l11 + (1 : Int32)))] [] (wv x I1 J1) (rJ x Q))))) : wp S (d + 1) 61 94 [some (.ref 36), some (.int l1), some (.int l2), some (.long l3), none, some (.int l5), some (.long l6), none, some (.long l8), none, some (.int l10), some (.int l11)] [] (wv x I J) (rJ x Q) := by
  refine wp_seg (C := gC61) (pc1 := 101) (Lo1 := [some (.ref 36), some (.int l1), some (.int l2), some (.long l3), none, some (.int l5), some (.long l6), none, some (.long l8), none, some (.int l10), some (.int l11)]) (st1' := [.int l5, .long l8, .int l10, .ref 36]) (w1 := (wv x I J)) hC61 4 rfl ?_
  refine cv_J (mj := 62) (a := 36) (as := [.int l10, .long l8, .int l5]) (r := []) rfl rfl rfl ⟨rfl, by decide, Nat.le_of_ble_eq_true rfl, Nat.le_of_ble_eq_true rfl⟩ rfl (wcJ_mono k (fun r1 I1 J1 k => ?_))
  refine wp_seg (C := gC61) (pc1 := 117) (Lo1 := [some (.ref 36), some (.int l1), some (.int l2), some (.long l3), none, some (.int l5), some (.long l6), none, some (.long r1), none, some (.int l10), some (.int l11)]) (st1' := [.int l10, .ref 10, .int l10]) (w1 := (wv x I1 J1)) hC61 6 rfl ?_
  refine wa_i (n := 240) rfl (by decide) rfl k.1 ?_
  have k := k.2
  refine wp_seg (C := gC61) (pc1 := 127) (Lo1 := [some (.ref 36), some (.int l1), some (.int l2), some (.long l3), none, some (.int l5), some (.long l6), none, some (.long r1), none, some (.int (l10 + (((I1 10 l10.toNatClampNeg).toUInt32 >>> ((19 : Int32).toUInt32 &&& Int32.toUInt32 31)).toInt32))), some (.int (l11 + (1 : Int32)))]) (st1' := []) (w1 := (wv x I1 J1)) hC61 5 rfl ?_
  refine wp_seg (C := gC61) (pc1 := 31) (Lo1 := [some (.ref 36), some (.int l1), some (.int l2), some (.long l3), none, some (.int l5), some (.long l6), none, some (.long r1), none, some (.int (l10 + (((I1 10 l10.toNatClampNeg).toUInt32 >>> ((19 : Int32).toUInt32 &&& Int32.toUInt32 31)).toInt32))), some (.int (l11 + (1 : Int32)))]) (st1' := []) (w1 := (wv x I1 J1)) hC61 1 rfl ?_
  exact k
set_option maxRecDepth 20000 in
theorem v63_41_0 {S : Nat × (Nat → Int32)} {d : Nat} {x : mX} {I : rI0} {J : rJ0} {p1 : Int32} {p2 : Int32} {Q : Int64 → rI0 → rJ0 → Prop} (k : (((0 : Int32) < p1 → wp S d 63 20 [some (.ref 41), some (.int p1), some (.int p2), none, none] [.long (0 : Int64)] (wv x I J) (rJ x Q)) ∧ (¬ (0 : Int32) < p1 → ((p2 < (0 : Int32) → wp S d 63 20 [some (.ref 41), some (.int p1), some (.int p2), none, none] [.long (0 : Int64)] (wv x I J) (rJ x Q)) ∧ (¬ p2 < (0 : Int32) → wp S d 63 20 [some (.ref 41), some (.int p1), some (.int p2), none, none] [.long ((J 41 8) ^^^ (-1 : Int64))] (wv x I J) (rJ x Q)))))) : wp S d 63 0 [some (.ref 41), some (.int p1), some (.int p2), none, none] [] (wv x I J) (rJ x Q) := by
  refine wp_seg (C := gC63) (pc1 := 1) (Lo1 := [some (.ref 41), some (.int p1), some (.int p2), none, none]) (st1' := [.int p1]) (w1 := (wv x I J)) hC63 1 rfl ?_
  refine wi_gt (tgt := 19) rfl rfl (fun h => ?_) (fun h => ?_)
  · have k := k.1 h
    refine wp_seg (C := gC63) (pc1 := 20) (Lo1 := [some (.ref 41), some (.int p1), some (.int p2), none, none]) (st1' := [.long (0 : Int64)]) (w1 := (wv x I J)) hC63 1 rfl ?_
    exact k
  · have k := k.2 h
    refine wp_seg (C := gC63) (pc1 := 5) (Lo1 := [some (.ref 41), some (.int p1), some (.int p2), none, none]) (st1' := [.int p2]) (w1 := (wv x I J)) hC63 1 rfl ?_
    refine wi_lt (tgt := 19) rfl rfl (fun h => ?_) (fun h => ?_)
    · have k := k.1 h
      refine wp_seg (C := gC63) (pc1 := 20) (Lo1 := [some (.ref 41), some (.int p1), some (.int p2), none, none]) (st1' := [.long (0 : Int64)]) (w1 := (wv x I J)) hC63 1 rfl ?_
      exact k
    · have k := k.2 h
      refine wp_seg (C := gC63) (pc1 := 20) (Lo1 := [some (.ref 41), some (.int p1), some (.int p2), none, none]) (st1' := [.long ((J 41 8) ^^^ (-1 : Int64))]) (w1 := (wv x I J)) hC63 5 rfl ?_
      exact k
set_option maxRecDepth 20000 in
theorem v63_41_20 {S : Nat × (Nat → Int32)} {d : Nat} {x : mX} {I : rI0} {J : rJ0} {l1 : Int32} {l2 : Int32} {s0 : Int64} {Q : Int64 → rI0 → rJ0 → Prop} (k : (((1 : Int32) < l1 → wp S d 63 49 [some (.ref 41), some (.int l1), some (.int l2), some (.long s0), none] [.long (0 : Int64), .long s0] (wv x I J) (rJ x Q)) ∧ (¬ (1 : Int32) < l1 → ((l2 < (1 : Int32) → wp S d 63 49 [some (.ref 41), some (.int l1), some (.int l2), some (.long s0), none] [.long (0 : Int64), .long s0] (wv x I J) (rJ x Q)) ∧ (¬ l2 < (1 : Int32) → wp S d 63 49 [some (.ref 41), some (.int l1), some (.int l2), some (.long s0), none] [.long ((J 41 8) &&& ((J 41 9) ^^^ (-1 : Int64))), .long s0] (wv x I J) (rJ x Q)))))) : wp S d 63 20 [some (.ref 41), some (.int l1), some (.int l2), none, none] [.long s0] (wv x I J) (rJ x Q) := by
  refine wp_seg (C := gC63) (pc1 := 24) (Lo1 := [some (.ref 41), some (.int l1), some (.int l2), some (.long s0), none]) (st1' := [.int (1 : Int32), .int l1, .long s0]) (w1 := (wv x I J)) hC63 4 rfl ?_
  refine wj_gt (tgt := 48) rfl rfl (fun h => ?_) (fun h => ?_)
  · have k := k.1 h
    refine wp_seg (C := gC63) (pc1 := 49) (Lo1 := [some (.ref 41), some (.int l1), some (.int l2), some (.long s0), none]) (st1' := [.long (0 : Int64), .long s0]) (w1 := (wv x I J)) hC63 1 rfl ?_
    exact k
  · have k := k.2 h
    refine wp_seg (C := gC63) (pc1 := 29) (Lo1 := [some (.ref 41), some (.int l1), some (.int l2), some (.long s0), none]) (st1' := [.int (1 : Int32), .int l2, .long s0]) (w1 := (wv x I J)) hC63 2 rfl ?_
    refine wj_lt (tgt := 48) rfl rfl (fun h => ?_) (fun h => ?_)
    · have k := k.1 h
      refine wp_seg (C := gC63) (pc1 := 49) (Lo1 := [some (.ref 41), some (.int l1), some (.int l2), some (.long s0), none]) (st1' := [.long (0 : Int64), .long s0]) (w1 := (wv x I J)) hC63 1 rfl ?_
      exact k
    · have k := k.2 h
      refine wp_seg (C := gC63) (pc1 := 49) (Lo1 := [some (.ref 41), some (.int l1), some (.int l2), some (.long s0), none]) (st1' := [.long ((J 41 8) &&& ((J 41 9) ^^^ (-1 : Int64))), .long s0]) (w1 := (wv x I J)) hC63 8 rfl ?_
      exact k
set_option maxRecDepth 20000 in
theorem v63_41_49 {S : Nat × (Nat → Int32)} {d : Nat} {x : mX} {I : rI0} {J : rJ0} {l1 : Int32} {l2 : Int32} {l3 : Int64} {s0 : Int64} {s1 : Int64} {Q : Int64 → rI0 → rJ0 → Prop} (k : (((2 : Int32) < l1 → Q ((s0 ||| s1) ||| (0 : Int64)) I J) ∧ (¬ (2 : Int32) < l1 → ((l2 < (2 : Int32) → Q ((s0 ||| s1) ||| (0 : Int64)) I J) ∧ (¬ l2 < (2 : Int32) → Q ((s0 ||| s1) ||| (J 41 9)) I J))))) : wp S d 63 49 [some (.ref 41), some (.int l1), some (.int l2), some (.long l3), none] [.long s1, .long s0] (wv x I J) (rJ x Q) := by
  refine wp_seg (C := gC63) (pc1 := 54) (Lo1 := [some (.ref 41), some (.int l1), some (.int l2), some (.long (s0 ||| s1)), none]) (st1' := [.int (2 : Int32), .int l1, .long (s0 ||| s1)]) (w1 := (wv x I J)) hC63 5 rfl ?_
  refine wj_gt (tgt := 69) rfl rfl (fun h => ?_) (fun h => ?_)
  · have k := k.1 h
    refine wp_seg (C := gC63) (pc1 := 73) (Lo1 := [some (.ref 41), some (.int l1), some (.int l2), some (.long ((s0 ||| s1) ||| (0 : Int64))), none]) (st1' := [.long ((s0 ||| s1) ||| (0 : Int64))]) (w1 := (wv x I J)) hC63 4 rfl ?_
    exact we_l rfl rfl k
  · have k := k.2 h
    refine wp_seg (C := gC63) (pc1 := 59) (Lo1 := [some (.ref 41), some (.int l1), some (.int l2), some (.long (s0 ||| s1)), none]) (st1' := [.int (2 : Int32), .int l2, .long (s0 ||| s1)]) (w1 := (wv x I J)) hC63 2 rfl ?_
    refine wj_lt (tgt := 69) rfl rfl (fun h => ?_) (fun h => ?_)
    · have k := k.1 h
      refine wp_seg (C := gC63) (pc1 := 73) (Lo1 := [some (.ref 41), some (.int l1), some (.int l2), some (.long ((s0 ||| s1) ||| (0 : Int64))), none]) (st1' := [.long ((s0 ||| s1) ||| (0 : Int64))]) (w1 := (wv x I J)) hC63 4 rfl ?_
      exact we_l rfl rfl k
    · have k := k.2 h
      refine wp_seg (C := gC63) (pc1 := 73) (Lo1 := [some (.ref 41), some (.int l1), some (.int l2), some (.long ((s0 ||| s1) ||| (J 41 9))), none]) (st1' := [.long ((s0 ||| s1) ||| (J 41 9))]) (w1 := (wv x I J)) hC63 6 rfl ?_
      exact we_l rfl rfl k
