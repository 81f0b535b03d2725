set_option maxRecDepth 20000 in
theorem v27_4_0 {S : Nat × (Nat → Int32)} {d : Nat} {x : mX} {I : rI0} {J : rJ0} {p1 : Int32} {Q : Int32 → rI0 → rJ0 → Prop} (k : (wcI S d 25 [.ref 4, .int p1] x I J (fun r1 I1 J1 => (¬ mOut r1 8 ∧ Q (I1 8 r1.toNatClampNeg) I1 J1)))) : wp S (d + 1) 27 0 [some (.ref 4), some (.int p1)] [] (wv x I J) (rI x Q) := by
  refine wp_seg (C := gC27) (pc1 := 6) (Lo1 := [some (.ref 4), some (.int p1)]) (st1' := [.int p1, .ref 4, .ref 8]) (w1 := (wv x I J)) rfl 4 rfl ?_
  refine cv_I (mj := 25) (a := 4) (as := [.int p1]) (r := [.ref 8]) rfl rfl rfl ⟨rfl, by decide, Nat.le_of_ble_eq_true rfl, Nat.le_of_ble_eq_true rfl⟩ rfl (wcI_mono k (fun r1 I1 J1 k => ?_))
  refine wa_i (n := 8) rfl (by decide) rfl k.1 ?_
  have k := k.2
  exact we_i rfl rfl k
set_option maxRecDepth 20000 in
theorem v91_37_0 {S : Nat × (Nat → Int32)} {d : Nat} {x : mX} {I : rI0} {J : rJ0} {p1 : Int32} {p2 : Int32} {Q : Int32 → rI0 → rJ0 → Prop} (k : wp S d 91 8 [some (.ref 37), some (.int p1), some (.int p2), some (.int p1), some (.int p2), some (.int (0 : Int32)), none] [] (wv x I J) (rI x Q)) : wp S d 91 0 [some (.ref 37), some (.int p1), some (.int p2), none, none, none, none] [] (wv x I J) (rI x Q) := by
  refine wp_seg (C := gC91) (pc1 := 5) (Lo1 := [some (.ref 37), some (.int p1), some (.int p2), some (.int p1), some (.int p2), none, none]) (st1' := []) (w1 := (wv x I J)) rfl 4 rfl ?_
  refine wp_seg (C := gC91) (pc1 := 8) (Lo1 := [some (.ref 37), some (.int p1), some (.int p2), some (.int p1), some (.int p2), some (.int (0 : Int32)), none]) (st1' := []) (w1 := (wv x I J)) rfl 2 rfl ?_
  exact k
set_option maxRecDepth 20000 in
theorem v91_37_8 {S : Nat × (Nat → Int32)} {d : Nat} {x : mX} {I : rI0} {J : rJ0} {l1 : Int32} {l2 : Int32} {l3 : Int32} {l4 : Int32} {l5 : Int32} {Q : Int32 → rI0 → rJ0 → Prop} (k : ((l5 < (64 : Int32) → (((0 : Int32) < l4 → (¬ l4 = 0 ∧ wp S d 91 8 [some (.ref 37), some (.int l1), some (.int l2), some (.int l4), some (.int (l3 - l3 / l4 * l4)), some (.int (l5 + (1 : Int32))), none] [] (wv x I J) (rI x Q))) ∧ (¬ (0 : Int32) < l4 → Q l3 I J))) ∧ (¬ l5 < (64 : Int32) → Q l3 I J))) : wp S d 91 8 [some (.ref 37), some (.int l1), some (.int l2), some (.int l3), some (.int l4), some (.int l5), none] [] (wv x I J) (rI x Q) := by
  refine wp_seg (C := gC91) (pc1 := 12) (Lo1 := [some (.ref 37), some (.int l1), some (.int l2), some (.int l3), some (.int l4), some (.int l5), none]) (st1' := [.int (64 : Int32), .int l5]) (w1 := (wv x I J)) rfl 2 rfl ?_
  refine wj_ge (tgt := 39) rfl rfl (fun h => ?_) (fun h => ?_)
  · have k := k.1 h
    refine wp_seg (C := gC91) (pc1 := 17) (Lo1 := [some (.ref 37), some (.int l1), some (.int l2), some (.int l3), some (.int l4), some (.int l5), none]) (st1' := [.int l4]) (w1 := (wv x I J)) rfl 1 rfl ?_
    refine wi_le (tgt := 39) rfl rfl (fun h => ?_) (fun h => ?_)
    · have k := k.1 h
      refine wp_seg (C := gC91) (pc1 := 23) (Lo1 := [some (.ref 37), some (.int l1), some (.int l2), some (.int l3), some (.int l4), some (.int l5), none]) (st1' := [.int l4, .int l3]) (w1 := (wv x I J)) rfl 2 rfl ?_
      refine wd_r rfl k.1 ?_
      have k := k.2
      refine wp_seg (C := gC91) (pc1 := 29) (Lo1 := [some (.ref 37), some (.int l1), some (.int l2), some (.int l4), some (.int l4), some (.int l5), some (.int (l3 - l3 / l4 * l4))]) (st1' := []) (w1 := (wv x I J)) rfl 3 rfl ?_
      refine wp_seg (C := gC91) (pc1 := 36) (Lo1 := [some (.ref 37), some (.int l1), some (.int l2), some (.int l4), some (.int (l3 - l3 / l4 * l4)), some (.int (l5 + (1 : Int32))), some (.int (l3 - l3 / l4 * l4))]) (st1' := []) (w1 := (wv x I J)) rfl 3 rfl ?_
      refine wp_seg (C := gC91) (pc1 := 8) (Lo1 := [some (.ref 37), some (.int l1), some (.int l2), some (.int l4), some (.int (l3 - l3 / l4 * l4)), some (.int (l5 + (1 : Int32))), some (.int (l3 - l3 / l4 * l4))]) (st1' := []) (w1 := (wv x I J)) rfl 1 rfl ?_
      exact wp_sub (Lo := [some (.ref 37), some (.int l1), some (.int l2), some (.int l4), some (.int (l3 - l3 / l4 * l4)), some (.int (l5 + (1 : Int32))), none]) (And.intro rfl (And.intro rfl (And.intro rfl (And.intro rfl (And.intro rfl (And.intro rfl (trivial))))))) k
    · have k := k.2 h
      refine wp_seg (C := gC91) (pc1 := 40) (Lo1 := [some (.ref 37), some (.int l1), some (.int l2), some (.int l3), some (.int l4), some (.int l5), none]) (st1' := [.int l3]) (w1 := (wv x I J)) rfl 1 rfl ?_
      exact we_i rfl rfl k
  · have k := k.2 h
    refine wp_seg (C := gC91) (pc1 := 40) (Lo1 := [some (.ref 37), some (.int l1), some (.int l2), some (.int l3), some (.int l4), some (.int l5), none]) (st1' := [.int l3]) (w1 := (wv x I J)) rfl 1 rfl ?_
    exact we_i rfl rfl k
theorem c27_4 {S : Nat × (Nat → Int32)} {d : Nat} {x : mX} {I : rI0} {J : rJ0} {p1 : Int32} {Q : Int32 → rI0 → rJ0 → Prop} (k : (wcI S d 25 [.ref 4, .int p1] x I J (fun r1 I1 J1 => (¬ mOut r1 8 ∧ Q (I1 8 r1.toNatClampNeg) I1 J1)))) : wcI S (d + 1) 27 [.ref 4, .int p1] x I J Q := v27_4_0 k
theorem c91_37 {S : Nat × (Nat → Int32)} {d : Nat} {x : mX} {I : rI0} {J : rJ0} {p1 : Int32} {p2 : Int32} {Q : Int32 → rI0 → rJ0 → Prop} (k : wp S d 91 8 [some (.ref 37), some (.int p1), some (.int p2), some (.int p1), some (.int p2), some (.int (0 : Int32)), none] [] (wv x I J) (rI x Q)) : wcI S d 91 [.ref 37, .int p1, .int p2] x I J Q := v91_37_0 k
set_option maxRecDepth 20000 in
theorem v103_0_0 {S : Nat × (Nat → Int32)} {d : Nat} {x : mX} {I : rI0} {J : rJ0} {p1 : Int32} {p2 : Int32} {T : mX → rI0 → rJ0 → Prop} {Q : Int32 → rI0 → rJ0 → Prop} (k : (wcI S d 24 [.ref 4, .int p1] x I J (fun r1 I1 J1 => ((r1 = (0 : Int32) → (68 + x.1.length < 1000000 ∧ T (xA x (0, 11) 6) (va_up I1 (68 + x.1.length) (fun _ => 0)) (va_up J1 (68 + x.1.length) (fun _ => 0)))) ∧ (¬ r1 = (0 : Int32) → ((p2 < (0 : Int32) → (68 + x.1.length < 1000000 ∧ T (xA x (0, 11) 6) (va_up I1 (68 + x.1.length) (fun _ => 0)) (va_up J1 (68 + x.1.length) (fun _ => 0)))) ∧ (¬ p2 < (0 : Int32) → (((4 : Int32) < p2 → (68 + x.1.length < 1000000 ∧ T (xA x (0, 11) 6) (va_up I1 (68 + x.1.length) (fun _ => 0)) (va_up J1 (68 + x.1.length) (fun _ => 0)))) ∧ (¬ (4 : Int32) < p2 → ((p2.toInt < 0 ∨ 3 < p2.toInt → (wcI S d 142 [.long (J1 3 6), .int p1] x I1 J1 (fun r2 I2 J2 => Q r2 I2 J2))) ∧ (p2.toInt = 0 → (¬ mOut p1 64 ∧ Q (I1 5 p1.toNatClampNeg) I1 J1)) ∧ (p2.toInt = 1 → (wcI S d 26 [.ref 4, .int p1] x I1 J1 (fun r3 I3 J3 => Q r3 I3 J3))) ∧ (p2.toInt = 2 → (wcI S d 27 [.ref 4, .int p1] x I1 J1 (fun r4 I4 J4 => Q r4 I4 J4))) ∧ (p2.toInt = 3 → (wcI S d 142 [.long (J1 3 5), .int p1] x I1 J1 (fun r5 I5 J5 => Q r5 I5 J5))) ∧ True)))))))))) : wp S (d + 1) 103 0 [some (.ref 0), some (.int p1), some (.int p2)] [] (wv x I J) (rT x T Q) := by
  refine wp_seg (C := gC103) (pc1 := 8) (Lo1 := [some (.ref 0), some (.int p1), some (.int p2)]) (st1' := [.int p1, .ref 4]) (w1 := (wv x I J)) rfl 4 rfl ?_
  refine cv_I (mj := 24) (a := 4) (as := [.int p1]) (r := []) rfl rfl rfl ⟨rfl, by decide, Nat.le_of_ble_eq_true rfl, Nat.le_of_ble_eq_true rfl⟩ rfl (wcI_mono k (fun r1 I1 J1 k => ?_))
  refine wi_eq (tgt := 23) rfl rfl (fun h => ?_) (fun h => ?_)
  · have k := k.1 h
    exact we_t rfl rfl (Nat.le_of_ble_eq_true rfl) k
  · have k := k.2 h
    refine wp_seg (C := gC103) (pc1 := 15) (Lo1 := [some (.ref 0), some (.int p1), some (.int p2)]) (st1' := [.int p2]) (w1 := (wv x I1 J1)) rfl 1 rfl ?_
    refine wi_lt (tgt := 23) rfl rfl (fun h => ?_) (fun h => ?_)
    · have k := k.1 h
      exact we_t rfl rfl (Nat.le_of_ble_eq_true rfl) k
    · have k := k.2 h
      refine wp_seg (C := gC103) (pc1 := 20) (Lo1 := [some (.ref 0), some (.int p1), some (.int p2)]) (st1' := [.int (4 : Int32), .int p2]) (w1 := (wv x I1 J1)) rfl 2 rfl ?_
      refine wj_le (tgt := 31) rfl rfl (fun h => ?_) (fun h => ?_)
      · have k := k.1 h
        exact we_t rfl rfl (Nat.le_of_ble_eq_true rfl) k
      · have k := k.2 h
        refine wp_seg (C := gC103) (pc1 := 32) (Lo1 := [some (.ref 0), some (.int p1), some (.int p2)]) (st1' := [.int p2]) (w1 := (wv x I1 J1)) rfl 1 rfl ?_
        refine wt_tab (nn := 4) rfl ⟨rfl, rfl⟩ (fun h => ?_) (fun i hi hx => ?_)
        · have k := k.1 h
          show wp S (d + 1) 103 113 [some (.ref 0), some (.int p1), some (.int p2)] [] (wv x I1 J1) (rT x T Q)
          refine wp_seg (C := gC103) (pc1 := 121) (Lo1 := [some (.ref 0), some (.int p1), some (.int p2)]) (st1' := [.int p1, .long (J1 3 6)]) (w1 := (wv x I1 J1)) rfl 4 rfl ?_
          refine cs_I (mj := 142) (nn := 0) (as := [.long (J1 3 6), .int p1]) (r := []) rfl rfl rfl ⟨rfl, by decide, Nat.le_of_ble_eq_true rfl, Nat.le_of_ble_eq_true rfl⟩ (by decide) (wcI_mono k (fun r2 I2 J2 k => ?_))
          exact we_iT rfl rfl k
        · have k := k.2
          rcases (by omega : i = 0 ∨ i = 1 ∨ i = 2 ∨ i = 3) with rfl | rfl | rfl | rfl
          · have k := k.1 (by omega)
            show wp S (d + 1) 103 64 [some (.ref 0), some (.int p1), some (.int p2)] [] (wv x I1 J1) (rT x T Q)
            refine wp_seg (C := gC103) (pc1 := 75) (Lo1 := [some (.ref 0), some (.int p1), some (.int p2)]) (st1' := [.int p1, .ref 5]) (w1 := (wv x I1 J1)) rfl 5 rfl ?_
            refine wa_i (n := 64) rfl (by decide) rfl k.1 ?_
            have k := k.2
            exact we_iT rfl rfl k
          · have k := k.2.1 (by omega)
            show wp S (d + 1) 103 77 [some (.ref 0), some (.int p1), some (.int p2)] [] (wv x I1 J1) (rT x T Q)
            refine wp_seg (C := gC103) (pc1 := 85) (Lo1 := [some (.ref 0), some (.int p1), some (.int p2)]) (st1' := [.int p1, .ref 4]) (w1 := (wv x I1 J1)) rfl 4 rfl ?_
            refine cv_I (mj := 26) (a := 4) (as := [.int p1]) (r := []) rfl rfl rfl ⟨rfl, by decide, Nat.le_of_ble_eq_true rfl, Nat.le_of_ble_eq_true rfl⟩ rfl (wcI_mono k (fun r3 I3 J3 k => ?_))
            exact we_iT rfl rfl k
          · have k := k.2.2.1 (by omega)
            show wp S (d + 1) 103 89 [some (.ref 0), some (.int p1), some (.int p2)] [] (wv x I1 J1) (rT x T Q)
            refine wp_seg (C := gC103) (pc1 := 97) (Lo1 := [some (.ref 0), some (.int p1), some (.int p2)]) (st1' := [.int p1, .ref 4]) (w1 := (wv x I1 J1)) rfl 4 rfl ?_
            refine cv_I (mj := 27) (a := 4) (as := [.int p1]) (r := []) rfl rfl rfl ⟨rfl, by decide, Nat.le_of_ble_eq_true rfl, Nat.le_of_ble_eq_true rfl⟩ rfl (wcI_mono k (fun r4 I4 J4 k => ?_))
            exact we_iT rfl rfl k
          · have k := k.2.2.2.1 (by omega)
            show wp S (d + 1) 103 101 [some (.ref 0), some (.int p1), some (.int p2)] [] (wv x I1 J1) (rT x T Q)
            refine wp_seg (C := gC103) (pc1 := 109) (Lo1 := [some (.ref 0), some (.int p1), some (.int p2)]) (st1' := [.int p1, .long (J1 3 5)]) (w1 := (wv x I1 J1)) rfl 4 rfl ?_
            refine cs_I (mj := 142) (nn := 0) (as := [.long (J1 3 5), .int p1]) (r := []) rfl rfl rfl ⟨rfl, by decide, Nat.le_of_ble_eq_true rfl, Nat.le_of_ble_eq_true rfl⟩ (by decide) (wcI_mono k (fun r5 I5 J5 k => ?_))
            exact we_iT rfl rfl k
theorem c103_0 {S : Nat × (Nat → Int32)} {d : Nat} {x : mX} {I : rI0} {J : rJ0} {p1 p2 : Int32} {T : mX → rI0 → rJ0 → Prop} {Q : Int32 → rI0 → rJ0 → Prop} (k : (wcI S d 24 [.ref 4, .int p1] x I J (fun r1 I1 J1 => ((r1 = (0 : Int32) → (68 + x.1.length < 1000000 ∧ T (xA x (0, 11) 6) (va_up I1 (68 + x.1.length) (fun _ => 0)) (va_up J1 (68 + x.1.length) (fun _ => 0)))) ∧ (¬ r1 = (0 : Int32) → ((p2 < (0 : Int32) → (68 + x.1.length < 1000000 ∧ T (xA x (0, 11) 6) (va_up I1 (68 + x.1.length) (fun _ => 0)) (va_up J1 (68 + x.1.length) (fun _ => 0)))) ∧ (¬ p2 < (0 : Int32) → (((4 : Int32) < p2 → (68 + x.1.length < 1000000 ∧ T (xA x (0, 11) 6) (va_up I1 (68 + x.1.length) (fun _ => 0)) (va_up J1 (68 + x.1.length) (fun _ => 0)))) ∧ (¬ (4 : Int32) < p2 → ((p2.toInt < 0 ∨ 3 < p2.toInt → (wcI S d 142 [.long (J1 3 6), .int p1] x I1 J1 (fun r2 I2 J2 => Q r2 I2 J2))) ∧ (p2.toInt = 0 → (¬ mOut p1 64 ∧ Q (I1 5 p1.toNatClampNeg) I1 J1)) ∧ (p2.toInt = 1 → (wcI S d 26 [.ref 4, .int p1] x I1 J1 (fun r3 I3 J3 => Q r3 I3 J3))) ∧ (p2.toInt = 2 → (wcI S d 27 [.ref 4, .int p1] x I1 J1 (fun r4 I4 J4 => Q r4 I4 J4))) ∧ (p2.toInt = 3 → (wcI S d 142 [.long (J1 3 5), .int p1] x I1 J1 (fun r5 I5 J5 => Q r5 I5 J5))) ∧ True)))))))))) : wcT S (d + 1) 103 [.ref 0, .int p1, .int p2] x I J T Q := v103_0_0 k
set_option maxRecDepth 20000 in
theorem v108_0_0 {S : Nat × (Nat → Int32)} {d : Nat} {x : mX} {I : rI0} {J : rJ0} {p1 : Int32} {p2 : Int32} {T : mX → rI0 → rJ0 → Prop} {Q : Int32 → rI0 → rJ0 → Prop} (k : ((p1 < (0 : Int32) → (68 + x.1.length < 1000000 ∧ T (xA x (0, 11) 6) (va_up I (68 + x.1.length) (fun _ => 0)) (va_up J (68 + x.1.length) (fun _ => 0)))) ∧ (¬ p1 < (0 : Int32) → ((p1 < (I 3 4) → ((p2 < (0 : Int32) → (68 + x.1.length < 1000000 ∧ T (xA x (0, 11) 6) (va_up I (68 + x.1.length) (fun _ => 0)) (va_up J (68 + x.1.length) (fun _ => 0)))) ∧ (¬ p2 < (0 : Int32) → (((2 : Int32) < p2 → (68 + x.1.length < 1000000 ∧ T (xA x (0, 11) 6) (va_up I (68 + x.1.length) (fun _ => 0)) (va_up J (68 + x.1.length) (fun _ => 0)))) ∧ (¬ (2 : Int32) < p2 → ((p2 = (0 : Int32) → (¬ mOut p1 30 ∧ Q (I 12 p1.toNatClampNeg) I J)) ∧ (¬ p2 = (0 : Int32) → ((p2 = (1 : Int32) → (¬ mOut p1 30 ∧ Q (I 13 p1.toNatClampNeg) I J)) ∧ (¬ p2 = (1 : Int32) → (¬ mOut p1 30 ∧ Q (I 14 p1.toNatClampNeg) I J)))))))))) ∧ (¬ p1 < (I 3 4) → (68 + x.1.length < 1000000 ∧ T (xA x (0, 11) 6) (va_up I (68 + x.1.length) (fun _ => 0)) (va_up J (68 + x.1.length) (fun _ => 0)))))))) : wp S (d + 1) 108 0 [some (.ref 0), some (.int p1), some (.int p2)] [] (wv x I J) (rT x T Q) := by
  refine wp_seg (C := gC108) (pc1 := 1) (Lo1 := [some (.ref 0), some (.int p1), some (.int p2)]) (st1' := [.int p1]) (w1 := (wv x I J)) rfl 1 rfl ?_
  refine wi_lt (tgt := 24) rfl rfl (fun h => ?_) (fun h => ?_)
  · have k := k.1 h
    exact we_t rfl rfl (Nat.le_of_ble_eq_true rfl) k
  · have k := k.2 h
    refine wp_seg (C := gC108) (pc1 := 12) (Lo1 := [some (.ref 0), some (.int p1), some (.int p2)]) (st1' := [.int (I 3 4), .int p1]) (w1 := (wv x I J)) rfl 4 rfl ?_
    refine wj_ge (tgt := 24) rfl rfl (fun h => ?_) (fun h => ?_)
    · have k := k.1 h
      refine wp_seg (C := gC108) (pc1 := 16) (Lo1 := [some (.ref 0), some (.int p1), some (.int p2)]) (st1' := [.int p2]) (w1 := (wv x I J)) rfl 1 rfl ?_
      refine wi_lt (tgt := 24) rfl rfl (fun h => ?_) (fun h => ?_)
      · have k := k.1 h
        exact we_t rfl rfl (Nat.le_of_ble_eq_true rfl) k
      · have k := k.2 h
        refine wp_seg (C := gC108) (pc1 := 21) (Lo1 := [some (.ref 0), some (.int p1), some (.int p2)]) (st1' := [.int (2 : Int32), .int p2]) (w1 := (wv x I J)) rfl 2 rfl ?_
        refine wj_le (tgt := 32) rfl rfl (fun h => ?_) (fun h => ?_)
        · have k := k.1 h
          exact we_t rfl rfl (Nat.le_of_ble_eq_true rfl) k
        · have k := k.2 h
          refine wp_seg (C := gC108) (pc1 := 33) (Lo1 := [some (.ref 0), some (.int p1), some (.int p2)]) (st1' := [.int p2]) (w1 := (wv x I J)) rfl 1 rfl ?_
          refine wi_ne (tgt := 46) rfl rfl (fun h => ?_) (fun h => ?_)
          · have k := k.1 h
            refine wp_seg (C := gC108) (pc1 := 44) (Lo1 := [some (.ref 0), some (.int p1), some (.int p2)]) (st1' := [.int p1, .ref 12]) (w1 := (wv x I J)) rfl 4 rfl ?_
            refine wa_i (n := 30) rfl (by decide) rfl k.1 ?_
            have k := k.2
            exact we_iT rfl rfl k
          · have k := k.2 h
            refine wp_seg (C := gC108) (pc1 := 48) (Lo1 := [some (.ref 0), some (.int p1), some (.int p2)]) (st1' := [.int (1 : Int32), .int p2]) (w1 := (wv x I J)) rfl 2 rfl ?_
            refine wj_ne (tgt := 63) rfl rfl (fun h => ?_) (fun h => ?_)
            · have k := k.1 h
              refine wp_seg (C := gC108) (pc1 := 59) (Lo1 := [some (.ref 0), some (.int p1), some (.int p2)]) (st1' := [.int p1, .ref 13]) (w1 := (wv x I J)) rfl 4 rfl ?_
              refine wa_i (n := 30) rfl (by decide) rfl k.1 ?_
              have k := k.2
              refine wp_seg (C := gC108) (pc1 := 72) (Lo1 := [some (.ref 0), some (.int p1), some (.int p2)]) (st1' := [.int (I 13 p1.toNatClampNeg)]) (w1 := (wv x I J)) rfl 1 rfl ?_
              exact we_iT rfl rfl k
            · have k := k.2 h
              refine wp_seg (C := gC108) (pc1 := 71) (Lo1 := [some (.ref 0), some (.int p1), some (.int p2)]) (st1' := [.int p1, .ref 14]) (w1 := (wv x I J)) rfl 4 rfl ?_
              refine wa_i (n := 30) rfl (by decide) rfl k.1 ?_
              have k := k.2
              exact we_iT rfl rfl k
    · have k := k.2 h
      exact we_t rfl rfl (Nat.le_of_ble_eq_true rfl) k
theorem c108_0 {S : Nat × (Nat → Int32)} {d : Nat} {x : mX} {I : rI0} {J : rJ0} {p1 p2 : Int32} {T : mX → rI0 → rJ0 → Prop} {Q : Int32 → rI0 → rJ0 → Prop} (k : ((p1 < (0 : Int32) → (68 + x.1.length < 1000000 ∧ T (xA x (0, 11) 6) (va_up I (68 + x.1.length) (fun _ => 0)) (va_up J (68 + x.1.length) (fun _ => 0)))) ∧ (¬ p1 < (0 : Int32) → ((p1 < (I 3 4) → ((p2 < (0 : Int32) → (68 + x.1.length < 1000000 ∧ T (xA x (0, 11) 6) (va_up I (68 + x.1.length) (fun _ => 0)) (va_up J (68 + x.1.length) (fun _ => 0)))) ∧ (¬ p2 < (0 : Int32) → (((2 : Int32) < p2 → (68 + x.1.length < 1000000 ∧ T (xA x (0, 11) 6) (va_up I (68 + x.1.length) (fun _ => 0)) (va_up J (68 + x.1.length) (fun _ => 0)))) ∧ (¬ (2 : Int32) < p2 → ((p2 = (0 : Int32) → (¬ mOut p1 30 ∧ Q (I 12 p1.toNatClampNeg) I J)) ∧ (¬ p2 = (0 : Int32) → ((p2 = (1 : Int32) → (¬ mOut p1 30 ∧ Q (I 13 p1.toNatClampNeg) I J)) ∧ (¬ p2 = (1 : Int32) → (¬ mOut p1 30 ∧ Q (I 14 p1.toNatClampNeg) I J)))))))))) ∧ (¬ p1 < (I 3 4) → (68 + x.1.length < 1000000 ∧ T (xA x (0, 11) 6) (va_up I (68 + x.1.length) (fun _ => 0)) (va_up J (68 + x.1.length) (fun _ => 0)))))))) : wcT S (d + 1) 108 [.ref 0, .int p1, .int p2] x I J T Q := v108_0_0 k
set_option maxRecDepth 20000 in
theorem v124_0_0 {S : Nat × (Nat → Int32)} {d : Nat} {x : mX} {I : rI0} {J : rJ0} {p1 : Int32} {p2 : Int32} {T : mX → rI0 → rJ0 → Prop} {Q : Int32 → rI0 → rJ0 → Prop} (k : ((p1 < (0 : Int32) → (68 + x.1.length < 1000000 ∧ T (xA x (0, 11) 6) (va_up I (68 + x.1.length) (fun _ => 0)) (va_up J (68 + x.1.length) (fun _ => 0)))) ∧ (¬ p1 < (0 : Int32) → ((p1 < (I 37 7) → ((p2 < (0 : Int32) → (68 + x.1.length < 1000000 ∧ T (xA x (0, 11) 6) (va_up I (68 + x.1.length) (fun _ => 0)) (va_up J (68 + x.1.length) (fun _ => 0)))) ∧ (¬ p2 < (0 : Int32) → (((1 : Int32) < p2 → (68 + x.1.length < 1000000 ∧ T (xA x (0, 11) 6) (va_up I (68 + x.1.length) (fun _ => 0)) (va_up J (68 + x.1.length) (fun _ => 0)))) ∧ (¬ (1 : Int32) < p2 → (wcI S d 90 [.ref 37, .int (I 37 7)] x I J (fun r1 I1 J1 => (¬ mOut p1 8 ∧ (wcI S d 91 [.ref 37, .int r1, .int (if 0 ≤ (I1 40 p1.toNatClampNeg) then I1 40 p1.toNatClampNeg else 0 - (I1 40 p1.toNatClampNeg))] x I1 J1 (fun r2 I2 J2 => ((r2 < (1 : Int32) → Q (0 : Int32) I2 J2) ∧ (¬ r2 < (1 : Int32) → ((p2 = (0 : Int32) → (¬ mOut p1 8 ∧ (¬ r2 = 0 ∧ Q ((I2 40 p1.toNatClampNeg) / r2) I2 J2))) ∧ (¬ p2 = (0 : Int32) → (¬ r2 = 0 ∧ Q (r1 / r2) I2 J2))))))))))))))) ∧ (¬ p1 < (I 37 7) → (68 + x.1.length < 1000000 ∧ T (xA x (0, 11) 6) (va_up I (68 + x.1.length) (fun _ => 0)) (va_up J (68 + x.1.length) (fun _ => 0)))))))) : wp S (d + 1) 124 0 [some (.ref 0), some (.int p1), some (.int p2), none, none] [] (wv x I J) (rT x T Q) := by
  refine wp_seg (C := gC124) (pc1 := 1) (Lo1 := [some (.ref 0), some (.int p1), some (.int p2), none, none]) (st1' := [.int p1]) (w1 := (wv x I J)) rfl 1 rfl ?_
  refine wi_lt (tgt := 24) rfl rfl (fun h => ?_) (fun h => ?_)
  · have k := k.1 h
    exact we_t rfl rfl (Nat.le_of_ble_eq_true rfl) k
  · have k := k.2 h
    refine wp_seg (C := gC124) (pc1 := 12) (Lo1 := [some (.ref 0), some (.int p1), some (.int p2), none, none]) (st1' := [.int (I 37 7), .int p1]) (w1 := (wv x I J)) rfl 4 rfl ?_
    refine wj_ge (tgt := 24) rfl rfl (fun h => ?_) (fun h => ?_)
    · have k := k.1 h
      refine wp_seg (C := gC124) (pc1 := 16) (Lo1 := [some (.ref 0), some (.int p1), some (.int p2), none, none]) (st1' := [.int p2]) (w1 := (wv x I J)) rfl 1 rfl ?_
      refine wi_lt (tgt := 24) rfl rfl (fun h => ?_) (fun h => ?_)
      · have k := k.1 h
        exact we_t rfl rfl (Nat.le_of_ble_eq_true rfl) k
      · have k := k.2 h
        refine wp_seg (C := gC124) (pc1 := 21) (Lo1 := [some (.ref 0), some (.int p1), some (.int p2), none, none]) (st1' := [.int (1 : Int32), .int p2]) (w1 := (wv x I J)) rfl 2 rfl ?_
        refine wj_le (tgt := 32) rfl rfl (fun h => ?_) (fun h => ?_)
        · have k := k.1 h
          exact we_t rfl rfl (Nat.le_of_ble_eq_true rfl) k
        · have k := k.2 h
          refine wp_seg (C := gC124) (pc1 := 43) (Lo1 := [some (.ref 0), some (.int p1), some (.int p2), none, none]) (st1' := [.int (I 37 7), .ref 37]) (w1 := (wv x I J)) rfl 5 rfl ?_
          refine cv_I (mj := 90) (a := 37) (as := [.int (I 37 7)]) (r := []) rfl rfl rfl ⟨rfl, by decide, Nat.le_of_ble_eq_true rfl, Nat.le_of_ble_eq_true rfl⟩ rfl (wcI_mono k (fun r1 I1 J1 k => ?_))
          refine wp_seg (C := gC124) (pc1 := 60) (Lo1 := [some (.ref 0), some (.int p1), some (.int p2), some (.int r1), none]) (st1' := [.int p1, .ref 40, .int r1, .ref 37]) (w1 := (wv x I1 J1)) rfl 8 rfl ?_
          refine wa_i (n := 8) rfl (by decide) rfl k.1 ?_
          have k := k.2
          refine wm_1 rfl rfl (Nat.le_of_ble_eq_true rfl) ?_
          refine cv_I (mj := 91) (a := 37) (as := [.int r1, .int (if 0 ≤ (I1 40 p1.toNatClampNeg) then I1 40 p1.toNatClampNeg else 0 - (I1 40 p1.toNatClampNeg))]) (r := []) rfl rfl rfl ⟨rfl, by decide, Nat.le_of_ble_eq_true rfl, Nat.le_of_ble_eq_true rfl⟩ rfl (wcI_mono k (fun r2 I2 J2 k => ?_))
          refine wp_seg (C := gC124) (pc1 := 72) (Lo1 := [some (.ref 0), some (.int p1), some (.int p2), some (.int r1), some (.int r2)]) (st1' := [.int (1 : Int32), .int r2]) (w1 := (wv x I2 J2)) rfl 3 rfl ?_
          refine wj_ge (tgt := 77) rfl rfl (fun h => ?_) (fun h => ?_)
          · have k := k.1 h
            refine wp_seg (C := gC124) (pc1 := 76) (Lo1 := [some (.ref 0), some (.int p1), some (.int p2), some (.int r1), some (.int r2)]) (st1' := [.int (0 : Int32)]) (w1 := (wv x I2 J2)) rfl 1 rfl ?_
            exact we_iT rfl rfl k
          · have k := k.2 h
            refine wp_seg (C := gC124) (pc1 := 78) (Lo1 := [some (.ref 0), some (.int p1), some (.int p2), some (.int r1), some (.int r2)]) (st1' := [.int p2]) (w1 := (wv x I2 J2)) rfl 1 rfl ?_
            refine wi_ne (tgt := 93) rfl rfl (fun h => ?_) (fun h => ?_)
            · have k := k.1 h
              refine wp_seg (C := gC124) (pc1 := 89) (Lo1 := [some (.ref 0), some (.int p1), some (.int p2), some (.int r1), some (.int r2)]) (st1' := [.int p1, .ref 40]) (w1 := (wv x I2 J2)) rfl 4 rfl ?_
              refine wa_i (n := 8) rfl (by decide) rfl k.1 ?_
              have k := k.2
              refine wp_seg (C := gC124) (pc1 := 96) (Lo1 := [some (.ref 0), some (.int p1), some (.int p2), some (.int r1), some (.int r2)]) (st1' := [.int r2, .int (I2 40 p1.toNatClampNeg)]) (w1 := (wv x I2 J2)) rfl 2 rfl ?_
              refine wd_i rfl k.1 ?_
              have k := k.2
              exact we_iT rfl rfl k
            · have k := k.2 h
              refine wp_seg (C := gC124) (pc1 := 96) (Lo1 := [some (.ref 0), some (.int p1), some (.int p2), some (.int r1), some (.int r2)]) (st1' := [.int r2, .int r1]) (w1 := (wv x I2 J2)) rfl 2 rfl ?_
              refine wd_i rfl k.1 ?_
              have k := k.2
              exact we_iT rfl rfl k
    · have k := k.2 h
      exact we_t rfl rfl (Nat.le_of_ble_eq_true rfl) k
theorem c124_0 {S : Nat × (Nat → Int32)} {d : Nat} {x : mX} {I : rI0} {J : rJ0} {p1 p2 : Int32} {T : mX → rI0 → rJ0 → Prop} {Q : Int32 → rI0 → rJ0 → Prop} (k : ((p1 < (0 : Int32) → (68 + x.1.length < 1000000 ∧ T (xA x (0, 11) 6) (va_up I (68 + x.1.length) (fun _ => 0)) (va_up J (68 + x.1.length) (fun _ => 0)))) ∧ (¬ p1 < (0 : Int32) → ((p1 < (I 37 7) → ((p2 < (0 : Int32) → (68 + x.1.length < 1000000 ∧ T (xA x (0, 11) 6) (va_up I (68 + x.1.length) (fun _ => 0)) (va_up J (68 + x.1.length) (fun _ => 0)))) ∧ (¬ p2 < (0 : Int32) → (((1 : Int32) < p2 → (68 + x.1.length < 1000000 ∧ T (xA x (0, 11) 6) (va_up I (68 + x.1.length) (fun _ => 0)) (va_up J (68 + x.1.length) (fun _ => 0)))) ∧ (¬ (1 : Int32) < p2 → (wcI S d 90 [.ref 37, .int (I 37 7)] x I J (fun r1 I1 J1 => (¬ mOut p1 8 ∧ (wcI S d 91 [.ref 37, .int r1, .int (if 0 ≤ (I1 40 p1.toNatClampNeg) then I1 40 p1.toNatClampNeg else 0 - (I1 40 p1.toNatClampNeg))] x I1 J1 (fun r2 I2 J2 => ((r2 < (1 : Int32) → Q (0 : Int32) I2 J2) ∧ (¬ r2 < (1 : Int32) → ((p2 = (0 : Int32) → (¬ mOut p1 8 ∧ (¬ r2 = 0 ∧ Q ((I2 40 p1.toNatClampNeg) / r2) I2 J2))) ∧ (¬ p2 = (0 : Int32) → (¬ r2 = 0 ∧ Q (r1 / r2) I2 J2))))))))))))))) ∧ (¬ p1 < (I 37 7) → (68 + x.1.length < 1000000 ∧ T (xA x (0, 11) 6) (va_up I (68 + x.1.length) (fun _ => 0)) (va_up J (68 + x.1.length) (fun _ => 0)))))))) : wcT S (d + 1) 124 [.ref 0, .int p1, .int p2] x I J T Q := v124_0_0 k
