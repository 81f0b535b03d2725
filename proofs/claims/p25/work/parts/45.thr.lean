section
set_option maxRecDepth 20000 in
theorem v27_4_0 {S : Nat × (Nat → Int32)} {d : Nat} {x : mX} {I : rI0} {J : rJ0} {p1 : Int32} {Q : Int32 → rI0 → rJ0 → Prop} (k : (wcI S d 25 [.ref 4, .int p1] x I J (fun r1 I1 J1 => (¬ mOut r1 8 ∧ Q (I1 8 r1.toNatClampNeg) I1 J1)))) : wp S (d + 1) 27 0 [some (.ref 4), some (.int p1)] [] (wv x I J) (rI x Q) := by
  refine wp_seg (C := gC27) (pc1 := 6) (Lo1 := [some (.ref 4), some (.int p1)]) (st1' := [.int p1, .ref 4, .ref 8]) (w1 := (wv x I J)) rfl 4 rfl ?_
  refine cv_I (mj := 25) (a := 4) (as := [.int p1]) (r := [.ref 8]) rfl rfl rfl ⟨rfl, by decide, Nat.le_of_ble_eq_true rfl, Nat.le_of_ble_eq_true rfl⟩ rfl (wcI_mono k (fun r1 I1 J1 k => ?_))
  refine wa_i (n := 8) rfl (by decide) rfl k.1 ?_
  have k := k.2
  exact we_i rfl rfl k
set_option maxRecDepth 20000 in
theorem v91_37_0 {S : Nat × (Nat → Int32)} {d : Nat} {x : mX} {I : rI0} {J : rJ0} {p1 : Int32} {p2 : Int32} {Q : Int32 → rI0 → rJ0 → Prop} (k : wp S d 91 8 [some (.ref 37), some (.int p1), some (.int p2), some (.int p1), some (.int p2), some (.int (0 : Int32)), none] [] (wv x I J) (rI x Q)) : wp S d 91 0 [some (.ref 37), some (.int p1), some (.int p2), none, none, none, none] [] (wv x I J) (rI x Q) := by
  refine wp_seg (C := gC91) (pc1 := 5) (Lo1 := [some (.ref 37), some (.int p1), some (.int p2), some (.int p1), some (.int p2), none, none]) (st1' := []) (w1 := (wv x I J)) rfl 4 rfl ?_
  refine wp_seg (C := gC91) (pc1 := 8) (Lo1 := [some (.ref 37), some (.int p1), some (.int p2), some (.int p1), some (.int p2), some (.int (0 : Int32)), none]) (st1' := []) (w1 := (wv x I J)) rfl 2 rfl ?_
  exact k
set_option maxRecDepth 20000 in
theorem v91_37_8 {S : Nat × (Nat → Int32)} {d : Nat} {x : mX} {I : rI0} {J : rJ0} {l1 : Int32} {l2 : Int32} {l3 : Int32} {l4 : Int32} {l5 : Int32} {Q : Int32 → rI0 → rJ0 → Prop} (k : ((l5 < (64 : Int32) → (((0 : Int32) < l4 → (¬ l4 = 0 ∧ wp S d 91 8 [some (.ref 37), some (.int l1), some (.int l2), some (.int l4), some (.int (l3 - l3 / l4 * l4)), some (.int (l5 + (1 : Int32))), none] [] (wv x I J) (rI x Q))) ∧ (¬ (0 : Int32) < l4 → Q l3 I J))) ∧ (¬ l5 < (64 : Int32) → Q l3 I J))) : wp S d 91 8 [some (.ref 37), some (.int l1), some (.int l2), some (.int l3), some (.int l4), some (.int l5), none] [] (wv x I J) (rI x Q) := by
  refine wp_seg (C := gC91) (pc1 := 12) (Lo1 := [some (.ref 37), some (.int l1), some (.int l2), some (.int l3), some (.int l4), some (.int l5), none]) (st1' := [.int (64 : Int32), .int l5]) (w1 := (wv x I J)) rfl 2 rfl ?_
  refine wj_ge (tgt := 39) rfl rfl (fun h => ?_) (fun h => ?_)
  · have k := k.1 h
    refine wp_seg (C := gC91) (pc1 := 17) (Lo1 := [some (.ref 37), some (.int l1), some (.int l2), some (.int l3), some (.int l4), some (.int l5), none]) (st1' := [.int l4]) (w1 := (wv x I J)) rfl 1 rfl ?_
    refine wi_le (tgt := 39) rfl rfl (fun h => ?_) (fun h => ?_)
    · have k := k.1 h
      refine wp_seg (C := gC91) (pc1 := 23) (Lo1 := [some (.ref 37), some (.int l1), some (.int l2), some (.int l3), some (.int l4), some (.int l5), none]) (st1' := [.int l4, .int l3]) (w1 := (wv x I J)) rfl 2 rfl ?_
      refine wd_r rfl k.1 ?_
      have k := k.2
      refine wp_seg (C := gC91) (pc1 := 29) (Lo1 := [some (.ref 37), some (.int l1), some (.int l2), some (.int l4), some (.int l4), some (.int l5), some (.int (l3 - l3 / l4 * l4))]) (st1' := []) (w1 := (wv x I J)) rfl 3 rfl ?_
      refine wp_seg (C := gC91) (pc1 := 36) (Lo1 := [some (.ref 37), some (.int l1), some (.int l2), some (.int l4), some (.int (l3 - l3 / l4 * l4)), some (.int (l5 + (1 : Int32))), some (.int (l3 - l3 / l4 * l4))]) (st1' := []) (w1 := (wv x I J)) rfl 3 rfl ?_
      refine wp_seg (C := gC91) (pc1 := 8) (Lo1 := [some (.ref 37), some (.int l1), some (.int l2), some (.int l4), some (.int (l3 - l3 / l4 * l4)), some (.int (l5 + (1 : Int32))), some (.int (l3 - l3 / l4 * l4))]) (st1' := []) (w1 := (wv x I J)) rfl 1 rfl ?_
      exact wp_sub (Lo := [some (.ref 37), some (.int l1), some (.int l2), some (.int l4), some (.int (l3 - l3 / l4 * l4)), some (.int (l5 + (1 : Int32))), none]) (And.intro rfl (And.intro rfl (And.intro rfl (And.intro rfl (And.intro rfl (And.intro rfl (trivial))))))) k
    · have k := k.2 h
      refine wp_seg (C := gC91) (pc1 := 40) (Lo1 := [some (.ref 37), some (.int l1), some (.int l2), some (.int l3), some (.int l4), some (.int l5), none]) (st1' := [.int l3]) (w1 := (wv x I J)) rfl 1 rfl ?_
      exact we_i rfl rfl k
  · have k := k.2 h
    refine wp_seg (C := gC91) (pc1 := 40) (Lo1 := [some (.ref 37), some (.int l1), some (.int l2), some (.int l3), some (.int l4), some (.int l5), none]) (st1' := [.int l3]) (w1 := (wv x I J)) rfl 1 rfl ?_
    exact we_i rfl rfl k
theorem c27_4 {S : Nat × (Nat → Int32)} {d : Nat} {x : mX} {I : rI0} {J : rJ0} {p1 : Int32} {Q : Int32 → rI0 → rJ0 → Prop} (k : (wcI S d 25 [.ref 4, .int p1] x I J (fun r1 I1 J1 => (¬ mOut r1 8 ∧ Q (I1 8 r1.toNatClampNeg) I1 J1)))) : wcI S (d + 1) 27 [.ref 4, .int p1] x I J Q := v27_4_0 k
theorem c91_37 {S : Nat × (Nat → Int32)} {d : Nat} {x : mX} {I : rI0} {J : rJ0} {p1 : Int32} {p2 : Int32} {Q : Int32 → rI0 → rJ0 → Prop} (k : wp S d 91 8 [some (.ref 37), some (.int p1), some (.int p2), some (.int p1), some (.int p2), some (.int (0 : Int32)), none] [] (wv x I J) (rI x Q)) : wcI S d 91 [.ref 37, .int p1, .int p2] x I J Q := v91_37_0 k
set_option maxRecDepth 20000 in
theorem v103_0_0 {S : Nat × (Nat → Int32)} {d : Nat} {x : mX} {I : rI0} {J : rJ0} {p1 : Int32} {p2 : Int32} {T : mX → rI0 → rJ0 → Prop} {Q : Int32 → rI0 → rJ0 → Prop} (k : (wcI S d 24 [.ref 4, .int p1] x I J (fun r1 I1 J1 => ((r1 = (0 : Int32) → (68 + x.1.length < 1000000 ∧ T (xA x (0, 11) 6) (va_up I1 (68 + x.1.length) (fun _ => 0)) (va_up J1 (68 + x.1.length) (fun _ => 0)))) ∧ (¬ r1 = (0 : Int32) → ((p2 < (0 : Int32) → (68 + x.1.length < 1000000 ∧ T (xA x (0, 11) 6) (va_up I1 (68 + x.1.length) (fun _ => 0)) (va_up J1 (68 + x.1.length) (fun _ => 0)))) ∧ (¬ p2 < (0 : Int32) → (((4 : Int32) < p2 → (68 + x.1.length < 1000000 ∧ T (xA x (0, 11) 6) (va_up I1 (68 + x.1.length) (fun _ => 0)) (va_up J1 (68 + x.1.length) (fun _ => 0)))) ∧ (¬ (4 : Int32) < p2 → ((p2.toInt < 0 ∨ 3 < p2.toInt → (wcI S d 142 [.long (J1 3 6), .int p1] x I1 J1 (fun r2 I2 J2 => Q r2 I2 J2))) ∧ (p2.toInt = 0 → (¬ mOut p1 64 ∧ Q (I1 5 p1.toNatClampNeg) I1 J1)) ∧ (p2.toInt = 1 → (wcI S d 26 [.ref 4, .int p1] x I1 J1 (fun r3 I3 J3 => Q r3 I3 J3))) ∧ (p2.toInt = 2 → (wcI S d 27 [.ref 4, .int p1] x I1 J1 (fun r4 I4 J4 => Q r4 I4 J4))) ∧ (p2.toInt = 3 → (wcI S d 142 [.long (J1 3 5), .int p1] x I1 J1 (fun r5 I5 J5 => Q r5 I5 J5))) ∧ True)))))))))) : wp S (d + 1) 103 0 [some (.ref 0), some (.int p1), some (.int p2)] [] (wv x I J) (rT x T Q) := by
  refine wp_seg (C := gC103) (pc1 := 8) (Lo1 := [some (.ref 0), some (.int p1), some (.int p2)]) (st1' := [.int p1, .ref 4]) (w1 := (wv x I J)) rfl 4 rfl ?_
  refine cv_I (mj := 24) (a := 4) (as := [.int p1]) (r := []) rfl rfl rfl ⟨rfl, by decide, Nat.le_of_ble_eq_true rfl, Nat.le_of_ble_eq_true rfl⟩ rfl (wcI_mono k (fun r1 I1 J1 k => ?_))
  refine wi_eq (tgt := 23) rfl rfl (fun h => ?_) (fun h => ?_)
  · have k := k.1 h
    exact we_t rfl rfl (Nat.le_of_ble_eq_true rfl) k
  · have k := k.2 h
    refine wp_seg (C := gC103) (pc1 := 15) (Lo1 := [some (.ref 0), some (.int p1), some (.int p2)]) (st1' := [.int p2]) (w1 := (wv x I1 J1)) rfl 1 rfl ?_
    refine wi_lt (tgt := 23) rfl rfl (fun h => ?_) (fun h => ?_)
    · have k := k.1 h
      exact we_t rfl rfl (Nat.le_of_ble_eq_true rfl) k
    · have k := k.2 h
      refine wp_seg (C := gC103) (pc1 := 20) (Lo1 := [some (.ref 0), some (.int p1), some (.int p2)]) (st1' := [.int (4 : Int32), .int p2]) (w1 := (wv x I1 J1)) rfl 2 rfl ?_
      refine wj_le (tgt := 31) rfl rfl (fun h => ?_) (fun h => ?_)
      · have k := k.1 h
        exact we_t rfl rfl (Nat.le_of_ble_eq_true rfl) k
      · have k := k.2 h
        refine wp_seg (C := gC103) (pc1 := 32) (Lo1 := [some (.ref 0), some (.int p1), some (.int p2)]) (st1' := [.int p2]) (w1 := (wv x I1 J1)) rfl 1 rfl ?_
        refine wt_tab (nn := 4) rfl ⟨rfl, rfl⟩ (fun h => ?_) (fun i hi hx => ?_)
        · have k := k.1 h
          show wp S (d + 1) 103 113 [some (.ref 0), some (.int p1), some (.int p2)] [] (wv x I1 J1) (rT x T Q)
          refine wp_seg (C := gC103) (pc1 := 121) (Lo1 := [some (.ref 0), some (.int p1), some (.int p2)]) (st1' := [.int p1, .long (J1 3 6)]) (w1 := (wv x I1 J1)) rfl 4 rfl ?_
          refine cs_I (mj := 142) (nn := 0) (as := [.long (J1 3 6), .int p1]) (r := []) rfl rfl rfl ⟨rfl, by decide, Nat.le_of_ble_eq_true rfl, Nat.le_of_ble_eq_true rfl⟩ (by decide) (wcI_mono k (fun r2 I2 J2 k => ?_))
          exact we_iT rfl rfl k
        · have k := k.2
          rcases (by omega : i = 0 ∨ i = 1 ∨ i = 2 ∨ i = 3) with rfl | rfl | rfl | rfl
          · have k := k.1 (by omega)
            show wp S (d + 1) 103 64 [some (.ref 0), some (.int p1), some (.int p2)] [] (wv x I1 J1) (rT x T Q)
            refine wp_seg (C := gC103) (pc1 := 75) (Lo1 := [some (.ref 0), some (.int p1), some (.int p2)]) (st1' := [.int p1, .ref 5]) (w1 := (wv x I1 J1)) rfl 5 rfl ?_
            refine wa_i (n := 64) rfl (by decide) rfl k.1 ?_
            have k := k.2
            exact we_iT rfl rfl k
          · have k := k.2.1 (by omega)
            show wp S (d + 1) 103 77 [some (.ref 0), some (.int p1), some (.int p2)] [] (wv x I1 J1) (rT x T Q)
            refine wp_seg (C := gC103) (pc1 := 85) (Lo1 := [some (.ref 0), some (.int p1), some (.int p2)]) (st1' := [.int p1, .ref 4]) (w1 := (wv x I1 J1)) rfl 4 rfl ?_
            refine cv_I (mj := 26) (a := 4) (as := [.int p1]) (r := []) rfl rfl rfl ⟨rfl, by decide, Nat.le_of_ble_eq_true rfl, Nat.le_of_ble_eq_true rfl⟩ rfl (wcI_mono k (fun r3 I3 J3 k => ?_))
            exact we_iT rfl rfl k
          · have k := k.2.2.1 (by omega)
            show wp S (d + 1) 103 89 [some (.ref 0), some (.int p1), some (.int p2)] [] (wv x I1 J1) (rT x T Q)
            refine wp_seg (C := gC103) (pc1 := 97) (Lo1 := [some (.ref 0), some (.int p1), some (.int p2)]) (st1' := [.int p1, .ref 4]) (w1 := (wv x I1 J1)) rfl 4 rfl ?_
            refine cv_I (mj := 27) (a := 4) (as := [.int p1]) (r := []) rfl rfl rfl ⟨rfl, by decide, Nat.le_of_ble_eq_true rfl, Nat.le_of_ble_eq_true rfl⟩ rfl (wcI_mono k (fun r4 I4 J4 k => ?_))
            exact we_iT rfl rfl k
          · have k := k.2.2.2.1 (by omega)
            show wp S (d + 1) 103 101 [some (.ref 0), some (.int p1), some (.int p2)] [] (wv x I1 J1) (rT x T Q)
            refine wp_seg (C := gC103) (pc1 := 109) (Lo1 := [some (.ref 0), some (.int p1), some (.int p2)]) (st1' := [.int p1, .long (J1 3 5)]) (w1 := (wv x I1 J1)) rfl 4 rfl ?_
            refine cs_I (mj := 142) (nn := 0) (as := [.long (J1 3 5), .int p1]) (r := []) rfl rfl rfl ⟨rfl, by decide, Nat.le_of_ble_eq_true rfl, Nat.le_of_ble_eq_true rfl⟩ (by decide) (wcI_mono k (fun r5 I5 J5 k => ?_))
            exact we_iT rfl rfl k
theorem c103_0 {S : Nat × (Nat → Int32)} {d : Nat} {x : mX} {I : rI0} {J : rJ0} {p1 p2 : Int32} {T : mX → rI0 → rJ0 → Prop} {Q : Int32 → rI0 → rJ0 → Prop} (k : (wcI S d 24 [.ref 4, .int p1] x I J (fun r1 I1 J1 => ((r1 = (0 : Int32) → (68 + x.1.length < 1000000 ∧ T (xA x (0, 11) 6) (va_up I1 (68 + x.1.length) (fun _ => 0)) (va_up J1 (68 + x.1.length) (fun _ => 0)))) ∧ (¬ r1 = (0 : Int32) → ((p2 < (0 : Int32) → (68 + x.1.length < 1000000 ∧ T (xA x (0, 11) 6) (va_up I1 (68 + x.1.length) (fun _ => 0)) (va_up J1 (68 + x.1.length) (fun _ => 0)))) ∧ (¬ p2 < (0 : Int32) → (((4 : Int32) < p2 → (68 + x.1.length < 1000000 ∧ T (xA x (0, 11) 6) (va_up I1 (68 + x.1.length) (fun _ => 0)) (va_up J1 (68 + x.1.length) (fun _ => 0)))) ∧ (¬ (4 : Int32) < p2 → ((p2.toInt < 0 ∨ 3 < p2.toInt → (wcI S d 142 [.long (J1 3 6), .int p1] x I1 J1 (fun r2 I2 J2 => Q r2 I2 J2))) ∧ (p2.toInt = 0 → (¬ mOut p1 64 ∧ Q (I1 5 p1.toNatClampNeg) I1 J1)) ∧ (p2.toInt = 1 → (wcI S d 26 [.ref 4, .int p1] x I1 J1 (fun r3 I3 J3 => Q r3 I3 J3))) ∧ (p2.toInt = 2 → (wcI S d 27 [.ref 4, .int p1] x I1 J1 (fun r4 I4 J4 => Q r4 I4 J4))) ∧ (p2.toInt = 3 → (wcI S d 142 [.long (J1 3 5), .int p1] x I1 J1 (fun r5 I5 J5 => Q r5 I5 J5))) ∧ True)))))))))) : wcT S (d + 1) 103 [.ref 0, .int p1, .int p2] x I J T Q := v103_0_0 k
set_option maxRecDepth 20000 in
theorem v108_0_0 {S : Nat × (Nat → Int32)} {d : Nat} {x : mX} {I : rI0} {J : rJ0} {p1 : Int32} {p2 : Int32} {T : mX → rI0 → rJ0 → Prop} {Q : Int32 → rI0 → rJ0 → Prop} (k : ((p1 < (0 : Int32) → (68 + x.1.length < 1000000 ∧ T (xA x (0, 11) 6) (va_up I (68 + x.1.length) (fun _ => 0)) (va_up J (68 + x.1.length) (fun _ => 0)))) ∧ (¬ p1 < (0 : Int32) → ((p1 < (I 3 4) → ((p2 < (0 : Int32) → (68 + x.1.length < 1000000 ∧ T (xA x (0, 11) 6) (va_up I (68 + x.1.length) (fun _ => 0)) (va_up J (68 + x.1.length) (fun _ => 0)))) ∧ (¬ p2 < (0 : Int32) → (((2 : Int32) < p2 → (68 + x.1.length < 1000000 ∧ T (xA x (0, 11) 6) (va_up I (68 + x.1.length) (fun _ => 0)) (va_up J (68 + x.1.length) (fun _ => 0)))) ∧ (¬ (2 : Int32) < p2 → ((p2 = (0 : Int32) → (¬ mOut p1 30 ∧ Q (I 12 p1.toNatClampNeg) I J)) ∧ (¬ p2 = (0 : Int32) → ((p2 = (1 : Int32) → (¬ mOut p1 30 ∧ Q (I 13 p1.toNatClampNeg) I J)) ∧ (¬ p2 = (1 : Int32) → (¬ mOut p1 30 ∧ Q (I 14 p1.toNatClampNeg) I J)))))))))) ∧ (¬ p1 < (I 3 4) → (68 + x.1.length < 1000000 ∧ T (xA x (0, 11) 6) (va_up I (68 + x.1.length) (fun _ => 0)) (va_up J (68 + x.1.length) (fun _ => 0)))))))) : wp S (d + 1) 108 0 [some (.ref 0), some (.int p1), some (.int p2)] [] (wv x I J) (rT x T Q) := by
  refine wp_seg (C := gC108) (pc1 := 1) (Lo1 := [some (.ref 0), some (.int p1), some (.int p2)]) (st1' := [.int p1]) (w1 := (wv x I J)) rfl 1 rfl ?_
  refine wi_lt (tgt := 24) rfl rfl (fun h => ?_) (fun h => ?_)
  · have k := k.1 h
    exact we_t rfl rfl (Nat.le_of_ble_eq_true rfl) k
  · have k := k.2 h
    refine wp_seg (C := gC108) (pc1 := 12) (Lo1 := [some (.ref 0), some (.int p1), some (.int p2)]) (st1' := [.int (I 3 4), .int p1]) (w1 := (wv x I J)) rfl 4 rfl ?_
    refine wj_ge (tgt := 24) rfl rfl (fun h => ?_) (fun h => ?_)
    · have k := k.1 h
      refine wp_seg (C := gC108) (pc1 := 16) (Lo1 := [some (.ref 0), some (.int p1), some (.int p2)]) (st1' := [.int p2]) (w1 := (wv x I J)) rfl 1 rfl ?_
      refine wi_lt (tgt := 24) rfl rfl (fun h => ?_) (fun h => ?_)
      · have k := k.1 h
        exact we_t rfl rfl (Nat.le_of_ble_eq_true rfl) k
      · have k := k.2 h
        refine wp_seg (C := gC108) (pc1 := 21) (Lo1 := [some (.ref 0), some (.int p1), some (.int p2)]) (st1' := [.int (2 : Int32), .int p2]) (w1 := (wv x I J)) rfl 2 rfl ?_
        refine wj_le (tgt := 32) rfl rfl (fun h => ?_) (fun h => ?_)
        · have k := k.1 h
          exact we_t rfl rfl (Nat.le_of_ble_eq_true rfl) k
        · have k := k.2 h
          refine wp_seg (C := gC108) (pc1 := 33) (Lo1 := [some (.ref 0), some (.int p1), some (.int p2)]) (st1' := [.int p2]) (w1 := (wv x I J)) rfl 1 rfl ?_
          refine wi_ne (tgt := 46) rfl rfl (fun h => ?_) (fun h => ?_)
          · have k := k.1 h
            refine wp_seg (C := gC108) (pc1 := 44) (Lo1 := [some (.ref 0), some (.int p1), some (.int p2)]) (st1' := [.int p1, .ref 12]) (w1 := (wv x I J)) rfl 4 rfl ?_
            refine wa_i (n := 30) rfl (by decide) rfl k.1 ?_
            have k := k.2
            exact we_iT rfl rfl k
          · have k := k.2 h
            refine wp_seg (C := gC108) (pc1 := 48) (Lo1 := [some (.ref 0), some (.int p1), some (.int p2)]) (st1' := [.int (1 : Int32), .int p2]) (w1 := (wv x I J)) rfl 2 rfl ?_
            refine wj_ne (tgt := 63) rfl rfl (fun h => ?_) (fun h => ?_)
            · have k := k.1 h
              refine wp_seg (C := gC108) (pc1 := 59) (Lo1 := [some (.ref 0), some (.int p1), some (.int p2)]) (st1' := [.int p1, .ref 13]) (w1 := (wv x I J)) rfl 4 rfl ?_
              refine wa_i (n := 30) rfl (by decide) rfl k.1 ?_
              have k := k.2
              refine wp_seg (C := gC108) (pc1 := 72) (Lo1 := [some (.ref 0), some (.int p1), some (.int p2)]) (st1' := [.int (I 13 p1.toNatClampNeg)]) (w1 := (wv x I J)) rfl 1 rfl ?_
              exact we_iT rfl rfl k
            · have k := k.2 h
              refine wp_seg (C := gC108) (pc1 := 71) (Lo1 := [some (.ref 0), some (.int p1), some (.int p2)]) (st1' := [.int p1, .ref 14]) (w1 := (wv x I J)) rfl 4 rfl ?_
              refine wa_i (n := 30) rfl (by decide) rfl k.1 ?_
              have k := k.2
              exact we_iT rfl rfl k
    · have k := k.2 h
      exact we_t rfl rfl (Nat.le_of_ble_eq_true rfl) k
theorem c108_0 {S : Nat × (Nat → Int32)} {d : Nat} {x : mX} {I : rI0} {J : rJ0} {p1 p2 : Int32} {T : mX → rI0 → rJ0 → Prop} {Q : Int32 → rI0 → rJ0 → Prop} (k : ((p1 < (0 : Int32) → (68 + x.1.length < 1000000 ∧ T (xA x (0, 11) 6) (va_up I (68 + x.1.length) (fun _ => 0)) (va_up J (68 + x.1.length) (fun _ => 0)))) ∧ (¬ p1 < (0 : Int32) → ((p1 < (I 3 4) → ((p2 < (0 : Int32) → (68 + x.1.length < 1000000 ∧ T (xA x (0, 11) 6) (va_up I (68 + x.1.length) (fun _ => 0)) (va_up J (68 + x.1.length) (fun _ => 0)))) ∧ (¬ p2 < (0 : Int32) → (((2 : Int32) < p2 → (68 + x.1.length < 1000000 ∧ T (xA x (0, 11) 6) (va_up I (68 + x.1.length) (fun _ => 0)) (va_up J (68 + x.1.length) (fun _ => 0)))) ∧ (¬ (2 : Int32) < p2 → ((p2 = (0 : Int32) → (¬ mOut p1 30 ∧ Q (I 12 p1.toNatClampNeg) I J)) ∧ (¬ p2 = (0 : Int32) → ((p2 = (1 : Int32) → (¬ mOut p1 30 ∧ Q (I 13 p1.toNatClampNeg) I J)) ∧ (¬ p2 = (1 : Int32) → (¬ mOut p1 30 ∧ Q (I 14 p1.toNatClampNeg) I J)))))))))) ∧ (¬ p1 < (I 3 4) → (68 + x.1.length < 1000000 ∧ T (xA x (0, 11) 6) (va_up I (68 + x.1.length) (fun _ => 0)) (va_up J (68 + x.1.length) (fun _ => 0)))))))) : wcT S (d + 1) 108 [.ref 0, .int p1, .int p2] x I J T Q := v108_0_0 k
set_option maxRecDepth 20000 in
theorem v124_0_0 {S : Nat × (Nat → Int32)} {d : Nat} {x : mX} {I : rI0} {J : rJ0} {p1 : Int32} {p2 : Int32} {T : mX → rI0 → rJ0 → Prop} {Q : Int32 → rI0 → rJ0 → Prop} (k : ((p1 < (0 : Int32) → (68 + x.1.length < 1000000 ∧ T (xA x (0, 11) 6) (va_up I (68 + x.1.length) (fun _ => 0)) (va_up J (68 + x.1.length) (fun _ => 0)))) ∧ (¬ p1 < (0 : Int32) → ((p1 < (I 37 7) → ((p2 < (0 : Int32) → (68 + x.1.length < 1000000 ∧ T (xA x (0, 11) 6) (va_up I (68 + x.1.length) (fun _ => 0)) (va_up J (68 + x.1.length) (fun _ => 0)))) ∧ (¬ p2 < (0 : Int32) → (((1 : Int32) < p2 → (68 + x.1.length < 1000000 ∧ T (xA x (0, 11) 6) (va_up I (68 + x.1.length) (fun _ => 0)) (va_up J (68 + x.1.length) (fun _ => 0)))) ∧ (¬ (1 : Int32) < p2 → (wcI S d 90 [.ref 37, .int (I 37 7)] x I J (fun r1 I1 J1 => (¬ mOut p1 8 ∧ (wcI S d 91 [.ref 37, .int r1, .int (if 0 ≤ (I1 40 p1.toNatClampNeg) then I1 40 p1.toNatClampNeg else 0 - (I1 40 p1.toNatClampNeg))] x I1 J1 (fun r2 I2 J2 => ((r2 < (1 : Int32) → Q (0 : Int32) I2 J2) ∧ (¬ r2 < (1 : Int32) → ((p2 = (0 : Int32) → (¬ mOut p1 8 ∧ (¬ r2 = 0 ∧ Q ((I2 40 p1.toNatClampNeg) / r2) I2 J2))) ∧ (¬ p2 = (0 : Int32) → (¬ r2 = 0 ∧ Q (r1 / r2) I2 J2))))))))))))))) ∧ (¬ p1 < (I 37 7) → (68 + x.1.length < 1000000 ∧ T (xA x (0, 11) 6) (va_up I (68 + x.1.length) (fun _ => 0)) (va_up J (68 + x.1.length) (fun _ => 0)))))))) : wp S (d + 1) 124 0 [some (.ref 0), some (.int p1), some (.int p2), none, none] [] (wv x I J) (rT x T Q) := by
  refine wp_seg (C := gC124) (pc1 := 1) (Lo1 := [some (.ref 0), some (.int p1), some (.int p2), none, none]) (st1' := [.int p1]) (w1 := (wv x I J)) rfl 1 rfl ?_
  refine wi_lt (tgt := 24) rfl rfl (fun h => ?_) (fun h => ?_)
  · have k := k.1 h
    exact we_t rfl rfl (Nat.le_of_ble_eq_true rfl) k
  · have k := k.2 h
    refine wp_seg (C := gC124) (pc1 := 12) (Lo1 := [some (.ref 0), some (.int p1), some (.int p2), none, none]) (st1' := [.int (I 37 7), .int p1]) (w1 := (wv x I J)) rfl 4 rfl ?_
    refine wj_ge (tgt := 24) rfl rfl (fun h => ?_) (fun h => ?_)
    · have k := k.1 h
      refine wp_seg (C := gC124) (pc1 := 16) (Lo1 := [some (.ref 0), some (.int p1), some (.int p2), none, none]) (st1' := [.int p2]) (w1 := (wv x I J)) rfl 1 rfl ?_
      refine wi_lt (tgt := 24) rfl rfl (fun h => ?_) (fun h => ?_)
      · have k := k.1 h
        exact we_t rfl rfl (Nat.le_of_ble_eq_true rfl) k
      · have k := k.2 h
        refine wp_seg (C := gC124) (pc1 := 21) (Lo1 := [some (.ref 0), some (.int p1), some (.int p2), none, none]) (st1' := [.int (1 : Int32), .int p2]) (w1 := (wv x I J)) rfl 2 rfl ?_
        refine wj_le (tgt := 32) rfl rfl (fun h => ?_) (fun h => ?_)
        · have k := k.1 h
          exact we_t rfl rfl (Nat.le_of_ble_eq_true rfl) k
        · have k := k.2 h
          refine wp_seg (C := gC124) (pc1 := 43) (Lo1 := [some (.ref 0), some (.int p1), some (.int p2), none, none]) (st1' := [.int (I 37 7), .ref 37]) (w1 := (wv x I J)) rfl 5 rfl ?_
          refine cv_I (mj := 90) (a := 37) (as := [.int (I 37 7)]) (r := []) rfl rfl rfl ⟨rfl, by decide, Nat.le_of_ble_eq_true rfl, Nat.le_of_ble_eq_true rfl⟩ rfl (wcI_mono k (fun r1 I1 J1 k => ?_))
          refine wp_seg (C := gC124) (pc1 := 60) (Lo1 := [some (.ref 0), some (.int p1), some (.int p2), some (.int r1), none]) (st1' := [.int p1, .ref 40, .int r1, .ref 37]) (w1 := (wv x I1 J1)) rfl 8 rfl ?_
          refine wa_i (n := 8) rfl (by decide) rfl k.1 ?_
          have k := k.2
          refine wm_1 rfl rfl (Nat.le_of_ble_eq_true rfl) ?_
          refine cv_I (mj := 91) (a := 37) (as := [.int r1, .int (if 0 ≤ (I1 40 p1.toNatClampNeg) then I1 40 p1.toNatClampNeg else 0 - (I1 40 p1.toNatClampNeg))]) (r := []) rfl rfl rfl ⟨rfl, by decide, Nat.le_of_ble_eq_true rfl, Nat.le_of_ble_eq_true rfl⟩ rfl (wcI_mono k (fun r2 I2 J2 k => ?_))
          refine wp_seg (C := gC124) (pc1 := 72) (Lo1 := [some (.ref 0), some (.int p1), some (.int p2), some (.int r1), some (.int r2)]) (st1' := [.int (1 : Int32), .int r2]) (w1 := (wv x I2 J2)) rfl 3 rfl ?_
          refine wj_ge (tgt := 77) rfl rfl (fun h => ?_) (fun h => ?_)
          · have k := k.1 h
            refine wp_seg (C := gC124) (pc1 := 76) (Lo1 := [some (.ref 0), some (.int p1), some (.int p2), some (.int r1), some (.int r2)]) (st1' := [.int (0 : Int32)]) (w1 := (wv x I2 J2)) rfl 1 rfl ?_
            exact we_iT rfl rfl k
          · have k := k.2 h
            refine wp_seg (C := gC124) (pc1 := 78) (Lo1 := [some (.ref 0), some (.int p1), some (.int p2), some (.int r1), some (.int r2)]) (st1' := [.int p2]) (w1 := (wv x I2 J2)) rfl 1 rfl ?_
            refine wi_ne (tgt := 93) rfl rfl (fun h => ?_) (fun h => ?_)
            · have k := k.1 h
              refine wp_seg (C := gC124) (pc1 := 89) (Lo1 := [some (.ref 0), some (.int p1), some (.int p2), some (.int r1), some (.int r2)]) (st1' := [.int p1, .ref 40]) (w1 := (wv x I2 J2)) rfl 4 rfl ?_
              refine wa_i (n := 8) rfl (by decide) rfl k.1 ?_
              have k := k.2
              refine wp_seg (C := gC124) (pc1 := 96) (Lo1 := [some (.ref 0), some (.int p1), some (.int p2), some (.int r1), some (.int r2)]) (st1' := [.int r2, .int (I2 40 p1.toNatClampNeg)]) (w1 := (wv x I2 J2)) rfl 2 rfl ?_
              refine wd_i rfl k.1 ?_
              have k := k.2
              exact we_iT rfl rfl k
            · have k := k.2 h
              refine wp_seg (C := gC124) (pc1 := 96) (Lo1 := [some (.ref 0), some (.int p1), some (.int p2), some (.int r1), some (.int r2)]) (st1' := [.int r2, .int r1]) (w1 := (wv x I2 J2)) rfl 2 rfl ?_
              refine wd_i rfl k.1 ?_
              have k := k.2
              exact we_iT rfl rfl k
    · have k := k.2 h
      exact we_t rfl rfl (Nat.le_of_ble_eq_true rfl) k
theorem c124_0 {S : Nat × (Nat → Int32)} {d : Nat} {x : mX} {I : rI0} {J : rJ0} {p1 p2 : Int32} {T : mX → rI0 → rJ0 → Prop} {Q : Int32 → rI0 → rJ0 → Prop} (k : ((p1 < (0 : Int32) → (68 + x.1.length < 1000000 ∧ T (xA x (0, 11) 6) (va_up I (68 + x.1.length) (fun _ => 0)) (va_up J (68 + x.1.length) (fun _ => 0)))) ∧ (¬ p1 < (0 : Int32) → ((p1 < (I 37 7) → ((p2 < (0 : Int32) → (68 + x.1.length < 1000000 ∧ T (xA x (0, 11) 6) (va_up I (68 + x.1.length) (fun _ => 0)) (va_up J (68 + x.1.length) (fun _ => 0)))) ∧ (¬ p2 < (0 : Int32) → (((1 : Int32) < p2 → (68 + x.1.length < 1000000 ∧ T (xA x (0, 11) 6) (va_up I (68 + x.1.length) (fun _ => 0)) (va_up J (68 + x.1.length) (fun _ => 0)))) ∧ (¬ (1 : Int32) < p2 → (wcI S d 90 [.ref 37, .int (I 37 7)] x I J (fun r1 I1 J1 => (¬ mOut p1 8 ∧ (wcI S d 91 [.ref 37, .int r1, .int (if 0 ≤ (I1 40 p1.toNatClampNeg) then I1 40 p1.toNatClampNeg else 0 - (I1 40 p1.toNatClampNeg))] x I1 J1 (fun r2 I2 J2 => ((r2 < (1 : Int32) → Q (0 : Int32) I2 J2) ∧ (¬ r2 < (1 : Int32) → ((p2 = (0 : Int32) → (¬ mOut p1 8 ∧ (¬ r2 = 0 ∧ Q ((I2 40 p1.toNatClampNeg) / r2) I2 J2))) ∧ (¬ p2 = (0 : Int32) → (¬ r2 = 0 ∧ Q (r1 / r2) I2 J2))))))))))))))) ∧ (¬ p1 < (I 37 7) → (68 + x.1.length < 1000000 ∧ T (xA x (0, 11) 6) (va_up I (68 + x.1.length) (fun _ => 0)) (va_up J (68 + x.1.length) (fun _ => 0)))))))) : wcT S (d + 1) 124 [.ref 0, .int p1, .int p2] x I J T Q := v124_0_0 k
end
section
/-! THE CLASS ON AN EMPTY EVENING -/
section P1C
variable {S : Nat × (Nat → Int32)} {d : Nat} {x : mX} {I : rI0} {J : rJ0}
theorem z_shr (a : UInt64) : ((0 : Int64).toUInt64 >>> a).toInt64 = 0 := by
  rw [show (0 : Int64).toUInt64 = 0 from rfl, UInt64.zero_shiftRight]
  rfl
theorem wvI {f : rI0} {Q : rI0 → rJ0 → Prop} (k : Q f J) : rV x Q (some none) (wsI (wv x I J) f) := ⟨f, J, rfl, rfl, k⟩
theorem wvJ {f : rJ0} {Q : rI0 → rJ0 → Prop} (k : Q I f) : rV x Q (some none) (wsJ (wv x I J) f) := ⟨I, f, rfl, rfl, k⟩
/-- the sets of a bit count -/
theorem bc0 {p : Int64} {Q : Int32 → rI0 → rJ0 → Prop} (hp : p = 0) (k : Q 0 I J) : wcI S d 250 [.long p] x I J Q := by
  subst hp
  refine c250 ?_
  have e : ∀ v : Int32, v = 0 → Q v I J := fun v h => h ▸ k
  exact e _ (by decide +kernel)
def CF (I : rI0) (J : rJ0) : Prop := I 4 0 = 0 ∧ I 4 1 = 0 ∧ I 4 2 = 1 ∧ I 4 3 = 600 ∧ I 4 4 = 0 ∧ J 4 5 = 0 ∧ I 3 4 = 0 ∧ J 3 5 = 0 ∧ J 3 6 = 0
theorem CF_mv (h : CF I J) {I' : rI0} {J' : rJ0} (h3 : I' 3 = I 3) (h4 : I' 4 = I 4) (j3 : J' 3 = J 3) (j4 : J' 4 = J 4) : CF I' J' := by
  unfold CF at h ⊢
  rw [h3, h4, j3, j4]
  exact h
theorem isSeat0 {p : Int32} {Q : Int32 → rI0 → rJ0 → Prop} (hj : J 4 5 = 0) (k : Q 0 I J) : wcI S d 24 [.ref 4, .int p] x I J Q := by
  refine c24_4 ⟨fun _ => k, fun _ => ⟨fun _ => ⟨fun _ => k, fun h => absurd ?_ h⟩, fun _ => k⟩⟩
  rw [hj, z_shr, Int64.zero_and]
  decide
theorem isSeat16 {p : Int32} {Q : Int32 → rI0 → rJ0 → Prop} (hj : J 16 5 = 0) (k : Q 0 I J) : wcI S d 24 [.ref 16, .int p] x I J Q := by
  refine c24_16 ⟨fun _ => k, fun _ => ⟨fun _ => ⟨fun _ => k, fun h => absurd ?_ h⟩, fun _ => k⟩⟩
  rw [hj, z_shr, Int64.zero_and]
  decide
theorem lastLeaves0 {Q : Int32 → rI0 → rJ0 → Prop} (h : I 4 0 = 0) (k : Q (-1) I J) : wcI S (d + 1) 29 [.ref 4] x I J Q :=
  c29_4 (v29_4_4 ⟨fun h1 => absurd h1 (by rw [h]; decide), fun _ => k⟩)
theorem lastEvent0 {Q : Int32 → rI0 → rJ0 → Prop} (h : I 4 0 = 0) (h3 : I 3 4 = 0) (k : Q (-1) I J) : wcI S (d + 2) 17 [.ref 3] x I J Q := by
  refine c17_3 ⟨fun h1 => absurd h1 (by rw [h3]; decide), fun _ => lastLeaves0 h ?_⟩
  rw [if_neg (by decide)]
  exact k
def NA (n : Nat) (I : rI0) (J : rJ0) : Prop := I n 2 = 0 ∧ I n 3 = 0 ∧ I n 4 = -1 ∧ I n 12 = 0 ∧ J n 5 = 0 ∧ J n 6 = 0 ∧ J n 7 = 0 ∧ J n 8 = 0 ∧ J n 9 = 0 ∧ J n 10 = 0 ∧ J n 11 = 0
def NB (n : Nat) (I : rI0) (J : rJ0) : Prop := I n 12 = 1 ∧ J n 8 = 0 ∧ J n 9 = 0 ∧ J n 10 = 0 ∧ J n 11 = 0
/-- nothing but row n has changed -/
def Off (n : Nat) (I : rI0) (J : rJ0) (I' : rI0) (J' : rJ0) : Prop := (∀ a, a ≠ n → I' a = I a) ∧ ∀ a, a ≠ n → J' a = J a
theorem mSet_off {α : Type} {f g : Nat → Nat → α} {n k : Nat} {v : α} (h : ∀ a, a ≠ n → f a = g a) : ∀ a, a ≠ n → mSet f n k v a = g a := by
  intro a ha
  unfold mSet va_up
  rw [if_neg ha]
  exact h a ha

theorem doCues0_36 {Q : Int32 → rI0 → rJ0 → Prop} (h : CF I J) (h3 : I 36 3 = 0) (k : Q 0 I J) : wcI S (d + 1) 56 [.ref 36] x I J Q :=
  c56_36 (v56_36_2 ⟨fun h1 => absurd h1 (by rw [h3, h.2.2.2.2.2.2.1]; decide), fun _ => ⟨Or.inl rfl, k⟩⟩)
theorem seeRows0_36 {Q : rI0 → rJ0 → Prop} (h : CF I J) (k : Q I J) : wcV S (d + 1) 57 [.ref 36] x I J Q :=
  c57_36 (v57_36_2 ⟨fun h1 => absurd h1 (by rw [h.1]; decide), fun _ => k⟩)
theorem standing0_36 {Q : Int64 → rI0 → rJ0 → Prop} (h5 : J 36 5 = 0) (k : Q 0 I J) : wcJ S d 58 [.ref 36] x I J Q :=
  c58_36 ⟨fun _ => k, fun _ => by rw [h5, Int64.zero_and, Int64.zero_and]; exact k⟩
theorem begin0_36 {p q : Int64} {Q : rI0 → rJ0 → Prop} (h : CF I J) (hp : p = 0) (hq : q = 0) (k : ∀ I' J', Off 36 I J I' J' → NA 36 I' J' → Q I' J') : wcV S (d + 3) 52 [.ref 36, .long p, .long q] x I J Q := by
  subst hp
  subst hq
  refine c52_36 (lastEvent0 h.1 h.2.2.2.2.2.2.1 ⟨fun h1 => absurd h1 ?_, fun _ => v52_36_72 ?_⟩)
  · show ¬ I 4 3 < 600
    rw [h.2.2.2.1]
    decide
  · refine doCues0_36 (CF_mv h rfl rfl rfl rfl) rfl (seeRows0_36 (CF_mv h rfl rfl rfl rfl) (standing0_36 rfl ?_))
    refine k _ _ ⟨?_, ?_⟩ ⟨rfl, rfl, rfl, rfl, rfl, rfl, rfl, rfl, rfl, rfl, rfl⟩
    · exact mSet_off (mSet_off (mSet_off (mSet_off (fun a _ => rfl))))
    · exact mSet_off (mSet_off (mSet_off (mSet_off (mSet_off (mSet_off (mSet_off (fun a _ => rfl)))))))
theorem move_lp_36 {l3 l5 : Int64} {Q : rI0 → rJ0 → Prop} (h8 : J 36 8 = 0) (h9 : J 36 9 = 0) (k : Q I (mSet (mSet J 36 8 0) 36 9 0)) : ∀ m c : Nat, c + m = 6 → wp S (d + 1) 59 27 [some (.ref 36), some (.long 0), none, some (.long 0), none, some (.long l5), none, some (.long 0), none, some (.long 0), none, some (.long 0), none, some (.int (nI c)), none, none, none, none, none] [] (wv x I J) (rV x Q) := by
  intro m
  induction m with
  | zero =>
    intro c hc
    have hc : c = 6 := by omega
    subst hc
    refine v59_36_27 ⟨fun h => absurd h (by decide), fun _ => ?_⟩
    rw [h8, h9]
    have e : ∀ u v : Int64, u = 0 → v = 0 → Q I (mSet (mSet J 36 8 u) 36 9 v) := fun u v hu hv => by rw [hu, hv]; exact k
    exact e _ _ (by decide +kernel) (by decide +kernel)
  | succ m ih =>
    intro c hc
    refine v59_36_27 ⟨fun _ => ⟨nI_in (by omega) (by omega), fun _ => ?_, fun h => absurd ?_ h⟩, fun h => absurd (nI_lt (by omega) (by omega) : nI c < nI 6) h⟩
    · have h := ih (c + 1) (by omega)
      rw [nI_succ] at h
      exact h
    · rw [Int64.zero_and]
      decide
theorem move0_36 {p1 p2 p3 : Int64} {Q : rI0 → rJ0 → Prop} (hp1 : p1 = 0) (hp2 : p2 = 0) (h8 : J 36 8 = 0) (h9 : J 36 9 = 0) (k : Q I (mSet (mSet J 36 8 0) 36 9 0)) : wcV S (d + 1) 59 [.ref 36, .long p1, .long p2, .long p3] x I J Q := by
  subst hp1
  subst hp2
  refine c59_36 ?_
  rw [Int64.zero_and, Int64.zero_and]
  exact move_lp_36 (l3 := 0) h8 h9 k 6 0 rfl
theorem hold0_36 {p : Int64} {Q : rI0 → rJ0 → Prop} (hp : p = 0) (hs : J 4 5 = 0) (h10 : J 36 10 = 0) (h11 : J 36 11 = 0) (h4 : I 36 4 = -1) (h2 : I 36 2 = 1) (k : Q (mSet I 36 12 1) (mSet (mSet J 36 10 0) 36 11 0)) : wcV S d 60 [.ref 36, .long p] x I J Q := by
  subst hp
  refine c60_36 ⟨fun _ => ⟨fun _ => ⟨fun _ => ?_, fun h => absurd (by rw [h10, h11]; decide +kernel) h⟩, fun h => absurd (by rw [h10, h11]; decide +kernel) h⟩, fun h => absurd (by rw [hs]; decide +kernel) h⟩
  rw [h10, h11]
  refine v60_36_65 ⟨fun h => absurd h (by decide), fun _ => ⟨fun _ => ?_, fun h => absurd (by rw [h4, h2]; decide) h⟩⟩
  have e : ∀ u v : Int64, u = 0 → v = 0 → Q (mSet I 36 12 1) (mSet (mSet J 36 10 u) 36 11 v) := fun u v hu hv => by rw [hu, hv]; exact k
  exact e _ _ (by decide +kernel) (by decide +kernel)
theorem step0_36 {Q : rI0 → rJ0 → Prop} (h : CF I J) (hA : NA 36 I J) (k : ∀ I' J', Off 36 I J I' J' → NB 36 I' J' → Q I' J') : wcV S (d + 2) 55 [.ref 36] x I J Q := by
  obtain ⟨a2, a3, a4, a12, a5, a6, a7, a8, a9, a10, a11⟩ := hA
  refine c55_36 (doCues0_36 (CF_mv h rfl rfl rfl rfl) a3 (seeRows0_36 (CF_mv h rfl rfl rfl rfl) (standing0_36 a5 ⟨fun _ => ?_, fun h1 => absurd rfl h1⟩)))
  refine v55_36_49 ⟨fun _ => ?_, fun h1 => absurd h.2.2.2.2.1 h1⟩
  refine move0_36 h.2.2.2.2.2.1 rfl a8 a9 ?_
  refine v55_36_127 ?_
  refine hold0_36 ?_ h.2.2.2.2.2.1 a10 a11 a4 ?_ ?_
  · show (J 4 5 &&& _) &&& _ = 0
    rw [h.2.2.2.2.2.1, Int64.zero_and, Int64.zero_and]
  · show I 36 2 + 1 = 1
    rw [a2]
    decide
  · refine k _ _ ⟨?_, ?_⟩ ⟨rfl, rfl, rfl, rfl, rfl⟩
    · exact mSet_off (mSet_off (fun a _ => rfl))
    · exact mSet_off (mSet_off (mSet_off (mSet_off (fun a _ => rfl))))

theorem doCues0_41 {Q : Int32 → rI0 → rJ0 → Prop} (h : CF I J) (h3 : I 41 3 = 0) (k : Q 0 I J) : wcI S (d + 1) 56 [.ref 41] x I J Q :=
  c56_41 (v56_41_2 ⟨fun h1 => absurd h1 (by rw [h3, h.2.2.2.2.2.2.1]; decide), fun _ => ⟨Or.inl rfl, k⟩⟩)
theorem seeRows0_41 {Q : rI0 → rJ0 → Prop} (h : CF I J) (k : Q I J) : wcV S (d + 1) 57 [.ref 41] x I J Q :=
  c57_41 (v57_41_2 ⟨fun h1 => absurd h1 (by rw [h.1]; decide), fun _ => k⟩)
theorem standing0_41 {Q : Int64 → rI0 → rJ0 → Prop} (h5 : J 41 5 = 0) (k : Q 0 I J) : wcJ S d 58 [.ref 41] x I J Q :=
  c58_41 ⟨fun _ => k, fun _ => by rw [h5, Int64.zero_and, Int64.zero_and]; exact k⟩
theorem begin0_41 {p q : Int64} {Q : rI0 → rJ0 → Prop} (h : CF I J) (hp : p = 0) (hq : q = 0) (k : ∀ I' J', Off 41 I J I' J' → NA 41 I' J' → Q I' J') : wcV S (d + 3) 52 [.ref 41, .long p, .long q] x I J Q := by
  subst hp
  subst hq
  refine c52_41 (lastEvent0 h.1 h.2.2.2.2.2.2.1 ⟨fun h1 => absurd h1 ?_, fun _ => v52_41_72 ?_⟩)
  · show ¬ I 4 3 < 600
    rw [h.2.2.2.1]
    decide
  · refine doCues0_41 (CF_mv h rfl rfl rfl rfl) rfl (seeRows0_41 (CF_mv h rfl rfl rfl rfl) (standing0_41 rfl ?_))
    refine k _ _ ⟨?_, ?_⟩ ⟨rfl, rfl, rfl, rfl, rfl, rfl, rfl, rfl, rfl, rfl, rfl⟩
    · exact mSet_off (mSet_off (mSet_off (mSet_off (fun a _ => rfl))))
    · exact mSet_off (mSet_off (mSet_off (mSet_off (mSet_off (mSet_off (mSet_off (fun a _ => rfl)))))))
theorem move_lp_41 {l3 l5 : Int64} {Q : rI0 → rJ0 → Prop} (h8 : J 41 8 = 0) (h9 : J 41 9 = 0) (k : Q I (mSet (mSet J 41 8 0) 41 9 0)) : ∀ m c : Nat, c + m = 6 → wp S (d + 1) 59 27 [some (.ref 41), some (.long 0), none, some (.long 0), none, some (.long l5), none, some (.long 0), none, some (.long 0), none, some (.long 0), none, some (.int (nI c)), none, none, none, none, none] [] (wv x I J) (rV x Q) := by
  intro m
  induction m with
  | zero =>
    intro c hc
    have hc : c = 6 := by omega
    subst hc
    refine v59_41_27 ⟨fun h => absurd h (by decide), fun _ => ?_⟩
    rw [h8, h9]
    have e : ∀ u v : Int64, u = 0 → v = 0 → Q I (mSet (mSet J 41 8 u) 41 9 v) := fun u v hu hv => by rw [hu, hv]; exact k
    exact e _ _ (by decide +kernel) (by decide +kernel)
  | succ m ih =>
    intro c hc
    refine v59_41_27 ⟨fun _ => ⟨nI_in (by omega) (by omega), fun _ => ?_, fun h => absurd ?_ h⟩, fun h => absurd (nI_lt (by omega) (by omega) : nI c < nI 6) h⟩
    · have h := ih (c + 1) (by omega)
      rw [nI_succ] at h
      exact h
    · rw [Int64.zero_and]
      decide
theorem move0_41 {p1 p2 p3 : Int64} {Q : rI0 → rJ0 → Prop} (hp1 : p1 = 0) (hp2 : p2 = 0) (h8 : J 41 8 = 0) (h9 : J 41 9 = 0) (k : Q I (mSet (mSet J 41 8 0) 41 9 0)) : wcV S (d + 1) 59 [.ref 41, .long p1, .long p2, .long p3] x I J Q := by
  subst hp1
  subst hp2
  refine c59_41 ?_
  rw [Int64.zero_and, Int64.zero_and]
  exact move_lp_41 (l3 := 0) h8 h9 k 6 0 rfl
theorem hold0_41 {p : Int64} {Q : rI0 → rJ0 → Prop} (hp : p = 0) (hs : J 4 5 = 0) (h10 : J 41 10 = 0) (h11 : J 41 11 = 0) (h4 : I 41 4 = -1) (h2 : I 41 2 = 1) (k : Q (mSet I 41 12 1) (mSet (mSet J 41 10 0) 41 11 0)) : wcV S d 60 [.ref 41, .long p] x I J Q := by
  subst hp
  refine c60_41 ⟨fun _ => ⟨fun _ => ⟨fun _ => ?_, fun h => absurd (by rw [h10, h11]; decide +kernel) h⟩, fun h => absurd (by rw [h10, h11]; decide +kernel) h⟩, fun h => absurd (by rw [hs]; decide +kernel) h⟩
  rw [h10, h11]
  refine v60_41_65 ⟨fun h => absurd h (by decide), fun _ => ⟨fun _ => ?_, fun h => absurd (by rw [h4, h2]; decide) h⟩⟩
  have e : ∀ u v : Int64, u = 0 → v = 0 → Q (mSet I 41 12 1) (mSet (mSet J 41 10 u) 41 11 v) := fun u v hu hv => by rw [hu, hv]; exact k
  exact e _ _ (by decide +kernel) (by decide +kernel)
theorem step0_41 {Q : rI0 → rJ0 → Prop} (h : CF I J) (hA : NA 41 I J) (k : ∀ I' J', Off 41 I J I' J' → NB 41 I' J' → Q I' J') : wcV S (d + 2) 55 [.ref 41] x I J Q := by
  obtain ⟨a2, a3, a4, a12, a5, a6, a7, a8, a9, a10, a11⟩ := hA
  refine c55_41 (doCues0_41 (CF_mv h rfl rfl rfl rfl) a3 (seeRows0_41 (CF_mv h rfl rfl rfl rfl) (standing0_41 a5 ⟨fun _ => ?_, fun h1 => absurd rfl h1⟩)))
  refine v55_41_49 ⟨fun _ => ?_, fun h1 => absurd h.2.2.2.2.1 h1⟩
  refine move0_41 h.2.2.2.2.2.1 rfl a8 a9 ?_
  refine v55_41_127 ?_
  refine hold0_41 ?_ h.2.2.2.2.2.1 a10 a11 a4 ?_ ?_
  · show (J 4 5 &&& _) &&& _ = 0
    rw [h.2.2.2.2.2.1, Int64.zero_and, Int64.zero_and]
  · show I 41 2 + 1 = 1
    rw [a2]
    decide
  · refine k _ _ ⟨?_, ?_⟩ ⟨rfl, rfl, rfl, rfl, rfl⟩
    · exact mSet_off (mSet_off (fun a _ => rfl))
    · exact mSet_off (mSet_off (mSet_off (mSet_off (fun a _ => rfl))))

theorem goTo0 {t : Int32} {Q : rI0 → rJ0 → Prop} (h : CF I J) (hA : NA 41 I J) (k : ∀ I' J', Off 41 I J I' J' → J' 41 9 = 0 → Q I' J') : wcV S (d + 3) 53 [.ref 41, .int t] x I J Q := by
  have k0 : Q I J := k I J ⟨fun _ _ => rfl, fun _ _ => rfl⟩ hA.2.2.2.2.2.2.2.2.1
  refine c53_41 (v53_41_5 ⟨fun _ => ⟨fun _ => step0_41 h hA (fun I' J' hO hB => v53_41_5 ?_), fun _ => k0⟩, fun _ => k0⟩)
  have k1 : Q I' J' := k I' J' hO hB.2.2.1
  exact ⟨fun _ => ⟨fun h1 => absurd (hB.1.symm.trans h1) (by decide), fun _ => k1⟩, fun _ => k1⟩
/-- the diary on an empty evening -/
def DZ (I : rI0) (J : rJ0) : Prop := CF I J ∧ (∀ m, J 32 m = 0) ∧ (∀ m, J 33 m = 0) ∧ (∀ m, J 34 m = 0) ∧ (∀ m, J 35 m = 0) ∧ (I 31 6 = 0 ∨ (I 31 6 = 1 ∧ NA 36 I J) ∨ (I 31 6 = 2 ∧ NB 36 I J))
/-- nothing but the diary has changed -/
def OffD (I : rI0) (J : rJ0) (I' : rI0) (J' : rJ0) : Prop := (∀ a, ¬ (31 ≤ a ∧ a ≤ 36) → I' a = I a) ∧ ∀ a, ¬ (31 ≤ a ∧ a ≤ 36) → J' a = J a
theorem OffD.rf : OffD I J I J := ⟨fun _ _ => rfl, fun _ _ => rfl⟩
theorem OffD.tr {I1 I2 : rI0} {J1 J2 : rJ0} (h : OffD I J I1 J1) (h2 : OffD I1 J1 I2 J2) : OffD I J I2 J2 := ⟨fun a ha => (h2.1 a ha).trans (h.1 a ha), fun a ha => (h2.2 a ha).trans (h.2 a ha)⟩
theorem OffD.of {I1 : rI0} {J1 : rJ0} (h : Off 36 I J I1 J1) : OffD I J I1 J1 := ⟨fun a ha => h.1 a (by omega), fun a ha => h.2 a (by omega)⟩
theorem OffD.cf {I1 : rI0} {J1 : rJ0} (h : OffD I J I1 J1) (hc : CF I J) : CF I1 J1 := CF_mv hc (h.1 3 (by omega)) (h.1 4 (by omega)) (h.2 3 (by omega)) (h.2 4 (by omega))
theorem mSet_0 {f : Nat → Nat → Int64} {a k : Nat} (h : ∀ m, f a m = 0) : ∀ m, mSet f a k 0 a m = 0 := by
  intro m
  unfold mSet va_up
  rw [if_pos rfl]
  split
  · rfl
  · exact h m
theorem mSet_ne {α : Type} {f : Nat → Nat → α} {a k b : Nat} {v : α} (h : b ≠ a) : mSet f a k v b = f b := by
  unfold mSet va_up
  rw [if_neg h]
/-- keep: the four rows stay zero -/
theorem keep0 {Q : rI0 → rJ0 → Prop} {n : Nat} (hn : n ≤ 1) (h6 : I 31 6 = nI n) (z : (∀ m, J 32 m = 0) ∧ (∀ m, J 33 m = 0) ∧ (∀ m, J 34 m = 0) ∧ (∀ m, J 35 m = 0)) (hN : J 36 8 = 0 ∧ J 36 9 = 0 ∧ J 36 10 = 0 ∧ J 36 11 = 0) (k : ∀ J', ((∀ m, J' 32 m = 0) ∧ (∀ m, J' 33 m = 0) ∧ (∀ m, J' 34 m = 0) ∧ (∀ m, J' 35 m = 0)) → (∀ a, ¬ (32 ≤ a ∧ a ≤ 35) → J' a = J a) → Q (mSet I 31 6 (nI (n + 1))) J') : wcV S d 8 [.ref 31] x I J Q := by
  have hin : ¬ mOut (I 31 6) 601 := by rw [h6]; exact nI_in (by omega) (by omega)
  refine c8_31 ⟨fun h => absurd h ?_, fun _ => ⟨hin, hin, hin, hin, ?_⟩⟩
  · rw [h6]
    exact nI_nlt (a := 600) (b := n) (by omega) (by omega)
  · rw [h6, hN.1, hN.2.1, hN.2.2.1, hN.2.2.2, ← nI_succ]
    refine k _ ⟨?_, ?_, ?_, ?_⟩ ?_
    · intro m
      rw [mSet_ne (by decide), mSet_ne (by decide), mSet_ne (by decide)]
      exact mSet_0 z.1 m
    · intro m
      rw [mSet_ne (by decide), mSet_ne (by decide)]
      exact mSet_0 (fun m => by rw [mSet_ne (by decide)]; exact z.2.1 m) m
    · intro m
      rw [mSet_ne (by decide)]
      exact mSet_0 (fun m => by rw [mSet_ne (by decide), mSet_ne (by decide)]; exact z.2.2.1 m) m
    · intro m
      exact mSet_0 (fun m => by rw [mSet_ne (by decide), mSet_ne (by decide), mSet_ne (by decide)]; exact z.2.2.2 m) m
    · intro a ha
      rw [mSet_ne (by omega), mSet_ne (by omega), mSet_ne (by omega), mSet_ne (by omega)]
theorem NA_mv {n : Nat} {I' : rI0} {J' : rJ0} (h : NA n I J) (hi : I' n = I n) (hj : J' n = J n) : NA n I' J' := by
  unfold NA at h ⊢
  rw [hi, hj]
  exact h
theorem NB_mv {n : Nat} {I' : rI0} {J' : rJ0} (h : NB n I J) (hi : I' n = I n) (hj : J' n = J n) : NB n I' J' := by
  unfold NB at h ⊢
  rw [hi, hj]
  exact h
theorem reach_a {l1 : Int32} {Q : Int32 → rI0 → rJ0 → Prop} (h : DZ I J) (h6 : ¬ I 31 6 = 0) (hl : ¬ l1 < 0) (k : ∀ I' J', OffD I J I' J' → DZ I' J' → Q (if l1 = 0 then 0 else 1) I' J') : wp S (d + 3) 7 37 [some (.ref 31), some (.int l1), some (.int (I 31 6))] [] (wv x I J) (rI x Q) := by
  have fin : ∀ {I' : rI0} {J' : rJ0}, (I' 31 6 = 2 ∨ (I' 31 6 = 1 ∧ l1 < 1)) → OffD I J I' J' → DZ I' J' → Q (if 0 < (if ((I' 31 6) - 1) < l1 then (I' 31 6) - 1 else l1) then if ((I' 31 6) - 1) < l1 then (I' 31 6) - 1 else l1 else 0) I' J' := by
    intro I' J' h1 h2 h3
    have e := k I' J' h2 h3
    have : (if 0 < (if ((I' 31 6) - 1) < l1 then (I' 31 6) - 1 else l1) then if ((I' 31 6) - 1) < l1 then (I' 31 6) - 1 else l1 else 0) = (if l1 = 0 then 0 else 1) := by
      rcases h1 with h1 | ⟨h1, h4⟩
      · rw [h1, show (2 : Int32) - 1 = 1 from by decide]
        by_cases z : l1 = 0
        · subst z
          decide
        · rw [if_neg z]
          by_cases y : (1 : Int32) < l1
          · rw [if_pos y]
            decide
          · rw [if_neg y]
            have : l1 = 1 := by
              rw [← Int32.toInt_inj]
              rw [Int32.lt_iff_toInt_lt] at hl y
              have h0 : ¬ l1.toInt = 0 := fun q => z (Int32.toInt_inj.mp q)
              have e0 : (0 : Int32).toInt = 0 := by decide
              have e1 : (1 : Int32).toInt = 1 := by decide
              omega
            subst this
            decide
      · rw [h1, show (1 : Int32) - 1 = 0 from by decide]
        have : l1 = 0 := by
          rw [← Int32.toInt_inj]
          rw [Int32.lt_iff_toInt_lt] at hl h4
          have e0 : (0 : Int32).toInt = 0 := by decide
          have e1 : (1 : Int32).toInt = 1 := by decide
          omega
        subst this
        decide
    rw [this]
    exact e
  obtain ⟨hc, z32, z33, z34, z35, h0 | ⟨h1, hA⟩ | ⟨h2, hB⟩⟩ := id h
  · exact absurd h0 h6
  · rw [h1]
    refine v7_31_37 ⟨fun h3 => fin (Or.inr ⟨h1, h3⟩) OffD.rf h, fun h3 => ⟨fun h4 => absurd h4 (by decide), fun _ => ⟨fun _ => ?_, fun h4 => absurd hA.2.2.2.1 h4⟩⟩⟩
    refine step0_36 hc hA (fun I1 J1 hO hB => ?_)
    refine keep0 (n := 1) (by omega) ((congrFun (hO.1 31 (by decide)) 6).trans h1) ⟨fun m => (congrFun (hO.2 32 (by decide)) m).trans (z32 m), fun m => (congrFun (hO.2 33 (by decide)) m).trans (z33 m), fun m => (congrFun (hO.2 34 (by decide)) m).trans (z34 m), fun m => (congrFun (hO.2 35 (by decide)) m).trans (z35 m)⟩ hB.2 (fun J2 hz hJ => ?_)
    have o2 : OffD I J (mSet I1 31 6 (nI 2)) J2 := (OffD.of hO).tr ⟨fun a ha => mSet_ne (by omega), fun a ha => hJ a (by omega)⟩
    have d2 : DZ (mSet I1 31 6 (nI 2)) J2 := ⟨o2.cf hc, hz.1, hz.2.1, hz.2.2.1, hz.2.2.2, Or.inr (Or.inr ⟨rfl, NB_mv hB (mSet_ne (by decide)) (hJ 36 (by decide))⟩)⟩
    have f2 := fin (I' := mSet I1 31 6 (nI 2)) (J' := J2) (Or.inl rfl) o2 d2
    exact v7_31_37 ⟨fun _ => f2, fun _ => ⟨fun _ => f2, fun _ => ⟨fun h4 => absurd (d2.2.2.2.2.2.elim (fun q => absurd (q.symm.trans (show mSet I1 31 6 (nI 2) 31 6 = 2 from rfl)) (by decide)) (fun q => q.elim (fun q => absurd (q.1.symm.trans (show mSet I1 31 6 (nI 2) 31 6 = 2 from rfl)) (by decide)) (fun q => q.2.1.symm.trans h4))) (by decide), fun _ => f2⟩⟩⟩
  · have f2 := fin (Or.inl h2) OffD.rf h
    rw [h2]
    exact v7_31_37 ⟨fun _ => f2, fun _ => ⟨fun _ => f2, fun _ => ⟨fun h4 => absurd (hB.1.symm.trans h4) (by decide), fun _ => f2⟩⟩⟩
theorem reach0 {t : Int32} {Q : Int32 → rI0 → rJ0 → Prop} (h : DZ I J) (hl : ¬ t < 0) (k : ∀ I' J', OffD I J I' J' → DZ I' J' → Q (if t = 0 then 0 else 1) I' J') : wcI S (d + 4) 7 [.ref 31, .int t] x I J Q := by
  obtain ⟨hc, z32, z33, z34, z35, -⟩ := id h
  refine c7_31 ⟨fun h0 => ?_, fun h0 => reach_a h h0 hl k⟩
  refine begin0_36 hc hc.2.2.2.2.2.2.2.1 hc.2.2.2.2.2.2.2.2 (fun I1 J1 hO hA => ?_)
  refine keep0 (n := 0) (by omega) ((congrFun (hO.1 31 (by decide)) 6).trans h0) ⟨fun m => (congrFun (hO.2 32 (by decide)) m).trans (z32 m), fun m => (congrFun (hO.2 33 (by decide)) m).trans (z33 m), fun m => (congrFun (hO.2 34 (by decide)) m).trans (z34 m), fun m => (congrFun (hO.2 35 (by decide)) m).trans (z35 m)⟩ ⟨hA.2.2.2.2.2.2.2.1, hA.2.2.2.2.2.2.2.2.1, hA.2.2.2.2.2.2.2.2.2.1, hA.2.2.2.2.2.2.2.2.2.2⟩ (fun J2 hz hJ => ?_)
  have o2 : OffD I J (mSet I1 31 6 (nI 1)) J2 := (OffD.of hO).tr ⟨fun a ha => mSet_ne (by omega), fun a ha => hJ a (by omega)⟩
  refine reach_a ⟨o2.cf hc, hz.1, hz.2.1, hz.2.2.1, hz.2.2.2, Or.inr (Or.inl ⟨rfl, NA_mv hA (mSet_ne (by decide)) (hJ 36 (by decide))⟩)⟩ (by show ¬ nI 1 = 0; decide) hl (fun I3 J3 h3 h4 => k I3 J3 (o2.tr h3) h4)
theorem r_in {t : Int32} : ¬ mOut (if t = 0 then (0 : Int32) else 1) 601 := by
  by_cases z : t = 0
  · rw [if_pos z]; decide
  · rw [if_neg z]; decide
theorem height_lp {Q : Int32 → rI0 → rJ0 → Prop} : ∀ (m c : Nat) (I : rI0) (J : rJ0), c + m = 61 → DZ I J → (∀ I' J', OffD I J I' J' → DZ I' J' → Q 0 I' J') → wp S (d + 5) 10 4 [some (.ref 31), some (.int 0), some (.int (nI c))] [] (wv x I J) (rI x Q) := by
  intro m
  induction m with
  | zero =>
    intro c I J hc h k
    have hc : c = 61 := by omega
    subst hc
    exact v10_31_4 ⟨fun _ => k I J OffD.rf h, fun h1 => absurd (by decide) h1⟩
  | succ m ih =>
    intro c I J hc h k
    refine v10_31_4 ⟨fun h1 => absurd h1 (nI_nlt (a := 60) (b := c) (by omega) (by omega)), fun _ => reach0 h (nI_pos (by omega)) (fun I1 J1 o1 d1 => ⟨r_in, bc0 (d1.2.2.1 _) ?_⟩)⟩
    rw [if_neg (by decide), ← nI_succ]
    exact ih (c + 1) I1 J1 (by omega) d1 (fun I2 J2 o2 d2 => k I2 J2 (o1.tr o2) d2)
theorem height0 {Q : Int32 → rI0 → rJ0 → Prop} (h : DZ I J) (k : ∀ I' J', OffD I J I' J' → DZ I' J' → Q 0 I' J') : wcI S (d + 5) 10 [.ref 31] x I J Q := c10_31 (height_lp 61 0 I J rfl h k)
theorem isUp0 {p : Int32} {Q : Int32 → rI0 → rJ0 → Prop} (h : DZ I J) (hp : ¬ mOut p 601) (k : Q 0 I J) : wcI S (d + 1) 9 [.ref 31, .int p] x I J Q :=
  c9_31 ⟨fun _ => k, fun _ => ⟨fun _ => ⟨hp, bc0 (h.2.2.1 _) ⟨fun _ => k, fun h1 => absurd (by rw [h.1.2.2.1]; decide) h1⟩⟩, fun _ => k⟩⟩
theorem pair_lp {l1 : Int32} {Q : Int32 → rI0 → rJ0 → Prop} (hj : J 4 5 = 0) (k : Q (-1) I J) : ∀ m c : Nat, c + m = 64 → wp S (d + 1) 97 10 [some (.ref 37), some (.int l1), some (.ref 4), some (.int (nI c)), none, none] [] (wv x I J) (rI x Q) := by
  intro m
  induction m with
  | zero =>
    intro c hc
    have hc : c = 64 := by omega
    subst hc
    exact v97_37_10 ⟨fun h => absurd h (by decide), fun _ => k⟩
  | succ m ih =>
    intro c hc
    have h := ih (c + 1) (by omega)
    rw [nI_succ] at h
    exact v97_37_10 ⟨fun _ => v97_37_21 ⟨fun _ => isSeat0 hj ⟨fun _ => h, fun h1 => absurd rfl h1⟩, fun _ => h⟩, fun h1 => absurd (nI_lt (by omega) (by omega) : nI c < nI 64) h1⟩
theorem firstPair0 {p : Int32} {Q : Int32 → rI0 → rJ0 → Prop} (hj : J 4 5 = 0) (k : Q (-1) I J) : wcI S (d + 1) 97 [.ref 37, .int p] x I J Q := c97_37 (pair_lp hj k 64 0 rfl)
theorem isLarge0 {Q : Int32 → rI0 → rJ0 → Prop} (hj : J 4 5 = 0) (k : Q 0 I J) : wcI S (d + 1) 140 [.ref 0] x I J Q := c140_0 (bc0 hj ⟨fun h => absurd h (by decide), fun _ => k⟩)
end P1C
end
section
/-! THE REFERENCE ON AN EMPTY EVENING -/
section P1M
variable {S : Nat × (Nat → Int32)} {d : Nat} {x : mX} {I : rI0} {J : rJ0}
theorem bits0 {p : Int64} {Q : Int32 → rI0 → rJ0 → Prop} (hp : p = 0) (k : Q 0 I J) : wcI S d 154 [.long p] x I J Q := by
  subst hp
  refine c154 ?_
  have e : ∀ v : Int32, v = 0 → Q v I J := fun v h => h ▸ k
  exact e _ (by decide +kernel)
theorem inY {p a b : Int32} {Q : Int32 → rI0 → rJ0 → Prop} (h0 : ¬ p < a) (h1 : ¬ b < p) (k : Q 1 I J) : wcI S d 151 [.int p, .int a, .int b] x I J Q := c151 ⟨fun h => absurd h h0, fun _ => ⟨fun h => absurd h h1, fun _ => k⟩⟩
theorem inN {p a b : Int32} {Q : Int32 → rI0 → rJ0 → Prop} (h : p < a ∨ b < p) (k : Q 0 I J) : wcI S d 151 [.int p, .int a, .int b] x I J Q := c151 ⟨fun _ => k, fun h1 => ⟨fun _ => k, fun h2 => absurd h (fun z => z.elim h1 h2)⟩⟩
theorem momY {p : Int32} {Q : Int32 → rI0 → rJ0 → Prop} (h0 : ¬ p < 0) (h1 : ¬ 600 < p) (k : Q 1 I J) : wcI S (d + 1) 203 [.int p] x I J Q := c203 (inY h0 h1 ⟨Or.inr rfl, k⟩)
theorem momN {p : Int32} {Q : Int32 → rI0 → rJ0 → Prop} (h : p < 0 ∨ 600 < p) (k : Q 0 I J) : wcI S (d + 1) 203 [.int p] x I J Q := c203 (inN h ⟨Or.inl rfl, k⟩)
theorem mo0 : ¬ mOut (0 : Int32) 681 := by decide
theorem mo1' : ¬ mOut (1 : Int32) 681 := by decide
theorem mo2' : ¬ mOut (2 : Int32) 681 := by decide
theorem mo3' : ¬ mOut (3 : Int32) 681 := by decide
theorem mo4' : ¬ mOut (4 : Int32) 681 := by decide
theorem mo590 : ¬ mOut (590 : Int32) 681 := by decide
def MFr (g : Nat → Int32) : Prop := g ((0 : Int32).toNatClampNeg) = 0 ∧ g ((1 : Int32).toNatClampNeg) = 0 ∧ g ((2 : Int32).toNatClampNeg) = 0 ∧ g ((3 : Int32).toNatClampNeg) = 1 ∧ g ((4 : Int32).toNatClampNeg) = 600 ∧ g ((5 : Int32).toNatClampNeg) = 0 ∧ g ((590 : Int32).toNatClampNeg) = 0
theorem any_out (p : Int32) : p < 0 ∨ ((0 : Int32) * 0 - 1) < p := by
  rw [Int32.lt_iff_toInt_lt, Int32.lt_iff_toInt_lt]
  have e0 : (0 : Int32).toInt = 0 := by decide
  have e1 : ((0 : Int32) * 0 - 1).toInt = -1 := by decide
  omega
theorem mSeat0 {p : Int32} {Q : Int32 → rI0 → rJ0 → Prop} (h : MFr (I 45)) (k : Q 0 I J) : wcI S (d + 1) 183 [.ref 43, .int p] x I J Q := by
  refine c183_43 ⟨mo0, mo1', ?_⟩
  rw [h.1, h.2.1]
  exact inN (any_out p) ⟨fun _ => k, fun h1 => absurd rfl h1⟩
theorem layOut0 {Q : rI0 → rJ0 → Prop} (h : MFr (I 45)) (k1 : Q I J) (k2 : Q (mSet I 43 30 0) J) : wcV S (d + 1) 186 [.ref 43] x I J Q := by
  have e : ¬ (0 : Int32) < (I 45 ((0 : Int32).toNatClampNeg)) * (I 45 ((1 : Int32).toNatClampNeg)) := by rw [h.1, h.2.1]; decide
  exact c186_43 ⟨fun _ => k1, fun _ => v186_43_17 ⟨mo0, mo1', fun h1 => absurd h1 e, fun _ => v186_43_64 ⟨mo0, mo1', fun h1 => absurd h1 e, fun _ => k2⟩⟩⟩
/-- the reference's night on an empty evening -/
def MZ (I : rI0) (J : rJ0) : Prop := MFr (I 45) ∧ I 43 43 = 0 ∧ J 43 16 = 0 ∧ J 43 17 = 0 ∧ J 43 38 = 0 ∧ J 43 39 = 0 ∧ (∀ m, J 52 m = 0) ∧ (∀ m, J 53 m = 0) ∧ (∀ m, J 54 m = 0) ∧ (∀ m, J 55 m = 0)
def MB (I : rI0) (J : rJ0) : Prop := MFr (I 45) ∧ J 43 16 = 0 ∧ J 43 17 = 0 ∧ (∀ m, J 52 m = 0) ∧ (∀ m, J 53 m = 0) ∧ (∀ m, J 54 m = 0) ∧ (∀ m, J 55 m = 0)
theorem MZ.b (h : MZ I J) : MB I J := ⟨h.1, h.2.2.1, h.2.2.2.1, h.2.2.2.2.2.2⟩
/-- what a night leaves of the reference's own ints -/
def FrM (I I' : rI0) : Prop := I' 45 = I 45 ∧ ∀ k, k ≠ 30 → k ≠ 42 → k ≠ 43 → k ≠ 44 → k ≠ 45 → I' 43 k = I 43 k
theorem FrM.rf : FrM I I := ⟨rfl, fun _ _ _ _ _ _ => rfl⟩
theorem FrM.tr {I1 I2 : rI0} (h : FrM I I1) (h2 : FrM I1 I2) : FrM I I2 := ⟨h2.1.trans h.1, fun k a b c e f => (h2.2 k a b c e f).trans (h.2 k a b c e f)⟩
theorem mSet_fld {f : rI0} {a n k : Nat} {v : Int32} (h : k ≠ n) : mSet f a n v a k = f a k := by
  unfold mSet va_up
  rw [if_pos rfl, if_neg h]
theorem FrM.set {n : Nat} {v : Int32} (hn : n = 30 ∨ n = 42 ∨ n = 43 ∨ n = 44 ∨ n = 45) : FrM I (mSet I 43 n v) := ⟨mSet_ne (by decide), fun k a b c e f => mSet_fld (by omega)⟩
theorem mbegin0 {p q : Int64} {Q : rI0 → rJ0 → Prop} (h : MB I J) (k : ∀ I' J', MZ I' J' → I' 43 42 = nI 0 → FrM I I' → Q I' J') : wcV S (d + 2) 199 [.ref 43, .long p, .long q] x I J Q := by
  obtain ⟨h1, h2, h3, h4, h5, h6, h7⟩ := h
  refine c199_43 (layOut0 h1 ?_ ?_)
  · exact k _ _ ⟨h1, rfl, h2, h3, rfl, rfl, h4, h5, h6, h7⟩ rfl ((FrM.set (by omega)).tr (FrM.set (by omega)))
  · exact k _ _ ⟨h1, rfl, h2, h3, rfl, rfl, h4, h5, h6, h7⟩ rfl ((FrM.set (by omega)).tr ((FrM.set (by omega)).tr (FrM.set (by omega))))
theorem moment0 {t : Nat} {Q : rI0 → rJ0 → Prop} (ht : t ≤ 600) (h : MZ I J) (h42 : I 43 42 = nI t) (k : ∀ J', MZ (mSet I 43 42 (nI (t + 1))) J' → Q (mSet I 43 42 (nI (t + 1))) J') : wcV S (d + 1) 200 [.ref 43] x I J Q := by
  obtain ⟨h1, h43, h2, h3, h38, h39, h4, h5, h6, h7⟩ := h
  have hin : ¬ mOut (I 43 42) 601 := by rw [h42]; exact nI_in (by omega) (by omega)
  refine c200_43 (v200_43_7 ⟨mo590, fun q => absurd q (by rw [h43, h1.2.2.2.2.2.2]; decide), fun _ => v200_43_176 (v200_43_202 ⟨mo0, fun q => absurd q (by rw [h1.1]; decide), fun _ => ⟨hin, hin, hin, hin, ?_⟩⟩)⟩)
  rw [show I 43 42 + 1 = nI (t + 1) from by rw [h42, nI_succ]]
  refine k _ ⟨h1, h43, h2, h3, rfl, rfl, ?_, ?_, ?_, ?_⟩
  · intro m
    rw [mSet_ne (by decide), mSet_ne (by decide), mSet_ne (by decide)]
    exact mSet_0 (fun m => by rw [mSet_ne (by decide), mSet_ne (by decide), mSet_ne (by decide), mSet_ne (by decide)]; exact h4 m) m
  · intro m
    rw [mSet_ne (by decide), mSet_ne (by decide)]
    exact mSet_0 (fun m => by rw [mSet_ne (by decide), mSet_ne (by decide), mSet_ne (by decide), mSet_ne (by decide), mSet_ne (by decide)]; exact h5 m) m
  · intro m
    rw [mSet_ne (by decide)]
    exact mSet_0 (fun m => by rw [mSet_ne (by decide), mSet_ne (by decide), mSet_ne (by decide), mSet_ne (by decide), mSet_ne (by decide), mSet_ne (by decide)]; exact h6 m) m
  · intro m
    exact mSet_0 (fun m => by rw [mSet_ne (by decide), mSet_ne (by decide), mSet_ne (by decide), mSet_ne (by decide), mSet_ne (by decide), mSet_ne (by decide), mSet_ne (by decide)]; exact h7 m) m
theorem i_nat {l : Int32} {n : Nat} (hn : n < 2 ^ 31) (h0 : ¬ l < 0) (h1 : ¬ nI n < l) : ∃ t : Nat, t ≤ n ∧ l = nI t := by
  refine ⟨l.toNatClampNeg, ?_, ?_⟩
  · rw [Int32.lt_iff_toInt_lt] at h0 h1
    rw [nI_toInt hn] at h1
    have e0 : (0 : Int32).toInt = 0 := by decide
    have := Int32.toNat_toInt l
    omega
  · rw [← Int32.toInt_inj, nI_toInt (Int32.toNatClampNeg_lt l)]
    rw [Int32.lt_iff_toInt_lt] at h0
    have e0 : (0 : Int32).toInt = 0 := by decide
    have := Int32.toNat_toInt l
    omega
theorem mnight_lp {t : Nat} {Q : rI0 → rJ0 → Prop} (ht : t ≤ 600) : ∀ (m c : Nat) (I : rI0) (J : rJ0), c + m = t + 1 → MZ I J → I 43 42 = nI c → (∀ I' J', MZ I' J' → FrM I I' → Q I' J') → wp S (d + 2) 201 12 [some (.ref 43), some (.int (nI t))] [] (wv x I J) (rV x Q) := by
  intro m
  induction m with
  | zero =>
    intro c I J hc h h42 k
    have hc : c = t + 1 := by omega
    subst hc
    exact v201_43_12 ⟨fun _ => k I J h FrM.rf, fun q => absurd (by rw [h42]; exact nI_lt (by omega) (by omega)) q⟩
  | succ m ih =>
    intro c I J hc h h42 k
    refine v201_43_12 ⟨fun q => absurd q (by rw [h42]; exact nI_nlt (by omega) (by omega)), fun _ => moment0 (t := c) (by omega) h h42 (fun J1 h1 => ?_)⟩
    exact ih (c + 1) _ J1 (by omega) h1 rfl (fun I2 J2 h2 f2 => k I2 J2 h2 ((FrM.set (by omega)).tr f2))
theorem mnight0 {l : Int32} {Q : rI0 → rJ0 → Prop} (h : MB I J) (h0 : ¬ l < 0) (h1 : ¬ 600 < l) (k : ∀ I' J', MZ I' J' → FrM I I' → Q I' J') : wcV S (d + 3) 201 [.ref 43, .int l] x I J Q := by
  obtain ⟨t, ht, rfl⟩ := i_nat (n := 600) (by decide) h0 h1
  exact c201_43 (mbegin0 h (fun I1 J1 z1 g1 f1 => mnight_lp ht (t + 1) 0 I1 J1 (by omega) z1 g1 (fun I2 J2 z2 f2 => k I2 J2 z2 (f1.tr f2))))
theorem mheight_lp {l1 l3 : Int64} {Q : Int32 → rI0 → rJ0 → Prop} : ∀ (m c : Nat) (I : rI0) (J : rJ0), c + m = 61 → MZ I J → I 43 42 = nI c → I 43 44 = 0 → (∀ I' J', MZ I' J' → FrM I I' → I' 43 44 = 0 → I' 43 45 = 0 → Q 0 I' J') → wp S (d + 2) 202 11 [some (.ref 43), some (.long l1), none, some (.long l3), none, none] [] (wv x I J) (rI x Q) := by
  intro m
  induction m with
  | zero =>
    intro c I J hc h h42 h44 k
    have hc : c = 61 := by omega
    subst hc
    refine v202_43_11 ⟨fun _ => ⟨mo3', fun _ => ?_, fun q => absurd (by rw [h44, h.1.2.2.2.1]; decide) q⟩, fun q => absurd (by rw [h42]; decide) q⟩
    rw [h44]
    exact k _ J h (FrM.set (by omega)) h44 rfl
  | succ m ih =>
    intro c I J hc h h42 h44 k
    refine v202_43_11 ⟨fun q => absurd q (by rw [h42]; exact nI_nlt (a := 60) (by omega) (by omega)), fun _ => moment0 (t := c) (by omega) h h42 (fun J1 h1 => bits0 h1.2.2.2.2.2.1 ⟨fun q => absurd q ?_, fun _ => ?_⟩)⟩
    · show ¬ I 43 44 < 0
      rw [h44]
      decide
    · exact ih (c + 1) _ J1 (by omega) h1 rfl h44 (fun I2 J2 h2 f2 a2 b2 => k I2 J2 h2 ((FrM.set (by omega)).tr ((FrM.set (by omega)).tr f2)) a2 b2)
theorem mheight0 {p q : Int64} {Q : Int32 → rI0 → rJ0 → Prop} (h : MB I J) (k : ∀ I' J', MZ I' J' → FrM I I' → I' 43 44 = 0 → I' 43 45 = 0 → Q 0 I' J') : wcI S (d + 3) 202 [.ref 43, .long p, .long q] x I J Q :=
  c202_43 (mbegin0 h (fun I1 J1 z1 g1 f1 => mheight_lp 61 0 _ J1 rfl z1 g1 rfl (fun I2 J2 z2 f2 a2 b2 => k I2 J2 z2 (f1.tr ((FrM.set (by omega)).tr f2)) a2 b2)))
theorem mUp0 {p : Int32} {Q : Int32 → rI0 → rJ0 → Prop} (h : MZ I J) (hp : ¬ mOut p 601) (k : Q 0 I J) : wcI S (d + 1) 210 [.ref 43, .int p] x I J Q :=
  c210_43 ⟨hp, bits0 (h.2.2.2.2.2.2.2.1 _) ⟨mo3', fun _ => k, fun q => absurd (by rw [h.1.2.2.2.1]; decide) q⟩⟩
theorem areEight0 {Q : Int32 → rI0 → rJ0 → Prop} (h : I 43 2 = 0) (k : ∀ I', Q 0 I' J) : wcI S (d + 1) 217 [.ref 43] x I J Q := by
  refine c217_43 (c150_43 (inN (Or.inl ?_) ⟨fun _ => k _, fun q => absurd rfl q⟩))
  show I 43 2 < 1
  rw [h]
  decide
end P1M
end
