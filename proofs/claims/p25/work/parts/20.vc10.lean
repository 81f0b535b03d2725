set_option maxRecDepth 20000 in
theorem v22_4_16_0 {S : Nat × (Nat → Int32)} {d : Nat} {x : mX} {I : rI0} {J : rJ0} {Q : rI0 → rJ0 → Prop} (k : (((I 16 4) = 0 ∨ (I 16 4) = 1) ∧ ((¬ (0 : Int32) < 0 ∧ ¬ (0 : Int32) < 0 ∧ ¬ (64 : Int32) < 0 ∧ (0 : Int32).toNatClampNeg + (64 : Int32).toNatClampNeg ≤ 64 ∧ (0 : Int32).toNatClampNeg + (64 : Int32).toNatClampNeg ≤ 64) ∧ ∀ I1, I1 = va_up (mSet (mSet (mSet (mSet (mSet I 4 0 (I 16 0)) 4 1 (I 16 1)) 4 2 (I 16 2)) 4 3 (I 16 3)) 4 4 (I 16 4)) 5 (va_cpy ((mSet (mSet (mSet (mSet (mSet I 4 0 (I 16 0)) 4 1 (I 16 1)) 4 2 (I 16 2)) 4 3 (I 16 3)) 4 4 (I 16 4)) 17) ((mSet (mSet (mSet (mSet (mSet I 4 0 (I 16 0)) 4 1 (I 16 1)) 4 2 (I 16 2)) 4 3 (I 16 3)) 4 4 (I 16 4)) 5) (0 : Int32).toNatClampNeg (0 : Int32).toNatClampNeg (64 : Int32).toNatClampNeg) → ((¬ (0 : Int32) < 0 ∧ ¬ (0 : Int32) < 0 ∧ ¬ (6 : Int32) < 0 ∧ (0 : Int32).toNatClampNeg + (6 : Int32).toNatClampNeg ≤ 6 ∧ (0 : Int32).toNatClampNeg + (6 : Int32).toNatClampNeg ≤ 6) ∧ ∀ J2, J2 = va_up (mSet J 4 5 (J 16 5)) 6 (va_cpy ((mSet J 4 5 (J 16 5)) 18) ((mSet J 4 5 (J 16 5)) 6) (0 : Int32).toNatClampNeg (0 : Int32).toNatClampNeg (6 : Int32).toNatClampNeg) → ((¬ (0 : Int32) < 0 ∧ ¬ (0 : Int32) < 0 ∧ ¬ (8 : Int32) < 0 ∧ (0 : Int32).toNatClampNeg + (8 : Int32).toNatClampNeg ≤ 8 ∧ (0 : Int32).toNatClampNeg + (8 : Int32).toNatClampNeg ≤ 8) ∧ ∀ I3, I3 = va_up I1 7 (va_cpy (I1 19) (I1 7) (0 : Int32).toNatClampNeg (0 : Int32).toNatClampNeg (8 : Int32).toNatClampNeg) → ((¬ (0 : Int32) < 0 ∧ ¬ (0 : Int32) < 0 ∧ ¬ (8 : Int32) < 0 ∧ (0 : Int32).toNatClampNeg + (8 : Int32).toNatClampNeg ≤ 8 ∧ (0 : Int32).toNatClampNeg + (8 : Int32).toNatClampNeg ≤ 8) ∧ ∀ I4, I4 = va_up I3 8 (va_cpy (I3 20) (I3 8) (0 : Int32).toNatClampNeg (0 : Int32).toNatClampNeg (8 : Int32).toNatClampNeg) → ((¬ (0 : Int32) < 0 ∧ ¬ (0 : Int32) < 0 ∧ ¬ (12 : Int32) < 0 ∧ (0 : Int32).toNatClampNeg + (12 : Int32).toNatClampNeg ≤ 12 ∧ (0 : Int32).toNatClampNeg + (12 : Int32).toNatClampNeg ≤ 12) ∧ ∀ I5, I5 = va_up I4 9 (va_cpy (I4 21) (I4 9) (0 : Int32).toNatClampNeg (0 : Int32).toNatClampNeg (12 : Int32).toNatClampNeg) → ((¬ (0 : Int32) < 0 ∧ ¬ (0 : Int32) < 0 ∧ ¬ (240 : Int32) < 0 ∧ (0 : Int32).toNatClampNeg + (240 : Int32).toNatClampNeg ≤ 240 ∧ (0 : Int32).toNatClampNeg + (240 : Int32).toNatClampNeg ≤ 240) ∧ ∀ I6, I6 = va_up I5 10 (va_cpy (I5 22) (I5 10) (0 : Int32).toNatClampNeg (0 : Int32).toNatClampNeg (240 : Int32).toNatClampNeg) → ((¬ (0 : Int32) < 0 ∧ ¬ (0 : Int32) < 0 ∧ ¬ (384 : Int32) < 0 ∧ (0 : Int32).toNatClampNeg + (384 : Int32).toNatClampNeg ≤ 384 ∧ (0 : Int32).toNatClampNeg + (384 : Int32).toNatClampNeg ≤ 384) ∧ ∀ J7, J7 = va_up J2 11 (va_cpy (J2 23) (J2 11) (0 : Int32).toNatClampNeg (0 : Int32).toNatClampNeg (384 : Int32).toNatClampNeg) → Q I6 J7))))))))) : wp S (d + 1) 22 0 [some (.ref 4), some (.ref 16)] [] (wv x I J) (rV x Q) := by
  refine wp_seg (C := gC22) (pc1 := 24) (Lo1 := [some (.ref 4), some (.ref 16)]) (st1' := []) (w1 := (wv x (mSet (mSet (mSet I 4 0 (I 16 0)) 4 1 (I 16 1)) 4 2 (I 16 2)) J)) hC22 12 rfl ?_
  refine wp_seg (C := gC22) (pc1 := 37) (Lo1 := [some (.ref 4), some (.ref 16)]) (st1' := [.int (I 16 4), .ref 4]) (w1 := (wv x (mSet (mSet (mSet (mSet I 4 0 (I 16 0)) 4 1 (I 16 1)) 4 2 (I 16 2)) 4 3 (I 16 3)) J)) hC22 7 rfl ?_
  refine wz_put (ci := 3) (k := 4) rfl rfl rfl ⟨rfl, rfl⟩ k.1 ?_
  have k := k.2
  refine wp_seg (C := gC22) (pc1 := 60) (Lo1 := [some (.ref 4), some (.ref 16)]) (st1' := [.int (64 : Int32), .int (0 : Int32), .ref 5, .int (0 : Int32), .ref 17]) (w1 := (wv x (mSet (mSet (mSet (mSet (mSet I 4 0 (I 16 0)) 4 1 (I 16 1)) 4 2 (I 16 2)) 4 3 (I 16 3)) 4 4 (I 16 4)) (mSet J 4 5 (J 16 5)))) hC22 11 rfl ?_
  refine wq_cpI (n0 := 64) (n1 := 64) rfl rfl rfl rfl k.1 (Nat.le_of_ble_eq_true rfl) ?_
  obtain ⟨I1, eI1⟩ : ∃ z, z = va_up (mSet (mSet (mSet (mSet (mSet I 4 0 (I 16 0)) 4 1 (I 16 1)) 4 2 (I 16 2)) 4 3 (I 16 3)) 4 4 (I 16 4)) 5 (va_cpy ((mSet (mSet (mSet (mSet (mSet I 4 0 (I 16 0)) 4 1 (I 16 1)) 4 2 (I 16 2)) 4 3 (I 16 3)) 4 4 (I 16 4)) 17) ((mSet (mSet (mSet (mSet (mSet I 4 0 (I 16 0)) 4 1 (I 16 1)) 4 2 (I 16 2)) 4 3 (I 16 3)) 4 4 (I 16 4)) 5) (0 : Int32).toNatClampNeg (0 : Int32).toNatClampNeg (64 : Int32).toNatClampNeg) := ⟨_, rfl⟩
  have k := k.2 I1 eI1
  rw [← eI1]
  refine wp_seg (C := gC22) (pc1 := 75) (Lo1 := [some (.ref 4), some (.ref 16)]) (st1' := [.int (6 : Int32), .int (0 : Int32), .ref 6, .int (0 : Int32), .ref 18]) (w1 := (wv x I1 (mSet J 4 5 (J 16 5)))) hC22 7 rfl ?_
  refine wq_cpJ (n0 := 6) (n1 := 6) rfl rfl rfl rfl k.1 (Nat.le_of_ble_eq_true rfl) ?_
  obtain ⟨J2, eJ2⟩ : ∃ z, z = va_up (mSet J 4 5 (J 16 5)) 6 (va_cpy ((mSet J 4 5 (J 16 5)) 18) ((mSet J 4 5 (J 16 5)) 6) (0 : Int32).toNatClampNeg (0 : Int32).toNatClampNeg (6 : Int32).toNatClampNeg) := ⟨_, rfl⟩
  have k := k.2 J2 eJ2
  rw [← eJ2]
  refine wp_seg (C := gC22) (pc1 := 90) (Lo1 := [some (.ref 4), some (.ref 16)]) (st1' := [.int (8 : Int32), .int (0 : Int32), .ref 7, .int (0 : Int32), .ref 19]) (w1 := (wv x I1 J2)) hC22 7 rfl ?_
  refine wq_cpI (n0 := 8) (n1 := 8) rfl rfl rfl rfl k.1 (Nat.le_of_ble_eq_true rfl) ?_
  obtain ⟨I3, eI3⟩ : ∃ z, z = va_up I1 7 (va_cpy (I1 19) (I1 7) (0 : Int32).toNatClampNeg (0 : Int32).toNatClampNeg (8 : Int32).toNatClampNeg) := ⟨_, rfl⟩
  have k := k.2 I3 eI3
  rw [← eI3]
  refine wp_seg (C := gC22) (pc1 := 105) (Lo1 := [some (.ref 4), some (.ref 16)]) (st1' := [.int (8 : Int32), .int (0 : Int32), .ref 8, .int (0 : Int32), .ref 20]) (w1 := (wv x I3 J2)) hC22 7 rfl ?_
  refine wq_cpI (n0 := 8) (n1 := 8) rfl rfl rfl rfl k.1 (Nat.le_of_ble_eq_true rfl) ?_
  obtain ⟨I4, eI4⟩ : ∃ z, z = va_up I3 8 (va_cpy (I3 20) (I3 8) (0 : Int32).toNatClampNeg (0 : Int32).toNatClampNeg (8 : Int32).toNatClampNeg) := ⟨_, rfl⟩
  have k := k.2 I4 eI4
  rw [← eI4]
  refine wp_seg (C := gC22) (pc1 := 120) (Lo1 := [some (.ref 4), some (.ref 16)]) (st1' := [.int (12 : Int32), .int (0 : Int32), .ref 9, .int (0 : Int32), .ref 21]) (w1 := (wv x I4 J2)) hC22 7 rfl ?_
  refine wq_cpI (n0 := 12) (n1 := 12) rfl rfl rfl rfl k.1 (Nat.le_of_ble_eq_true rfl) ?_
  obtain ⟨I5, eI5⟩ : ∃ z, z = va_up I4 9 (va_cpy (I4 21) (I4 9) (0 : Int32).toNatClampNeg (0 : Int32).toNatClampNeg (12 : Int32).toNatClampNeg) := ⟨_, rfl⟩
  have k := k.2 I5 eI5
  rw [← eI5]
  refine wp_seg (C := gC22) (pc1 := 136) (Lo1 := [some (.ref 4), some (.ref 16)]) (st1' := [.int (240 : Int32), .int (0 : Int32), .ref 10, .int (0 : Int32), .ref 22]) (w1 := (wv x I5 J2)) hC22 7 rfl ?_
  refine wq_cpI (n0 := 240) (n1 := 240) rfl rfl rfl rfl k.1 (Nat.le_of_ble_eq_true rfl) ?_
  obtain ⟨I6, eI6⟩ : ∃ z, z = va_up I5 10 (va_cpy (I5 22) (I5 10) (0 : Int32).toNatClampNeg (0 : Int32).toNatClampNeg (240 : Int32).toNatClampNeg) := ⟨_, rfl⟩
  have k := k.2 I6 eI6
  rw [← eI6]
  refine wp_seg (C := gC22) (pc1 := 152) (Lo1 := [some (.ref 4), some (.ref 16)]) (st1' := [.int (384 : Int32), .int (0 : Int32), .ref 11, .int (0 : Int32), .ref 23]) (w1 := (wv x I6 J2)) hC22 7 rfl ?_
  refine wq_cpJ (n0 := 384) (n1 := 384) rfl rfl rfl rfl k.1 (Nat.le_of_ble_eq_true rfl) ?_
  obtain ⟨J7, eJ7⟩ : ∃ z, z = va_up J2 11 (va_cpy (J2 23) (J2 11) (0 : Int32).toNatClampNeg (0 : Int32).toNatClampNeg (384 : Int32).toNatClampNeg) := ⟨_, rfl⟩
  have k := k.2 J7 eJ7
  rw [← eJ7]
  exact we_v rfl rfl k
set_option maxRecDepth 20000 in
theorem v3_30_0 {S : Nat × (Nat → Int32)} {d : Nat} {x : mX} {I : rI0} {J : rJ0} {Q : Int32 → rI0 → rJ0 → Prop} (k : (wcI S d 73 [.ref 28, .ref 1000004] x I J (fun r1 I1 J1 => ((r1 = (-1 : Int32) → (wcI S d 75 [.ref 28, .int (1 : Int32)] x I1 J1 (fun r2 I2 J2 => ((r2 = 0 ∨ r2 = 1) ∧ Q r2 I2 J2)))) ∧ (¬ r1 = (-1 : Int32) → (((I 15 4) < (30 : Int32) → (wcV S d 70 [.ref 28] x I1 J1 (fun I3 J3 => (((0 : Int32) < (I 15 4) → (¬ mOut ((I 15 4) - (1 : Int32)) 30 ∧ wp S (d + 1) 3 71 [some (.ref 30), some (.int (I 15 4)), none, none] [.int (I3 24 (((I 15 4) - (1 : Int32)).toNatClampNeg))] (wv x I3 J3) (rI x Q))) ∧ (¬ (0 : Int32) < (I 15 4) → wp S (d + 1) 3 71 [some (.ref 30), some (.int (I 15 4)), none, none] [.int (0 : Int32)] (wv x I3 J3) (rI x Q)))))) ∧ (¬ (I 15 4) < (30 : Int32) → (wcI S d 75 [.ref 28, .int (4 : Int32)] x I1 J1 (fun r4 I4 J4 => ((r4 = 0 ∨ r4 = 1) ∧ Q r4 I4 J4)))))))))) : wp S (d + 1) 3 0 [some (.ref 30), none, none, none] [] (wv x I J) (rI x Q) := by
  refine wp_seg (C := gC3) (pc1 := 14) (Lo1 := [some (.ref 30), some (.int (I 15 4)), none, none]) (st1' := [.ref 1000004, .ref 28]) (w1 := (wv x I J)) hC3 7 rfl ?_
  refine cv_I (mj := 73) (a := 28) (as := [.ref 1000004]) (r := []) rfl rfl rfl ⟨rfl, by decide, Nat.le_of_ble_eq_true rfl, Nat.le_of_ble_eq_true rfl⟩ rfl (wcI_mono k (fun r1 I1 J1 k => ?_))
  refine wp_seg (C := gC3) (pc1 := 18) (Lo1 := [some (.ref 30), some (.int (I 15 4)), none, none]) (st1' := [.int (-1 : Int32), .int r1]) (w1 := (wv x I1 J1)) hC3 1 rfl ?_
  refine wj_ne (tgt := 30) rfl rfl (fun h => ?_) (fun h => ?_)
  · have k := k.1 h
    refine wp_seg (C := gC3) (pc1 := 26) (Lo1 := [some (.ref 30), some (.int (I 15 4)), none, none]) (st1' := [.int (1 : Int32), .ref 28]) (w1 := (wv x I1 J1)) hC3 3 rfl ?_
    refine cv_I (mj := 75) (a := 28) (as := [.int (1 : Int32)]) (r := []) rfl rfl rfl ⟨rfl, by decide, Nat.le_of_ble_eq_true rfl, Nat.le_of_ble_eq_true rfl⟩ rfl (wcI_mono k (fun r2 I2 J2 k => ?_))
    exact we_z rfl rfl k.1 k.2
  · have k := k.2 h
    refine wp_seg (C := gC3) (pc1 := 33) (Lo1 := [some (.ref 30), some (.int (I 15 4)), none, none]) (st1' := [.int (30 : Int32), .int (I 15 4)]) (w1 := (wv x I1 J1)) hC3 2 rfl ?_
    refine wj_lt (tgt := 45) rfl rfl (fun h => ?_) (fun h => ?_)
    · have k := k.1 h
      refine wp_seg (C := gC3) (pc1 := 49) (Lo1 := [some (.ref 30), some (.int (I 15 4)), none, none]) (st1' := [.ref 28]) (w1 := (wv x I1 J1)) hC3 2 rfl ?_
      refine cv_V (mj := 70) (a := 28) (as := []) (r := []) rfl rfl rfl ⟨rfl, by decide, Nat.le_of_ble_eq_true rfl, Nat.le_of_ble_eq_true rfl⟩ rfl (wcV_mono k (fun I3 J3 k => ?_))
      refine wp_seg (C := gC3) (pc1 := 53) (Lo1 := [some (.ref 30), some (.int (I 15 4)), none, none]) (st1' := [.int (I 15 4)]) (w1 := (wv x I3 J3)) hC3 1 rfl ?_
      refine wi_le (tgt := 70) rfl rfl (fun h => ?_) (fun h => ?_)
      · have k := k.1 h
        refine wp_seg (C := gC3) (pc1 := 66) (Lo1 := [some (.ref 30), some (.int (I 15 4)), none, none]) (st1' := [.int ((I 15 4) - (1 : Int32)), .ref 24]) (w1 := (wv x I3 J3)) hC3 6 rfl ?_
        refine wa_i (n := 30) rfl (by decide) rfl k.1 ?_
        have k := k.2
        refine wp_seg (C := gC3) (pc1 := 71) (Lo1 := [some (.ref 30), some (.int (I 15 4)), none, none]) (st1' := [.int (I3 24 (((I 15 4) - (1 : Int32)).toNatClampNeg))]) (w1 := (wv x I3 J3)) hC3 1 rfl ?_
        exact k
      · have k := k.2 h
        refine wp_seg (C := gC3) (pc1 := 71) (Lo1 := [some (.ref 30), some (.int (I 15 4)), none, none]) (st1' := [.int (0 : Int32)]) (w1 := (wv x I3 J3)) hC3 1 rfl ?_
        exact k
    · have k := k.2 h
      refine wp_seg (C := gC3) (pc1 := 41) (Lo1 := [some (.ref 30), some (.int (I 15 4)), none, none]) (st1' := [.int (4 : Int32), .ref 28]) (w1 := (wv x I1 J1)) hC3 3 rfl ?_
      refine cv_I (mj := 75) (a := 28) (as := [.int (4 : Int32)]) (r := []) rfl rfl rfl ⟨rfl, by decide, Nat.le_of_ble_eq_true rfl, Nat.le_of_ble_eq_true rfl⟩ rfl (wcI_mono k (fun r4 I4 J4 k => ?_))
      exact we_z rfl rfl k.1 k.2
set_option maxRecDepth 20000 in
theorem v3_30_71 {S : Nat × (Nat → Int32)} {d : Nat} {x : mX} {I : rI0} {J : rJ0} {l1 : Int32} {s0 : Int32} {Q : Int32 → rI0 → rJ0 → Prop} (k : (wcI S d 77 [.ref 28, .int s0, .int (600 : Int32)] x I J (fun r1 I1 J1 => ((r1 = (0 : Int32) → Q (0 : Int32) I1 J1) ∧ (¬ r1 = (0 : Int32) → (¬ mOut l1 30 ∧ (wcI S d 73 [.ref 28, .ref 1000005] x (mSet I1 24 l1.toNatClampNeg (I1 28 7)) J1 (fun r2 I2 J2 => ((r2 = (-1 : Int32) → (wcI S d 75 [.ref 28, .int (1 : Int32)] x I2 J2 (fun r3 I3 J3 => ((r3 = 0 ∨ r3 = 1) ∧ Q r3 I3 J3)))) ∧ (¬ r2 = (-1 : Int32) → (¬ mOut l1 30 ∧ (¬ mOut l1 30 ∧ (wcV S d 70 [.ref 28] x (mSet (mSet I2 25 l1.toNatClampNeg r2) 26 l1.toNatClampNeg (-1 : Int32)) J2 (fun I4 J4 => ((r2 = (3 : Int32) → (wcI S d 78 [.ref 28, .int (59 : Int32)] x (mSet I4 15 4 (l1 + (1 : Int32))) J4 (fun r5 I5 J5 => ((r5 = 0 ∨ r5 = 1) ∧ Q r5 I5 J5)))) ∧ (¬ r2 = (3 : Int32) → (wcI S d 4 [.ref 30, .int l1] x I4 J4 (fun r6 I6 J6 => ((r6 = (0 : Int32) → Q (0 : Int32) I6 J6) ∧ (¬ r6 = (0 : Int32) → (wcI S d 78 [.ref 28, .int (59 : Int32)] x (mSet I6 15 4 (l1 + (1 : Int32))) J6 (fun r7 I7 J7 => ((r7 = 0 ∨ r7 = 1) ∧ Q r7 I7 J7))))))))))))))))))))))) : wp S (d + 1) 3 71 [some (.ref 30), some (.int l1), none, none] [.int s0] (wv x I J) (rI x Q) := by
  refine wp_seg (C := gC3) (pc1 := 80) (Lo1 := [some (.ref 30), some (.int l1), some (.int s0), none]) (st1' := [.int (600 : Int32), .int s0, .ref 28]) (w1 := (wv x I J)) hC3 5 rfl ?_
  refine cv_I (mj := 77) (a := 28) (as := [.int s0, .int (600 : Int32)]) (r := []) rfl rfl rfl ⟨rfl, by decide, Nat.le_of_ble_eq_true rfl, Nat.le_of_ble_eq_true rfl⟩ rfl (wcI_mono k (fun r1 I1 J1 k => ?_))
  refine wi_ne (tgt := 88) rfl rfl (fun h => ?_) (fun h => ?_)
  · have k := k.1 h
    refine wp_seg (C := gC3) (pc1 := 87) (Lo1 := [some (.ref 30), some (.int l1), some (.int s0), none]) (st1' := [.int (0 : Int32)]) (w1 := (wv x I1 J1)) hC3 1 rfl ?_
    exact we_z rfl rfl (Or.inl rfl) k
  · have k := k.2 h
    refine wp_seg (C := gC3) (pc1 := 103) (Lo1 := [some (.ref 30), some (.int l1), some (.int s0), none]) (st1' := [.int (I1 28 7), .int l1, .ref 24]) (w1 := (wv x I1 J1)) hC3 7 rfl ?_
    refine ws_i (n := 30) rfl rfl k.1 ?_
    have k := k.2
    refine wp_seg (C := gC3) (pc1 := 110) (Lo1 := [some (.ref 30), some (.int l1), some (.int s0), none]) (st1' := [.ref 1000005, .ref 28]) (w1 := (wv x (mSet I1 24 l1.toNatClampNeg (I1 28 7)) J1)) hC3 3 rfl ?_
    refine cv_I (mj := 73) (a := 28) (as := [.ref 1000005]) (r := []) rfl rfl rfl ⟨rfl, by decide, Nat.le_of_ble_eq_true rfl, Nat.le_of_ble_eq_true rfl⟩ rfl (wcI_mono k (fun r2 I2 J2 k => ?_))
    refine wp_seg (C := gC3) (pc1 := 116) (Lo1 := [some (.ref 30), some (.int l1), some (.int s0), some (.int r2)]) (st1' := [.int (-1 : Int32), .int r2]) (w1 := (wv x I2 J2)) hC3 3 rfl ?_
    refine wj_ne (tgt := 128) rfl rfl (fun h => ?_) (fun h => ?_)
    · have k := k.1 h
      refine wp_seg (C := gC3) (pc1 := 124) (Lo1 := [some (.ref 30), some (.int l1), some (.int s0), some (.int r2)]) (st1' := [.int (1 : Int32), .ref 28]) (w1 := (wv x I2 J2)) hC3 3 rfl ?_
      refine cv_I (mj := 75) (a := 28) (as := [.int (1 : Int32)]) (r := []) rfl rfl rfl ⟨rfl, by decide, Nat.le_of_ble_eq_true rfl, Nat.le_of_ble_eq_true rfl⟩ rfl (wcI_mono k (fun r3 I3 J3 k => ?_))
      exact we_z rfl rfl k.1 k.2
    · have k := k.2 h
      refine wp_seg (C := gC3) (pc1 := 137) (Lo1 := [some (.ref 30), some (.int l1), some (.int s0), some (.int r2)]) (st1' := [.int r2, .int l1, .ref 25]) (w1 := (wv x I2 J2)) hC3 5 rfl ?_
      refine ws_i (n := 30) rfl rfl k.1 ?_
      have k := k.2
      refine wp_seg (C := gC3) (pc1 := 147) (Lo1 := [some (.ref 30), some (.int l1), some (.int s0), some (.int r2)]) (st1' := [.int (-1 : Int32), .int l1, .ref 26]) (w1 := (wv x (mSet I2 25 l1.toNatClampNeg r2) J2)) hC3 5 rfl ?_
      refine ws_i (n := 30) rfl rfl k.1 ?_
      have k := k.2
      refine wp_seg (C := gC3) (pc1 := 152) (Lo1 := [some (.ref 30), some (.int l1), some (.int s0), some (.int r2)]) (st1' := [.ref 28]) (w1 := (wv x (mSet (mSet I2 25 l1.toNatClampNeg r2) 26 l1.toNatClampNeg (-1 : Int32)) J2)) hC3 2 rfl ?_
      refine cv_V (mj := 70) (a := 28) (as := []) (r := []) rfl rfl rfl ⟨rfl, by decide, Nat.le_of_ble_eq_true rfl, Nat.le_of_ble_eq_true rfl⟩ rfl (wcV_mono k (fun I4 J4 k => ?_))
      refine wp_seg (C := gC3) (pc1 := 157) (Lo1 := [some (.ref 30), some (.int l1), some (.int s0), some (.int r2)]) (st1' := [.int (3 : Int32), .int r2]) (w1 := (wv x I4 J4)) hC3 2 rfl ?_
      refine wj_eq (tgt := 170) rfl rfl (fun h => ?_) (fun h => ?_)
      · have k := k.1 h
        refine wp_seg (C := gC3) (pc1 := 186) (Lo1 := [some (.ref 30), some (.int l1), some (.int s0), some (.int r2)]) (st1' := [.int (59 : Int32), .ref 28]) (w1 := (wv x (mSet I4 15 4 (l1 + (1 : Int32))) J4)) hC3 9 rfl ?_
        refine cv_I (mj := 78) (a := 28) (as := [.int (59 : Int32)]) (r := []) rfl rfl rfl ⟨rfl, by decide, Nat.le_of_ble_eq_true rfl, Nat.le_of_ble_eq_true rfl⟩ rfl (wcI_mono k (fun r5 I5 J5 k => ?_))
        exact we_z rfl rfl k.1 k.2
      · have k := k.2 h
        refine wp_seg (C := gC3) (pc1 := 162) (Lo1 := [some (.ref 30), some (.int l1), some (.int s0), some (.int r2)]) (st1' := [.int l1, .ref 30]) (w1 := (wv x I4 J4)) hC3 2 rfl ?_
        refine cv_I (mj := 4) (a := 30) (as := [.int l1]) (r := []) rfl rfl rfl ⟨rfl, by decide, Nat.le_of_ble_eq_true rfl, Nat.le_of_ble_eq_true rfl⟩ rfl (wcI_mono k (fun r6 I6 J6 k => ?_))
        refine wi_ne (tgt := 170) rfl rfl (fun h => ?_) (fun h => ?_)
        · have k := k.1 h
          refine wp_seg (C := gC3) (pc1 := 169) (Lo1 := [some (.ref 30), some (.int l1), some (.int s0), some (.int r2)]) (st1' := [.int (0 : Int32)]) (w1 := (wv x I6 J6)) hC3 1 rfl ?_
          exact we_z rfl rfl (Or.inl rfl) k
        · have k := k.2 h
          refine wp_seg (C := gC3) (pc1 := 186) (Lo1 := [some (.ref 30), some (.int l1), some (.int s0), some (.int r2)]) (st1' := [.int (59 : Int32), .ref 28]) (w1 := (wv x (mSet I6 15 4 (l1 + (1 : Int32))) J6)) hC3 9 rfl ?_
          refine cv_I (mj := 78) (a := 28) (as := [.int (59 : Int32)]) (r := []) rfl rfl rfl ⟨rfl, by decide, Nat.le_of_ble_eq_true rfl, Nat.le_of_ble_eq_true rfl⟩ rfl (wcI_mono k (fun r7 I7 J7 k => ?_))
          exact we_z rfl rfl k.1 k.2
set_option maxRecDepth 20000 in
theorem v52_36_0 {S : Nat × (Nat → Int32)} {d : Nat} {x : mX} {I : rI0} {J : rJ0} {p1 : Int64} {p2 : Int64} {Q : rI0 → rJ0 → Prop} (k : (wcI S d 17 [.ref 3] x (mSet (mSet (mSet I 36 2 (0 : Int32)) 36 3 (0 : Int32)) 36 12 (0 : Int32)) (mSet (mSet (mSet J 36 5 p1) 36 6 p2) 36 7 (0 : Int64)) (fun r1 I1 J1 => (((I1 4 3) < (600 : Int32) → wp S (d + 1) 52 72 [some (.ref 36), some (.long p1), none, some (.long p2), none] [] (wv x (mSet (mSet I1 36 4 r1) 36 4 (if r1 < (I1 4 3) then I1 4 3 else r1)) J1) (rV x Q)) ∧ (¬ (I1 4 3) < (600 : Int32) → wp S (d + 1) 52 72 [some (.ref 36), some (.long p1), none, some (.long p2), none] [] (wv x (mSet I1 36 4 r1) J1) (rV x Q)))))) : wp S (d + 1) 52 0 [some (.ref 36), some (.long p1), none, some (.long p2), none] [] (wv x I J) (rV x Q) := by
  refine wp_seg (C := gC52) (pc1 := 20) (Lo1 := [some (.ref 36), some (.long p1), none, some (.long p2), none]) (st1' := []) (w1 := (wv x (mSet (mSet I 36 2 (0 : Int32)) 36 3 (0 : Int32)) (mSet (mSet J 36 5 p1) 36 6 p2))) hC52 12 rfl ?_
  refine wp_seg (C := gC52) (pc1 := 35) (Lo1 := [some (.ref 36), some (.long p1), none, some (.long p2), none]) (st1' := [.ref 3, .ref 36]) (w1 := (wv x (mSet (mSet (mSet I 36 2 (0 : Int32)) 36 3 (0 : Int32)) 36 12 (0 : Int32)) (mSet (mSet (mSet J 36 5 p1) 36 6 p2) 36 7 (0 : Int64)))) hC52 9 rfl ?_
  refine cv_I (mj := 17) (a := 3) (as := []) (r := [.ref 36]) rfl rfl rfl ⟨rfl, by decide, Nat.le_of_ble_eq_true rfl, Nat.le_of_ble_eq_true rfl⟩ rfl (wcI_mono k (fun r1 I1 J1 k => ?_))
  refine wp_seg (C := gC52) (pc1 := 51) (Lo1 := [some (.ref 36), some (.long p1), none, some (.long p2), none]) (st1' := [.int (600 : Int32), .int (I1 4 3)]) (w1 := (wv x (mSet I1 36 4 r1) J1)) hC52 5 rfl ?_
  refine wj_ge (tgt := 72) rfl rfl (fun h => ?_) (fun h => ?_)
  · have k := k.1 h
    refine wp_seg (C := gC52) (pc1 := 66) (Lo1 := [some (.ref 36), some (.long p1), none, some (.long p2), none]) (st1' := [.int (I1 4 3), .int r1, .ref 36]) (w1 := (wv x (mSet I1 36 4 r1) J1)) hC52 6 rfl ?_
    refine wm_2 (f := fun x y => if x < y then y else x) rfl rfl (Or.inl ⟨rfl, rfl⟩) (Nat.le_of_ble_eq_true rfl) ?_
    refine wp_seg (C := gC52) (pc1 := 72) (Lo1 := [some (.ref 36), some (.long p1), none, some (.long p2), none]) (st1' := []) (w1 := (wv x (mSet (mSet I1 36 4 r1) 36 4 (if r1 < (I1 4 3) then I1 4 3 else r1)) J1)) hC52 1 rfl ?_
    exact k
  · have k := k.2 h
    exact k
set_option maxRecDepth 20000 in
theorem v52_36_72 {S : Nat × (Nat → Int32)} {d : Nat} {x : mX} {I : rI0} {J : rJ0} {l1 : Int64} {l3 : Int64} {Q : rI0 → rJ0 → Prop} (k : (wcI S d 56 [.ref 36] x I J (fun r1 I1 J1 => (wcV S d 57 [.ref 36] x I1 J1 (fun I2 J2 => (wcJ S d 58 [.ref 36] x I2 J2 (fun r3 I3 J3 => Q I3 (mSet (mSet (mSet (mSet J3 36 8 r3) 36 9 r3) 36 10 (0 : Int64)) 36 11 (0 : Int64))))))))) : wp S (d + 1) 52 72 [some (.ref 36), some (.long l1), none, some (.long l3), none] [] (wv x I J) (rV x Q) := by
  refine wp_seg (C := gC52) (pc1 := 73) (Lo1 := [some (.ref 36), some (.long l1), none, some (.long l3), none]) (st1' := [.ref 36]) (w1 := (wv x I J)) hC52 1 rfl ?_
  refine cv_I (mj := 56) (a := 36) (as := []) (r := []) rfl rfl rfl ⟨rfl, by decide, Nat.le_of_ble_eq_true rfl, Nat.le_of_ble_eq_true rfl⟩ rfl (wcI_mono k (fun r1 I1 J1 k => ?_))
  refine wp_seg (C := gC52) (pc1 := 78) (Lo1 := [some (.ref 36), some (.long l1), none, some (.long l3), none]) (st1' := [.ref 36]) (w1 := (wv x I1 J1)) hC52 2 rfl ?_
  refine cv_V (mj := 57) (a := 36) (as := []) (r := []) rfl rfl rfl ⟨rfl, by decide, Nat.le_of_ble_eq_true rfl, Nat.le_of_ble_eq_true rfl⟩ rfl (wcV_mono k (fun I2 J2 k => ?_))
  refine wp_seg (C := gC52) (pc1 := 83) (Lo1 := [some (.ref 36), some (.long l1), none, some (.long l3), none]) (st1' := [.ref 36, .ref 36]) (w1 := (wv x I2 J2)) hC52 2 rfl ?_
  refine cv_J (mj := 58) (a := 36) (as := []) (r := [.ref 36]) rfl rfl rfl ⟨rfl, by decide, Nat.le_of_ble_eq_true rfl, Nat.le_of_ble_eq_true rfl⟩ rfl (wcJ_mono k (fun r3 I3 J3 k => ?_))
  refine wp_seg (C := gC52) (pc1 := 107) (Lo1 := [some (.ref 36), some (.long l1), none, some (.long l3), none]) (st1' := []) (w1 := (wv x I3 (mSet (mSet (mSet (mSet J3 36 8 r3) 36 9 r3) 36 10 (0 : Int64)) 36 11 (0 : Int64)))) hC52 11 rfl ?_
  exact we_v rfl rfl k
set_option maxRecDepth 20000 in
theorem v8_31_0 {S : Nat × (Nat → Int32)} {d : Nat} {x : mX} {I : rI0} {J : rJ0} {Q : rI0 → rJ0 → Prop} (k : (((600 : Int32) < (I 31 6) → Q I J) ∧ (¬ (600 : Int32) < (I 31 6) → (¬ mOut (I 31 6) 601 ∧ (¬ mOut (I 31 6) 601 ∧ (¬ mOut (I 31 6) 601 ∧ (¬ mOut (I 31 6) 601 ∧ Q (mSet I 31 6 ((I 31 6) + (1 : Int32))) (mSet (mSet (mSet (mSet J 32 ((I 31 6).toNatClampNeg) (J 36 8)) 33 ((I 31 6).toNatClampNeg) (J 36 9)) 34 ((I 31 6).toNatClampNeg) (J 36 10)) 35 ((I 31 6).toNatClampNeg) (J 36 11))))))))) : wp S d 8 0 [some (.ref 31)] [] (wv x I J) (rV x Q) := by
  refine wp_seg (C := gC8) (pc1 := 7) (Lo1 := [some (.ref 31)]) (st1' := [.int (600 : Int32), .int (I 31 6)]) (w1 := (wv x I J)) hC8 3 rfl ?_
  refine wj_gt (tgt := 84) rfl rfl (fun h => ?_) (fun h => ?_)
  · have k := k.1 h
    exact we_v rfl rfl k
  · have k := k.2 h
    refine wp_seg (C := gC8) (pc1 := 25) (Lo1 := [some (.ref 31)]) (st1' := [.long (J 36 8), .int (I 31 6), .ref 32]) (w1 := (wv x I J)) hC8 7 rfl ?_
    refine ws_l (n := 601) rfl rfl k.1 ?_
    have k := k.2
    refine wp_seg (C := gC8) (pc1 := 41) (Lo1 := [some (.ref 31)]) (st1' := [.long (J 36 9), .int (I 31 6), .ref 33]) (w1 := (wv x I (mSet J 32 ((I 31 6).toNatClampNeg) (J 36 8)))) hC8 7 rfl ?_
    refine ws_l (n := 601) rfl rfl k.1 ?_
    have k := k.2
    refine wp_seg (C := gC8) (pc1 := 57) (Lo1 := [some (.ref 31)]) (st1' := [.long (J 36 10), .int (I 31 6), .ref 34]) (w1 := (wv x I (mSet (mSet J 32 ((I 31 6).toNatClampNeg) (J 36 8)) 33 ((I 31 6).toNatClampNeg) (J 36 9)))) hC8 7 rfl ?_
    refine ws_l (n := 601) rfl rfl k.1 ?_
    have k := k.2
    refine wp_seg (C := gC8) (pc1 := 73) (Lo1 := [some (.ref 31)]) (st1' := [.long (J 36 11), .int (I 31 6), .ref 35]) (w1 := (wv x I (mSet (mSet (mSet J 32 ((I 31 6).toNatClampNeg) (J 36 8)) 33 ((I 31 6).toNatClampNeg) (J 36 9)) 34 ((I 31 6).toNatClampNeg) (J 36 10)))) hC8 7 rfl ?_
    refine ws_l (n := 601) rfl rfl k.1 ?_
    have k := k.2
    refine wp_seg (C := gC8) (pc1 := 84) (Lo1 := [some (.ref 31)]) (st1' := []) (w1 := (wv x (mSet I 31 6 ((I 31 6) + (1 : Int32))) (mSet (mSet (mSet (mSet J 32 ((I 31 6).toNatClampNeg) (J 36 8)) 33 ((I 31 6).toNatClampNeg) (J 36 9)) 34 ((I 31 6).toNatClampNeg) (J 36 10)) 35 ((I 31 6).toNatClampNeg) (J 36 11)))) hC8 6 rfl ?_
    exact we_v rfl rfl k
set_option maxRecDepth 20000 in
theorem v55_36_0 {S : Nat × (Nat → Int32)} {d : Nat} {x : mX} {I : rI0} {J : rJ0} {Q : rI0 → rJ0 → Prop} (k : (wcI S d 56 [.ref 36] x (mSet I 36 2 ((I 36 2) + (1 : Int32))) J (fun r1 I1 J1 => (wcV S d 57 [.ref 36] x I1 J1 (fun I2 J2 => (wcJ S d 58 [.ref 36] x I2 J2 (fun r3 I3 J3 => ((r1 = (0 : Int32) → wp S (d + 1) 55 49 [some (.ref 36), some (.int r1), some (.long r3), none, none, none, none, none, none, none, none] [.long ((r3 ||| (J3 36 6)) ||| (J3 36 7))] (wv x I3 J3) (rV x Q)) ∧ (¬ r1 = (0 : Int32) → wp S (d + 1) 55 49 [some (.ref 36), some (.int r1), some (.long r3), none, none, none, none, none, none, none, none] [.long (J3 4 5)] (wv x I3 J3) (rV x Q)))))))))) : wp S (d + 1) 55 0 [some (.ref 36), none, none, none, none, none, none, none, none, none, none] [] (wv x I J) (rV x Q) := by
  refine wp_seg (C := gC55) (pc1 := 11) (Lo1 := [some (.ref 36), none, none, none, none, none, none, none, none, none, none]) (st1' := [.ref 36]) (w1 := (wv x (mSet I 36 2 ((I 36 2) + (1 : Int32))) J)) hC55 7 rfl ?_
  refine cv_I (mj := 56) (a := 36) (as := []) (r := []) rfl rfl rfl ⟨rfl, by decide, Nat.le_of_ble_eq_true rfl, Nat.le_of_ble_eq_true rfl⟩ rfl (wcI_mono k (fun r1 I1 J1 k => ?_))
  refine wp_seg (C := gC55) (pc1 := 16) (Lo1 := [some (.ref 36), some (.int r1), none, none, none, none, none, none, none, none, none]) (st1' := [.ref 36]) (w1 := (wv x I1 J1)) hC55 2 rfl ?_
  refine cv_V (mj := 57) (a := 36) (as := []) (r := []) rfl rfl rfl ⟨rfl, by decide, Nat.le_of_ble_eq_true rfl, Nat.le_of_ble_eq_true rfl⟩ rfl (wcV_mono k (fun I2 J2 k => ?_))
  refine wp_seg (C := gC55) (pc1 := 20) (Lo1 := [some (.ref 36), some (.int r1), none, none, none, none, none, none, none, none, none]) (st1' := [.ref 36]) (w1 := (wv x I2 J2)) hC55 1 rfl ?_
  refine cv_J (mj := 58) (a := 36) (as := []) (r := []) rfl rfl rfl ⟨rfl, by decide, Nat.le_of_ble_eq_true rfl, Nat.le_of_ble_eq_true rfl⟩ rfl (wcJ_mono k (fun r3 I3 J3 k => ?_))
  refine wp_seg (C := gC55) (pc1 := 25) (Lo1 := [some (.ref 36), some (.int r1), some (.long r3), none, none, none, none, none, none, none, none]) (st1' := [.int r1]) (w1 := (wv x I3 J3)) hC55 2 rfl ?_
  refine wi_eq (tgt := 38) rfl rfl (fun h => ?_) (fun h => ?_)
  · have k := k.1 h
    refine wp_seg (C := gC55) (pc1 := 49) (Lo1 := [some (.ref 36), some (.int r1), some (.long r3), none, none, none, none, none, none, none, none]) (st1' := [.long ((r3 ||| (J3 36 6)) ||| (J3 36 7))]) (w1 := (wv x I3 J3)) hC55 7 rfl ?_
    exact k
  · have k := k.2 h
    refine wp_seg (C := gC55) (pc1 := 49) (Lo1 := [some (.ref 36), some (.int r1), some (.long r3), none, none, none, none, none, none, none, none]) (st1' := [.long (J3 4 5)]) (w1 := (wv x I3 J3)) hC55 4 rfl ?_
    exact k
set_option maxRecDepth 20000 in
theorem v55_36_49 {S : Nat × (Nat → Int32)} {d : Nat} {x : mX} {I : rI0} {J : rJ0} {l1 : Int32} {l2 : Int64} {s0 : Int64} {Q : rI0 → rJ0 → Prop} (k : (((I 4 4) = (0 : Int32) → (wcV S d 59 [.ref 36, .long (J 4 5), .long l2, .long s0] x I J (fun I1 J1 => wp S (d + 1) 55 127 [some (.ref 36), some (.int l1), some (.long l2), none, some (.long s0), none, some (.long (J 36 8)), none, some (.long (J 36 9)), none, none] [] (wv x I1 J1) (rV x Q)))) ∧ (¬ (I 4 4) = (0 : Int32) → wp S (d + 1) 55 76 [some (.ref 36), some (.int l1), some (.long l2), none, some (.long s0), none, some (.long (J 36 8)), none, some (.long (J 36 9)), none, some (.int (0 : Int32))] [] (wv x I J) (rV x Q)))) : wp S (d + 1) 55 49 [some (.ref 36), some (.int l1), some (.long l2), none, none, none, none, none, none, none, none] [.long s0] (wv x I J) (rV x Q) := by
  refine wp_seg (C := gC55) (pc1 := 57) (Lo1 := [some (.ref 36), some (.int l1), some (.long l2), none, some (.long s0), none, some (.long (J 36 8)), none, none, none, none]) (st1' := []) (w1 := (wv x I J)) hC55 4 rfl ?_
  refine wp_seg (C := gC55) (pc1 := 70) (Lo1 := [some (.ref 36), some (.int l1), some (.long l2), none, some (.long s0), none, some (.long (J 36 8)), none, some (.long (J 36 9)), none, none]) (st1' := [.int (I 4 4)]) (w1 := (wv x I J)) hC55 6 rfl ?_
  refine wi_eq (tgt := 113) rfl rfl (fun h => ?_) (fun h => ?_)
  · have k := k.1 h
    refine wp_seg (C := gC55) (pc1 := 124) (Lo1 := [some (.ref 36), some (.int l1), some (.long l2), none, some (.long s0), none, some (.long (J 36 8)), none, some (.long (J 36 9)), none, none]) (st1' := [.long s0, .long l2, .long (J 4 5), .ref 36]) (w1 := (wv x I J)) hC55 6 rfl ?_
    refine cv_V (mj := 59) (a := 36) (as := [.long (J 4 5), .long l2, .long s0]) (r := []) rfl rfl rfl ⟨rfl, by decide, Nat.le_of_ble_eq_true rfl, Nat.le_of_ble_eq_true rfl⟩ rfl (wcV_mono k (fun I1 J1 k => ?_))
    exact k
  · have k := k.2 h
    refine wp_seg (C := gC55) (pc1 := 76) (Lo1 := [some (.ref 36), some (.int l1), some (.long l2), none, some (.long s0), none, some (.long (J 36 8)), none, some (.long (J 36 9)), none, some (.int (0 : Int32))]) (st1' := []) (w1 := (wv x I J)) hC55 2 rfl ?_
    exact k
set_option maxRecDepth 20000 in
theorem v55_36_76 {S : Nat × (Nat → Int32)} {d : Nat} {x : mX} {I : rI0} {J : rJ0} {l1 : Int32} {l2 : Int64} {l4 : Int64} {l6 : Int64} {l8 : Int64} {l10 : Int32} {Q : rI0 → rJ0 → Prop} (k : ((l10 < (I 4 0) → (wcJ S d 28 [.ref 4, .int l10] x I J (fun r1 I1 J1 => (wcV S d 59 [.ref 36, .long r1, .long l2, .long l4] x I1 J1 (fun I2 J2 => wp S (d + 1) 55 76 [some (.ref 36), some (.int l1), some (.long l2), none, some (.long l4), none, some (.long l6), none, some (.long l8), none, some (.int (l10 + (1 : Int32)))] [] (wv x I2 J2) (rV x Q)))))) ∧ (¬ l10 < (I 4 0) → wp S (d + 1) 55 127 [some (.ref 36), some (.int l1), some (.long l2), none, some (.long l4), none, some (.long l6), none, some (.long l8), none, none] [] (wv x I J) (rV x Q)))) : wp S (d + 1) 55 76 [some (.ref 36), some (.int l1), some (.long l2), none, some (.long l4), none, some (.long l6), none, some (.long l8), none, some (.int l10)] [] (wv x I J) (rV x Q) := by
  refine wp_seg (C := gC55) (pc1 := 85) (Lo1 := [some (.ref 36), some (.int l1), some (.long l2), none, some (.long l4), none, some (.long l6), none, some (.long l8), none, some (.int l10)]) (st1' := [.int (I 4 0), .int l10]) (w1 := (wv x I J)) hC55 4 rfl ?_
  refine wj_ge (tgt := 110) rfl rfl (fun h => ?_) (fun h => ?_)
  · have k := k.1 h
    refine wp_seg (C := gC55) (pc1 := 95) (Lo1 := [some (.ref 36), some (.int l1), some (.long l2), none, some (.long l4), none, some (.long l6), none, some (.long l8), none, some (.int l10)]) (st1' := [.int l10, .ref 4, .ref 36]) (w1 := (wv x I J)) hC55 4 rfl ?_
    refine cv_J (mj := 28) (a := 4) (as := [.int l10]) (r := [.ref 36]) rfl rfl rfl ⟨rfl, by decide, Nat.le_of_ble_eq_true rfl, Nat.le_of_ble_eq_true rfl⟩ rfl (wcJ_mono k (fun r1 I1 J1 k => ?_))
    refine wp_seg (C := gC55) (pc1 := 101) (Lo1 := [some (.ref 36), some (.int l1), some (.long l2), none, some (.long l4), none, some (.long l6), none, some (.long l8), none, some (.int l10)]) (st1' := [.long l4, .long l2, .long r1, .ref 36]) (w1 := (wv x I1 J1)) hC55 2 rfl ?_
    refine cv_V (mj := 59) (a := 36) (as := [.long r1, .long l2, .long l4]) (r := []) rfl rfl rfl ⟨rfl, by decide, Nat.le_of_ble_eq_true rfl, Nat.le_of_ble_eq_true rfl⟩ rfl (wcV_mono k (fun I2 J2 k => ?_))
    refine wp_seg (C := gC55) (pc1 := 76) (Lo1 := [some (.ref 36), some (.int l1), some (.long l2), none, some (.long l4), none, some (.long l6), none, some (.long l8), none, some (.int (l10 + (1 : Int32)))]) (st1' := []) (w1 := (wv x I2 J2)) hC55 2 rfl ?_
    exact k
  · have k := k.2 h
    refine wp_seg (C := gC55) (pc1 := 127) (Lo1 := [some (.ref 36), some (.int l1), some (.long l2), none, some (.long l4), none, some (.long l6), none, some (.long l8), none, some (.int l10)]) (st1' := []) (w1 := (wv x I J)) hC55 1 rfl ?_
    exact wp_sub (Lo := [some (.ref 36), some (.int l1), some (.long l2), none, some (.long l4), none, some (.long l6), none, some (.long l8), none, none]) (And.intro rfl (And.intro rfl (And.intro rfl (And.intro rfl (And.intro rfl (And.intro rfl (trivial))))))) k
set_option maxRecDepth 20000 in
theorem v55_36_127 {S : Nat × (Nat → Int32)} {d : Nat} {x : mX} {I : rI0} {J : rJ0} {l1 : Int32} {l2 : Int64} {l4 : Int64} {l6 : Int64} {l8 : Int64} {Q : rI0 → rJ0 → Prop} (k : (wcV S d 60 [.ref 36, .long (((J 4 5) &&& (((J 36 8) ^^^ l6) ^^^ (-1 : Int64))) &&& (((J 36 9) ^^^ l8) ^^^ (-1 : Int64)))] x I J (fun I1 J1 => Q I1 J1))) : wp S (d + 1) 55 127 [some (.ref 36), some (.int l1), some (.long l2), none, some (.long l4), none, some (.long l6), none, some (.long l8), none, none] [] (wv x I J) (rV x Q) := by
  refine wp_seg (C := gC55) (pc1 := 148) (Lo1 := [some (.ref 36), some (.int l1), some (.long l2), none, some (.long l4), none, some (.long l6), none, some (.long l8), none, none]) (st1' := [.ref 36, .long ((J 4 5) &&& (((J 36 8) ^^^ l6) ^^^ (-1 : Int64))), .ref 36]) (w1 := (wv x I J)) hC55 12 rfl ?_
  refine wp_seg (C := gC55) (pc1 := 159) (Lo1 := [some (.ref 36), some (.int l1), some (.long l2), none, some (.long l4), none, some (.long l6), none, some (.long l8), none, none]) (st1' := [.long (((J 4 5) &&& (((J 36 8) ^^^ l6) ^^^ (-1 : Int64))) &&& (((J 36 9) ^^^ l8) ^^^ (-1 : Int64))), .ref 36]) (w1 := (wv x I J)) hC55 6 rfl ?_
  refine cv_V (mj := 60) (a := 36) (as := [.long (((J 4 5) &&& (((J 36 8) ^^^ l6) ^^^ (-1 : Int64))) &&& (((J 36 9) ^^^ l8) ^^^ (-1 : Int64)))]) (r := []) rfl rfl rfl ⟨rfl, by decide, Nat.le_of_ble_eq_true rfl, Nat.le_of_ble_eq_true rfl⟩ rfl (wcV_mono k (fun I1 J1 k => ?_))
  exact we_v rfl rfl k
set_option maxRecDepth 20000 in
theorem v61_41_0 {S : Nat × (Nat → Int32)} {d : Nat} {x : mX} {I : rI0} {J : rJ0} {p1 : Int32} {p2 : Int32} {p3 : Int64} {p4 : Int32} {Q : Int64 → rI0 → rJ0 → Prop} (k : (((lg_cmp p3 (0 : Int64)) = (0 : Int32) → Q (0 : Int64) I J) ∧ (¬ (lg_cmp p3 (0 : Int64)) = (0 : Int32) → (((0 : Int32) < p2 → (((8 : Int32) < p4 → Q (0 : Int64) I J) ∧ (¬ (8 : Int32) < p4 → wp S (d + 1) 61 31 [some (.ref 41), some (.int p1), some (.int p2), some (.long p3), none, some (.int p4), some (.long (0 : Int64)), none, some (.long p3), none, some (.int p1), some (.int (0 : Int32))] [] (wv x I J) (rJ x Q)))) ∧ (¬ (0 : Int32) < p2 → Q (0 : Int64) I J))))) : wp S (d + 1) 61 0 [some (.ref 41), some (.int p1), some (.int p2), some (.long p3), none, some (.int p4), none, none, none, none, none, none] [] (wv x I J) (rJ x Q) := by
  refine wp_seg (C := gC61) (pc1 := 3) (Lo1 := [some (.ref 41), some (.int p1), some (.int p2), some (.long p3), none, some (.int p4), none, none, none, none, none, none]) (st1' := [.int (lg_cmp p3 (0 : Int64))]) (w1 := (wv x I J)) hC61 3 rfl ?_
  refine wi_eq (tgt := 17) rfl rfl (fun h => ?_) (fun h => ?_)
  · have k := k.1 h
    refine wp_seg (C := gC61) (pc1 := 18) (Lo1 := [some (.ref 41), some (.int p1), some (.int p2), some (.long p3), none, some (.int p4), none, none, none, none, none, none]) (st1' := [.long (0 : Int64)]) (w1 := (wv x I J)) hC61 1 rfl ?_
    exact we_l rfl rfl k
  · have k := k.2 h
    refine wp_seg (C := gC61) (pc1 := 7) (Lo1 := [some (.ref 41), some (.int p1), some (.int p2), some (.long p3), none, some (.int p4), none, none, none, none, none, none]) (st1' := [.int p2]) (w1 := (wv x I J)) hC61 1 rfl ?_
    refine wi_le (tgt := 17) rfl rfl (fun h => ?_) (fun h => ?_)
    · have k := k.1 h
      refine wp_seg (C := gC61) (pc1 := 14) (Lo1 := [some (.ref 41), some (.int p1), some (.int p2), some (.long p3), none, some (.int p4), none, none, none, none, none, none]) (st1' := [.int (8 : Int32), .int p4]) (w1 := (wv x I J)) hC61 2 rfl ?_
      refine wj_le (tgt := 19) rfl rfl (fun h => ?_) (fun h => ?_)
      · have k := k.1 h
        refine wp_seg (C := gC61) (pc1 := 18) (Lo1 := [some (.ref 41), some (.int p1), some (.int p2), some (.long p3), none, some (.int p4), none, none, none, none, none, none]) (st1' := [.long (0 : Int64)]) (w1 := (wv x I J)) hC61 1 rfl ?_
        exact we_l rfl rfl k
      · have k := k.2 h
        refine wp_seg (C := gC61) (pc1 := 25) (Lo1 := [some (.ref 41), some (.int p1), some (.int p2), some (.long p3), none, some (.int p4), some (.long (0 : Int64)), none, some (.long p3), none, none, none]) (st1' := []) (w1 := (wv x I J)) hC61 4 rfl ?_
        refine wp_seg (C := gC61) (pc1 := 31) (Lo1 := [some (.ref 41), some (.int p1), some (.int p2), some (.long p3), none, some (.int p4), some (.long (0 : Int64)), none, some (.long p3), none, some (.int p1), some (.int (0 : Int32))]) (st1' := []) (w1 := (wv x I J)) hC61 4 rfl ?_
        exact k
    · have k := k.2 h
      refine wp_seg (C := gC61) (pc1 := 18) (Lo1 := [some (.ref 41), some (.int p1), some (.int p2), some (.long p3), none, some (.int p4), none, none, none, none, none, none]) (st1' := [.long (0 : Int64)]) (w1 := (wv x I J)) hC61 1 rfl ?_
      exact we_l rfl rfl k
set_option maxRecDepth 20000 in
theorem v61_41_31 {S : Nat × (Nat → Int32)} {d : Nat} {x : mX} {I : rI0} {J : rJ0} {l1 : Int32} {l2 : Int32} {l3 : Int64} {l5 : Int32} {l6 : Int64} {l8 : Int64} {l10 : Int32} {l11 : Int32} {Q : Int64 → rI0 → rJ0 → Prop} (k : ((l11 < (20 : Int32) → ((l10 < (l1 + l2) → ((l10 < (240 : Int32) → (¬ mOut l10 240 ∧ ((((((I 10 l10.toNatClampNeg).toUInt32 >>> ((18 : Int32).toUInt32 &&& Int32.toUInt32 31)).toInt32) &&& (1 : Int32)) = (0 : Int32) → wp S (d + 1) 61 94 [some (.ref 41), some (.int l1), some (.int l2), some (.long l3), none, some (.int l5), some (.long l6), none, some (.long l8), none, some (.int l10), some (.int l11)] [] (wv x I J) (rJ x Q)) ∧ (¬ ((((I 10 l10.toNatClampNeg).toUInt32 >>> ((18 : Int32).toUInt32 &&& Int32.toUInt32 31)).toInt32) &&& (1 : Int32)) = (0 : Int32) → wp S (d + 1) 61 94 [some (.ref 41), some (.int l1), some (.int l2), some (.long l3), none, some (.int l5), some (.long (l6 ||| l8)), none, some (.long (l3 &&& ((l6 ||| l8) ^^^ (-1 : Int64)))), none, some (.int l10), some (.int l11)] [] (wv x I J) (rJ x Q))))) ∧ (¬ l10 < (240 : Int32) → Q (l6 ||| l8) I J))) ∧ (¬ l10 < (l1 + l2) → Q (l6 ||| l8) I J))) ∧ (¬ l11 < (20 : Int32) → Q (l6 ||| l8) I J))) : wp S (d + 1) 61 31 [some (.ref 41), some (.int l1), some (.int l2), some (.long l3), none, some (.int l5), some (.long l6), none, some (.long l8), none, some (.int l10), some (.int l11)] [] (wv x I J) (rJ x Q) := by
  refine wp_seg (C := gC61) (pc1 := 35) (Lo1 := [some (.ref 41), some (.int l1), some (.int l2), some (.long l3), none, some (.int l5), some (.long l6), none, some (.long l8), none, some (.int l10), some (.int l11)]) (st1' := [.int (20 : Int32), .int l11]) (w1 := (wv x I J)) hC61 2 rfl ?_
  refine wj_ge (tgt := 130) rfl rfl (fun h => ?_) (fun h => ?_)
  · have k := k.1 h
    refine wp_seg (C := gC61) (pc1 := 43) (Lo1 := [some (.ref 41), some (.int l1), some (.int l2), some (.long l3), none, some (.int l5), some (.long l6), none, some (.long l8), none, some (.int l10), some (.int l11)]) (st1' := [.int (l1 + l2), .int l10]) (w1 := (wv x I J)) hC61 4 rfl ?_
    refine wj_ge (tgt := 130) rfl rfl (fun h => ?_) (fun h => ?_)
    · have k := k.1 h
      refine wp_seg (C := gC61) (pc1 := 56) (Lo1 := [some (.ref 41), some (.int l1), some (.int l2), some (.long l3), none, some (.int l5), some (.long l6), none, some (.long l8), none, some (.int l10), some (.int l11)]) (st1' := [.int (240 : Int32), .int l10]) (w1 := (wv x I J)) hC61 5 rfl ?_
      refine wj_ge (tgt := 130) rfl rfl (fun h => ?_) (fun h => ?_)
      · have k := k.1 h
        refine wp_seg (C := gC61) (pc1 := 68) (Lo1 := [some (.ref 41), some (.int l1), some (.int l2), some (.long l3), none, some (.int l5), some (.long l6), none, some (.long l8), none, some (.int l10), some (.int l11)]) (st1' := [.int l10, .ref 10]) (w1 := (wv x I J)) hC61 4 rfl ?_
        refine wa_i (n := 240) rfl (by decide) rfl k.1 ?_
        have k := k.2
        refine wp_seg (C := gC61) (pc1 := 74) (Lo1 := [some (.ref 41), some (.int l1), some (.int l2), some (.long l3), none, some (.int l5), some (.long l6), none, some (.long l8), none, some (.int l10), some (.int l11)]) (st1' := [.int ((((I 10 l10.toNatClampNeg).toUInt32 >>> ((18 : Int32).toUInt32 &&& Int32.toUInt32 31)).toInt32) &&& (1 : Int32))]) (w1 := (wv x I J)) hC61 4 rfl ?_
        refine wi_eq (tgt := 94) rfl rfl (fun h => ?_) (fun h => ?_)
        · have k := k.1 h
          exact k
        · have k := k.2 h
          refine wp_seg (C := gC61) (pc1 := 94) (Lo1 := [some (.ref 41), some (.int l1), some (.int l2), some (.long l3), none, some (.int l5), some (.long (l6 ||| l8)), none, some (.long (l3 &&& ((l6 ||| l8) ^^^ (-1 : Int64)))), none, some (.int l10), some (.int l11)]) (st1' := []) (w1 := (wv x I J)) hC61 10 rfl ?_
          exact k
      · have k := k.2 h
        refine wp_seg (C := gC61) (pc1 := 135) (Lo1 := [some (.ref 41), some (.int l1), some (.int l2), some (.long l3), none, some (.int l5), some (.long l6), none, some (.long l8), none, some (.int l10), some (.int l11)]) (st1' := [.long (l6 ||| l8)]) (w1 := (wv x I J)) hC61 3 rfl ?_
        exact we_l rfl rfl k
    · have k := k.2 h
      refine wp_seg (C := gC61) (pc1 := 135) (Lo1 := [some (.ref 41), some (.int l1), some (.int l2), some (.long l3), none, some (.int l5), some (.long l6), none, some (.long l8), none, some (.int l10), some (.int l11)]) (st1' := [.long (l6 ||| l8)]) (w1 := (wv x I J)) hC61 3 rfl ?_
      exact we_l rfl rfl k
  · have k := k.2 h
    refine wp_seg (C := gC61) (pc1 := 135) (Lo1 := [some (.ref 41), some (.int l1), some (.int l2), some (.long l3), none, some (.int l5), some (.long l6), none, some (.long l8), none, some (.int l10), some (.int l11)]) (st1' := [.long (l6 ||| l8)]) (w1 := (wv x I J)) hC61 3 rfl ?_
    exact we_l rfl rfl k
set_option maxRecDepth 20000 in
theorem v61_41_94 {S : Nat × (Nat → Int32)} {d : Nat} {x : mX} {I : rI0} {J : rJ0} {l1 : Int32} {l2 : Int32} {l3 : Int64} {l5 : Int32} {l6 : Int64} {l8 : Int64} {l10 : Int32} {l11 : Int32} {Q : Int64 → rI0 → rJ0 → Prop} (k : (wcJ S d 62 [.ref 41, .int l10, .long l8, .int l5] x I J (fun r1 I1 J1 => (¬ mOut l10 240 ∧ wp S (d + 1) 61 31 [some (.ref 41), some (.int l1), some (.int l2), some (.long l3), none, some (.int l5), some (.long l6), none, some (.long r1), none, some (.int (l10 + (((I1 10 l10.toNatClampNeg).toUInt32 >>> ((19 : Int32).toUInt32 &&& Int32.toUInt32 31)).toInt32))), some (.int (l11 + (1 : Int32)))] [] (wv x I1 J1) (rJ x Q))))) : wp S (d + 1) 61 94 [some (.ref 41), some (.int l1), some (.int l2), some (.long l3), none, some (.int l5), some (.long l6), none, some (.long l8), none, some (.int l10), some (.int l11)] [] (wv x I J) (rJ x Q) := by
  refine wp_seg (C := gC61) (pc1 := 101) (Lo1 := [some (.ref 41), some (.int l1), some (.int l2), some (.long l3), none, some (.int l5), some (.long l6), none, some (.long l8), none, some (.int l10), some (.int l11)]) (st1' := [.int l5, .long l8, .int l10, .ref 41]) (w1 := (wv x I J)) hC61 4 rfl ?_
  refine cv_J (mj := 62) (a := 41) (as := [.int l10, .long l8, .int l5]) (r := []) rfl rfl rfl ⟨rfl, by decide, Nat.le_of_ble_eq_true rfl, Nat.le_of_ble_eq_true rfl⟩ rfl (wcJ_mono k (fun r1 I1 J1 k => ?_))
  refine wp_seg (C := gC61) (pc1 := 117) (Lo1 := [some (.ref 41), some (.int l1), some (.int l2), some (.long l3), none, some (.int l5), some (.long l6), none, some (.long r1), none, some (.int l10), some (.int l11)]) (st1' := [.int l10, .ref 10, .int l10]) (w1 := (wv x I1 J1)) hC61 6 rfl ?_
  refine wa_i (n := 240) rfl (by decide) rfl k.1 ?_
  have k := k.2
  refine wp_seg (C := gC61) (pc1 := 127) (Lo1 := [some (.ref 41), some (.int l1), some (.int l2), some (.long l3), none, some (.int l5), some (.long l6), none, some (.long r1), none, some (.int (l10 + (((I1 10 l10.toNatClampNeg).toUInt32 >>> ((19 : Int32).toUInt32 &&& Int32.toUInt32 31)).toInt32))), some (.int (l11 + (1 : Int32)))]) (st1' := []) (w1 := (wv x I1 J1)) hC61 5 rfl ?_
  refine wp_seg (C := gC61) (pc1 := 31) (Lo1 := [some (.ref 41), some (.int l1), some (.int l2), some (.long l3), none, some (.int l5), some (.long l6), none, some (.long r1), none, some (.int (l10 + (((I1 10 l10.toNatClampNeg).toUInt32 >>> ((19 : Int32).toUInt32 &&& Int32.toUInt32 31)).toInt32))), some (.int (l11 + (1 : Int32)))]) (st1' := []) (w1 := (wv x I1 J1)) hC61 1 rfl ?_
  exact k
set_option maxRecDepth 20000 in
theorem v17_3_0 {S : Nat × (Nat → Int32)} {d : Nat} {x : mX} {I : rI0} {J : rJ0} {Q : Int32 → rI0 → rJ0 → Prop} (k : (((0 : Int32) < (I 3 4) → (((30 : Int32) < (I 3 4) → (wcI S d 29 [.ref 4] x I J (fun r1 I1 J1 => Q (if r1 < (-1 : Int32) then (-1 : Int32) else r1) I1 J1))) ∧ (¬ (30 : Int32) < (I 3 4) → (¬ mOut ((I 3 4) - (1 : Int32)) 30 ∧ (wcI S d 29 [.ref 4] x I J (fun r2 I2 J2 => Q (if r2 < (I 12 (((I 3 4) - (1 : Int32)).toNatClampNeg)) then I 12 (((I 3 4) - (1 : Int32)).toNatClampNeg) else r2) I2 J2)))))) ∧ (¬ (0 : Int32) < (I 3 4) → (wcI S d 29 [.ref 4] x I J (fun r3 I3 J3 => Q (if r3 < (-1 : Int32) then (-1 : Int32) else r3) I3 J3))))) : wp S (d + 1) 17 0 [some (.ref 3), none] [] (wv x I J) (rI x Q) := by
  refine wp_seg (C := gC17) (pc1 := 4) (Lo1 := [some (.ref 3), none]) (st1' := [.int (I 3 4)]) (w1 := (wv x I J)) hC17 2 rfl ?_
  refine wi_le (tgt := 30) rfl rfl (fun h => ?_) (fun h => ?_)
  · have k := k.1 h
    refine wp_seg (C := gC17) (pc1 := 13) (Lo1 := [some (.ref 3), none]) (st1' := [.int (30 : Int32), .int (I 3 4)]) (w1 := (wv x I J)) hC17 3 rfl ?_
    refine wj_gt (tgt := 30) rfl rfl (fun h => ?_) (fun h => ?_)
    · have k := k.1 h
      refine wp_seg (C := gC17) (pc1 := 36) (Lo1 := [some (.ref 3), some (.int (-1 : Int32))]) (st1' := [.ref 4]) (w1 := (wv x I J)) hC17 4 rfl ?_
      refine cv_I (mj := 29) (a := 4) (as := []) (r := []) rfl rfl rfl ⟨rfl, by decide, Nat.le_of_ble_eq_true rfl, Nat.le_of_ble_eq_true rfl⟩ rfl (wcI_mono k (fun r1 I1 J1 k => ?_))
      refine wp_seg (C := gC17) (pc1 := 40) (Lo1 := [some (.ref 3), some (.int (-1 : Int32))]) (st1' := [.int (-1 : Int32), .int r1]) (w1 := (wv x I1 J1)) hC17 1 rfl ?_
      refine wm_2 (f := fun x y => if x < y then y else x) rfl rfl (Or.inl ⟨rfl, rfl⟩) (Nat.le_of_ble_eq_true rfl) ?_
      exact we_i rfl rfl k
    · have k := k.2 h
      refine wp_seg (C := gC17) (pc1 := 26) (Lo1 := [some (.ref 3), none]) (st1' := [.int ((I 3 4) - (1 : Int32)), .ref 12]) (w1 := (wv x I J)) hC17 6 rfl ?_
      refine wa_i (n := 30) rfl (by decide) rfl k.1 ?_
      have k := k.2
      refine wp_seg (C := gC17) (pc1 := 36) (Lo1 := [some (.ref 3), some (.int (I 12 (((I 3 4) - (1 : Int32)).toNatClampNeg)))]) (st1' := [.ref 4]) (w1 := (wv x I J)) hC17 4 rfl ?_
      refine cv_I (mj := 29) (a := 4) (as := []) (r := []) rfl rfl rfl ⟨rfl, by decide, Nat.le_of_ble_eq_true rfl, Nat.le_of_ble_eq_true rfl⟩ rfl (wcI_mono k (fun r2 I2 J2 k => ?_))
      refine wp_seg (C := gC17) (pc1 := 40) (Lo1 := [some (.ref 3), some (.int (I 12 (((I 3 4) - (1 : Int32)).toNatClampNeg)))]) (st1' := [.int (I 12 (((I 3 4) - (1 : Int32)).toNatClampNeg)), .int r2]) (w1 := (wv x I2 J2)) hC17 1 rfl ?_
      refine wm_2 (f := fun x y => if x < y then y else x) rfl rfl (Or.inl ⟨rfl, rfl⟩) (Nat.le_of_ble_eq_true rfl) ?_
      exact we_i rfl rfl k
  · have k := k.2 h
    refine wp_seg (C := gC17) (pc1 := 36) (Lo1 := [some (.ref 3), some (.int (-1 : Int32))]) (st1' := [.ref 4]) (w1 := (wv x I J)) hC17 4 rfl ?_
    refine cv_I (mj := 29) (a := 4) (as := []) (r := []) rfl rfl rfl ⟨rfl, by decide, Nat.le_of_ble_eq_true rfl, Nat.le_of_ble_eq_true rfl⟩ rfl (wcI_mono k (fun r3 I3 J3 k => ?_))
    refine wp_seg (C := gC17) (pc1 := 40) (Lo1 := [some (.ref 3), some (.int (-1 : Int32))]) (st1' := [.int (-1 : Int32), .int r3]) (w1 := (wv x I3 J3)) hC17 1 rfl ?_
    refine wm_2 (f := fun x y => if x < y then y else x) rfl rfl (Or.inl ⟨rfl, rfl⟩) (Nat.le_of_ble_eq_true rfl) ?_
    exact we_i rfl rfl k
set_option maxRecDepth 20000 in
theorem v56_41_0 {S : Nat × (Nat → Int32)} {d : Nat} {x : mX} {I : rI0} {J : rJ0} {Q : Int32 → rI0 → rJ0 → Prop} (k : wp S (d + 1) 56 2 [some (.ref 41), some (.int (0 : Int32)), none, none] [] (wv x I J) (rI x Q)) : wp S (d + 1) 56 0 [some (.ref 41), none, none, none] [] (wv x I J) (rI x Q) := by
  refine wp_seg (C := gC56) (pc1 := 2) (Lo1 := [some (.ref 41), some (.int (0 : Int32)), none, none]) (st1' := []) (w1 := (wv x I J)) hC56 2 rfl ?_
  exact k
set_option maxRecDepth 20000 in
theorem v56_41_2 {S : Nat × (Nat → Int32)} {d : Nat} {x : mX} {I : rI0} {J : rJ0} {l1 : Int32} {Q : Int32 → rI0 → rJ0 → Prop} (k : (((I 41 3) < (I 3 4) → (((I 41 3) < (30 : Int32) → (¬ mOut (I 41 3) 30 ∧ (((I 41 2) < (I 12 ((I 41 3).toNatClampNeg)) → ((l1 = 0 ∨ l1 = 1) ∧ Q l1 I J)) ∧ (¬ (I 41 2) < (I 12 ((I 41 3).toNatClampNeg)) → (¬ mOut (I 41 3) 30 ∧ (((I 13 ((I 41 3).toNatClampNeg)) = (3 : Int32) → wp S (d + 1) 56 2 [some (.ref 41), some (.int (1 : Int32)), none, none] [] (wv x (mSet I 41 3 ((I 41 3) + (1 : Int32))) J) (rI x Q)) ∧ (¬ (I 13 ((I 41 3).toNatClampNeg)) = (3 : Int32) → (¬ mOut (I 41 3) 30 ∧ (((I 13 ((I 41 3).toNatClampNeg)) = (0 : Int32) → wp S (d + 1) 56 95 [some (.ref 41), some (.int l1), some (.int (I 13 ((I 41 3).toNatClampNeg))), some (.int (I 14 ((I 41 3).toNatClampNeg)))] [.int (1 : Int32), .int (I 14 ((I 41 3).toNatClampNeg)), .long (J 41 5), .ref 41] (wv x I J) (rI x Q)) ∧ (¬ (I 13 ((I 41 3).toNatClampNeg)) = (0 : Int32) → wp S (d + 1) 56 95 [some (.ref 41), some (.int l1), some (.int (I 13 ((I 41 3).toNatClampNeg))), some (.int (I 14 ((I 41 3).toNatClampNeg)))] [.int (0 : Int32), .int (I 14 ((I 41 3).toNatClampNeg)), .long (J 41 5), .ref 41] (wv x I J) (rI x Q))))))))))) ∧ (¬ (I 41 3) < (30 : Int32) → ((l1 = 0 ∨ l1 = 1) ∧ Q l1 I J)))) ∧ (¬ (I 41 3) < (I 3 4) → ((l1 = 0 ∨ l1 = 1) ∧ Q l1 I J)))) : wp S (d + 1) 56 2 [some (.ref 41), some (.int l1), none, none] [] (wv x I J) (rI x Q) := by
  refine wp_seg (C := gC56) (pc1 := 13) (Lo1 := [some (.ref 41), some (.int l1), none, none]) (st1' := [.int (I 3 4), .int (I 41 3)]) (w1 := (wv x I J)) hC56 5 rfl ?_
  refine wj_ge (tgt := 136) rfl rfl (fun h => ?_) (fun h => ?_)
  · have k := k.1 h
    refine wp_seg (C := gC56) (pc1 := 22) (Lo1 := [some (.ref 41), some (.int l1), none, none]) (st1' := [.int (30 : Int32), .int (I 41 3)]) (w1 := (wv x I J)) hC56 3 rfl ?_
    refine wj_ge (tgt := 136) rfl rfl (fun h => ?_) (fun h => ?_)
    · have k := k.1 h
      refine wp_seg (C := gC56) (pc1 := 36) (Lo1 := [some (.ref 41), some (.int l1), none, none]) (st1' := [.int (I 41 3), .ref 12]) (w1 := (wv x I J)) hC56 5 rfl ?_
      refine wa_i (n := 30) rfl (by decide) rfl k.1 ?_
      have k := k.2
      refine wp_seg (C := gC56) (pc1 := 41) (Lo1 := [some (.ref 41), some (.int l1), none, none]) (st1' := [.int (I 41 2), .int (I 12 ((I 41 3).toNatClampNeg))]) (w1 := (wv x I J)) hC56 2 rfl ?_
      refine wj_gt (tgt := 136) rfl rfl (fun h => ?_) (fun h => ?_)
      · have k := k.1 h
        refine wp_seg (C := gC56) (pc1 := 137) (Lo1 := [some (.ref 41), some (.int l1), none, none]) (st1' := [.int l1]) (w1 := (wv x I J)) hC56 1 rfl ?_
        exact we_z rfl rfl k.1 k.2
      · have k := k.2 h
        refine wp_seg (C := gC56) (pc1 := 55) (Lo1 := [some (.ref 41), some (.int l1), none, none]) (st1' := [.int (I 41 3), .ref 13]) (w1 := (wv x I J)) hC56 5 rfl ?_
        refine wa_i (n := 30) rfl (by decide) rfl k.1 ?_
        have k := k.2
        refine wp_seg (C := gC56) (pc1 := 59) (Lo1 := [some (.ref 41), some (.int l1), some (.int (I 13 ((I 41 3).toNatClampNeg))), none]) (st1' := [.int (3 : Int32), .int (I 13 ((I 41 3).toNatClampNeg))]) (w1 := (wv x I J)) hC56 3 rfl ?_
        refine wj_ne (tgt := 67) rfl rfl (fun h => ?_) (fun h => ?_)
        · have k := k.1 h
          refine wp_seg (C := gC56) (pc1 := 2) (Lo1 := [some (.ref 41), some (.int (1 : Int32)), some (.int (I 13 ((I 41 3).toNatClampNeg))), none]) (st1' := []) (w1 := (wv x (mSet I 41 3 ((I 41 3) + (1 : Int32))) J)) hC56 10 rfl ?_
          exact wp_sub (Lo := [some (.ref 41), some (.int (1 : Int32)), none, none]) (And.intro rfl (And.intro rfl (trivial))) k
        · have k := k.2 h
          refine wp_seg (C := gC56) (pc1 := 78) (Lo1 := [some (.ref 41), some (.int l1), some (.int (I 13 ((I 41 3).toNatClampNeg))), none]) (st1' := [.int (I 41 3), .ref 14]) (w1 := (wv x I J)) hC56 5 rfl ?_
          refine wa_i (n := 30) rfl (by decide) rfl k.1 ?_
          have k := k.2
          refine wp_seg (C := gC56) (pc1 := 87) (Lo1 := [some (.ref 41), some (.int l1), some (.int (I 13 ((I 41 3).toNatClampNeg))), some (.int (I 14 ((I 41 3).toNatClampNeg)))]) (st1' := [.int (I 13 ((I 41 3).toNatClampNeg)), .int (I 14 ((I 41 3).toNatClampNeg)), .long (J 41 5), .ref 41]) (w1 := (wv x I J)) hC56 6 rfl ?_
          refine wi_ne (tgt := 94) rfl rfl (fun h => ?_) (fun h => ?_)
          · have k := k.1 h
            refine wp_seg (C := gC56) (pc1 := 95) (Lo1 := [some (.ref 41), some (.int l1), some (.int (I 13 ((I 41 3).toNatClampNeg))), some (.int (I 14 ((I 41 3).toNatClampNeg)))]) (st1' := [.int (1 : Int32), .int (I 14 ((I 41 3).toNatClampNeg)), .long (J 41 5), .ref 41]) (w1 := (wv x I J)) hC56 2 rfl ?_
            exact k
          · have k := k.2 h
            refine wp_seg (C := gC56) (pc1 := 95) (Lo1 := [some (.ref 41), some (.int l1), some (.int (I 13 ((I 41 3).toNatClampNeg))), some (.int (I 14 ((I 41 3).toNatClampNeg)))]) (st1' := [.int (0 : Int32), .int (I 14 ((I 41 3).toNatClampNeg)), .long (J 41 5), .ref 41]) (w1 := (wv x I J)) hC56 1 rfl ?_
            exact k
    · have k := k.2 h
      refine wp_seg (C := gC56) (pc1 := 137) (Lo1 := [some (.ref 41), some (.int l1), none, none]) (st1' := [.int l1]) (w1 := (wv x I J)) hC56 1 rfl ?_
      exact we_z rfl rfl k.1 k.2
  · have k := k.2 h
    refine wp_seg (C := gC56) (pc1 := 137) (Lo1 := [some (.ref 41), some (.int l1), none, none]) (st1' := [.int l1]) (w1 := (wv x I J)) hC56 1 rfl ?_
    exact we_z rfl rfl k.1 k.2
set_option maxRecDepth 20000 in
theorem v56_41_95 {S : Nat × (Nat → Int32)} {d : Nat} {x : mX} {I : rI0} {J : rJ0} {l1 : Int32} {l2 : Int32} {l3 : Int32} {s1 : Int64} {s2 : Int32} {s3 : Int32} {Q : Int32 → rI0 → rJ0 → Prop} (k : (wcJ S d 143 [.long s1, .int s2, .int s3] x I J (fun r1 I1 J1 => ((l2 = (1 : Int32) → (wcJ S d 143 [.long (J1 41 6), .int l3, .int (1 : Int32)] x I1 (mSet J1 41 5 r1) (fun r2 I2 J2 => wp S (d + 1) 56 2 [some (.ref 41), some (.int l1), none, none] [] (wv x (mSet I2 41 3 ((I2 41 3) + (1 : Int32))) (mSet J2 41 6 r2)) (rI x Q)))) ∧ (¬ l2 = (1 : Int32) → (wcJ S d 143 [.long (J1 41 6), .int l3, .int (0 : Int32)] x I1 (mSet J1 41 5 r1) (fun r3 I3 J3 => wp S (d + 1) 56 2 [some (.ref 41), some (.int l1), none, none] [] (wv x (mSet I3 41 3 ((I3 41 3) + (1 : Int32))) (mSet J3 41 6 r3)) (rI x Q)))))))) : wp S (d + 1) 56 95 [some (.ref 41), some (.int l1), some (.int l2), some (.int l3)] [.int s3, .int s2, .long s1, .ref 41] (wv x I J) (rI x Q) := by
  refine cs_J (mj := 143) (nn := 1) (as := [.long s1, .int s2, .int s3]) (r := [.ref 41]) rfl rfl rfl ⟨rfl, by decide, Nat.le_of_ble_eq_true rfl, Nat.le_of_ble_eq_true rfl⟩ (by decide) (wcJ_mono k (fun r1 I1 J1 k => ?_))
  refine wp_seg (C := gC56) (pc1 := 109) (Lo1 := [some (.ref 41), some (.int l1), some (.int l2), some (.int l3)]) (st1' := [.int (1 : Int32), .int l2, .int l3, .long (J1 41 6), .ref 41]) (w1 := (wv x I1 (mSet J1 41 5 r1))) hC56 7 rfl ?_
  refine wj_ne (tgt := 116) rfl rfl (fun h => ?_) (fun h => ?_)
  · have k := k.1 h
    refine wp_seg (C := gC56) (pc1 := 117) (Lo1 := [some (.ref 41), some (.int l1), some (.int l2), some (.int l3)]) (st1' := [.int (1 : Int32), .int l3, .long (J1 41 6), .ref 41]) (w1 := (wv x I1 (mSet J1 41 5 r1))) hC56 2 rfl ?_
    refine cs_J (mj := 143) (nn := 1) (as := [.long (J1 41 6), .int l3, .int (1 : Int32)]) (r := [.ref 41]) rfl rfl rfl ⟨rfl, by decide, Nat.le_of_ble_eq_true rfl, Nat.le_of_ble_eq_true rfl⟩ (by decide) (wcJ_mono k (fun r2 I2 J2 k => ?_))
    refine wp_seg (C := gC56) (pc1 := 2) (Lo1 := [some (.ref 41), some (.int l1), some (.int l2), some (.int l3)]) (st1' := []) (w1 := (wv x (mSet I2 41 3 ((I2 41 3) + (1 : Int32))) (mSet J2 41 6 r2))) hC56 8 rfl ?_
    exact wp_sub (Lo := [some (.ref 41), some (.int l1), none, none]) (And.intro rfl (And.intro rfl (trivial))) k
  · have k := k.2 h
    refine wp_seg (C := gC56) (pc1 := 117) (Lo1 := [some (.ref 41), some (.int l1), some (.int l2), some (.int l3)]) (st1' := [.int (0 : Int32), .int l3, .long (J1 41 6), .ref 41]) (w1 := (wv x I1 (mSet J1 41 5 r1))) hC56 1 rfl ?_
    refine cs_J (mj := 143) (nn := 1) (as := [.long (J1 41 6), .int l3, .int (0 : Int32)]) (r := [.ref 41]) rfl rfl rfl ⟨rfl, by decide, Nat.le_of_ble_eq_true rfl, Nat.le_of_ble_eq_true rfl⟩ (by decide) (wcJ_mono k (fun r3 I3 J3 k => ?_))
    refine wp_seg (C := gC56) (pc1 := 2) (Lo1 := [some (.ref 41), some (.int l1), some (.int l2), some (.int l3)]) (st1' := []) (w1 := (wv x (mSet I3 41 3 ((I3 41 3) + (1 : Int32))) (mSet J3 41 6 r3))) hC56 8 rfl ?_
    exact wp_sub (Lo := [some (.ref 41), some (.int l1), none, none]) (And.intro rfl (And.intro rfl (trivial))) k
set_option maxRecDepth 20000 in
theorem v57_41_0 {S : Nat × (Nat → Int32)} {d : Nat} {x : mX} {I : rI0} {J : rJ0} {Q : rI0 → rJ0 → Prop} (k : wp S (d + 1) 57 2 [some (.ref 41), some (.int (0 : Int32))] [] (wv x I J) (rV x Q)) : wp S (d + 1) 57 0 [some (.ref 41), none] [] (wv x I J) (rV x Q) := by
  refine wp_seg (C := gC57) (pc1 := 2) (Lo1 := [some (.ref 41), some (.int (0 : Int32))]) (st1' := []) (w1 := (wv x I J)) hC57 2 rfl ?_
  exact k
set_option maxRecDepth 20000 in
theorem v57_41_2 {S : Nat × (Nat → Int32)} {d : Nat} {x : mX} {I : rI0} {J : rJ0} {l1 : Int32} {Q : rI0 → rJ0 → Prop} (k : ((l1 < (I 4 0) → (¬ mOut l1 8 ∧ (((I 8 l1.toNatClampNeg) = (I 41 2) → (wcJ S d 28 [.ref 4, .int l1] x I J (fun r1 I1 J1 => wp S (d + 1) 57 2 [some (.ref 41), some (.int (l1 + (1 : Int32)))] [] (wv x I1 (mSet J1 41 7 ((J 41 7) ||| r1))) (rV x Q)))) ∧ (¬ (I 8 l1.toNatClampNeg) = (I 41 2) → wp S (d + 1) 57 2 [some (.ref 41), some (.int (l1 + (1 : Int32)))] [] (wv x I J) (rV x Q))))) ∧ (¬ l1 < (I 4 0) → Q I J))) : wp S (d + 1) 57 2 [some (.ref 41), some (.int l1)] [] (wv x I J) (rV x Q) := by
  refine wp_seg (C := gC57) (pc1 := 10) (Lo1 := [some (.ref 41), some (.int l1)]) (st1' := [.int (I 4 0), .int l1]) (w1 := (wv x I J)) hC57 4 rfl ?_
  refine wj_ge (tgt := 52) rfl rfl (fun h => ?_) (fun h => ?_)
  · have k := k.1 h
    refine wp_seg (C := gC57) (pc1 := 21) (Lo1 := [some (.ref 41), some (.int l1)]) (st1' := [.int l1, .ref 8]) (w1 := (wv x I J)) hC57 4 rfl ?_
    refine wa_i (n := 8) rfl (by decide) rfl k.1 ?_
    have k := k.2
    refine wp_seg (C := gC57) (pc1 := 26) (Lo1 := [some (.ref 41), some (.int l1)]) (st1' := [.int (I 41 2), .int (I 8 l1.toNatClampNeg)]) (w1 := (wv x I J)) hC57 2 rfl ?_
    refine wj_ne (tgt := 46) rfl rfl (fun h => ?_) (fun h => ?_)
    · have k := k.1 h
      refine wp_seg (C := gC57) (pc1 := 39) (Lo1 := [some (.ref 41), some (.int l1)]) (st1' := [.int l1, .ref 4, .long (J 41 7), .ref 41]) (w1 := (wv x I J)) hC57 6 rfl ?_
      refine cv_J (mj := 28) (a := 4) (as := [.int l1]) (r := [.long (J 41 7), .ref 41]) rfl rfl rfl ⟨rfl, by decide, Nat.le_of_ble_eq_true rfl, Nat.le_of_ble_eq_true rfl⟩ rfl (wcJ_mono k (fun r1 I1 J1 k => ?_))
      refine wp_seg (C := gC57) (pc1 := 2) (Lo1 := [some (.ref 41), some (.int (l1 + (1 : Int32)))]) (st1' := []) (w1 := (wv x I1 (mSet J1 41 7 ((J 41 7) ||| r1)))) hC57 4 rfl ?_
      exact k
    · have k := k.2 h
      refine wp_seg (C := gC57) (pc1 := 2) (Lo1 := [some (.ref 41), some (.int (l1 + (1 : Int32)))]) (st1' := []) (w1 := (wv x I J)) hC57 2 rfl ?_
      exact k
  · have k := k.2 h
    exact we_v rfl rfl k
set_option maxRecDepth 20000 in
theorem v58_41_0 {S : Nat × (Nat → Int32)} {d : Nat} {x : mX} {I : rI0} {J : rJ0} {Q : Int64 → rI0 → rJ0 → Prop} (k : (((I 4 3) < (I 41 2) → Q (0 : Int64) I J) ∧ (¬ (I 4 3) < (I 41 2) → Q (((J 41 5) &&& ((J 41 6) ^^^ (-1 : Int64))) &&& ((J 41 7) ^^^ (-1 : Int64))) I J))) : wp S d 58 0 [some (.ref 41)] [] (wv x I J) (rJ x Q) := by
  refine wp_seg (C := gC58) (pc1 := 11) (Lo1 := [some (.ref 41)]) (st1' := [.int (I 4 3), .int (I 41 2)]) (w1 := (wv x I J)) hC58 5 rfl ?_
  refine wj_gt (tgt := 39) rfl rfl (fun h => ?_) (fun h => ?_)
  · have k := k.1 h
    refine wp_seg (C := gC58) (pc1 := 40) (Lo1 := [some (.ref 41)]) (st1' := [.long (0 : Int64)]) (w1 := (wv x I J)) hC58 1 rfl ?_
    exact we_l rfl rfl k
  · have k := k.2 h
    refine wp_seg (C := gC58) (pc1 := 36) (Lo1 := [some (.ref 41)]) (st1' := [.long (((J 41 5) &&& ((J 41 6) ^^^ (-1 : Int64))) &&& ((J 41 7) ^^^ (-1 : Int64)))]) (w1 := (wv x I J)) hC58 12 rfl ?_
    refine wp_seg (C := gC58) (pc1 := 40) (Lo1 := [some (.ref 41)]) (st1' := [.long (((J 41 5) &&& ((J 41 6) ^^^ (-1 : Int64))) &&& ((J 41 7) ^^^ (-1 : Int64)))]) (w1 := (wv x I J)) hC58 1 rfl ?_
    exact we_l rfl rfl k
set_option maxRecDepth 20000 in
theorem v55_41_0 {S : Nat × (Nat → Int32)} {d : Nat} {x : mX} {I : rI0} {J : rJ0} {Q : rI0 → rJ0 → Prop} (k : (wcI S d 56 [.ref 41] x (mSet I 41 2 ((I 41 2) + (1 : Int32))) J (fun r1 I1 J1 => (wcV S d 57 [.ref 41] x I1 J1 (fun I2 J2 => (wcJ S d 58 [.ref 41] x I2 J2 (fun r3 I3 J3 => ((r1 = (0 : Int32) → wp S (d + 1) 55 49 [some (.ref 41), some (.int r1), some (.long r3), none, none, none, none, none, none, none, none] [.long ((r3 ||| (J3 41 6)) ||| (J3 41 7))] (wv x I3 J3) (rV x Q)) ∧ (¬ r1 = (0 : Int32) → wp S (d + 1) 55 49 [some (.ref 41), some (.int r1), some (.long r3), none, none, none, none, none, none, none, none] [.long (J3 4 5)] (wv x I3 J3) (rV x Q)))))))))) : wp S (d + 1) 55 0 [some (.ref 41), none, none, none, none, none, none, none, none, none, none] [] (wv x I J) (rV x Q) := by
  refine wp_seg (C := gC55) (pc1 := 11) (Lo1 := [some (.ref 41), none, none, none, none, none, none, none, none, none, none]) (st1' := [.ref 41]) (w1 := (wv x (mSet I 41 2 ((I 41 2) + (1 : Int32))) J)) hC55 7 rfl ?_
  refine cv_I (mj := 56) (a := 41) (as := []) (r := []) rfl rfl rfl ⟨rfl, by decide, Nat.le_of_ble_eq_true rfl, Nat.le_of_ble_eq_true rfl⟩ rfl (wcI_mono k (fun r1 I1 J1 k => ?_))
  refine wp_seg (C := gC55) (pc1 := 16) (Lo1 := [some (.ref 41), some (.int r1), none, none, none, none, none, none, none, none, none]) (st1' := [.ref 41]) (w1 := (wv x I1 J1)) hC55 2 rfl ?_
  refine cv_V (mj := 57) (a := 41) (as := []) (r := []) rfl rfl rfl ⟨rfl, by decide, Nat.le_of_ble_eq_true rfl, Nat.le_of_ble_eq_true rfl⟩ rfl (wcV_mono k (fun I2 J2 k => ?_))
  refine wp_seg (C := gC55) (pc1 := 20) (Lo1 := [some (.ref 41), some (.int r1), none, none, none, none, none, none, none, none, none]) (st1' := [.ref 41]) (w1 := (wv x I2 J2)) hC55 1 rfl ?_
  refine cv_J (mj := 58) (a := 41) (as := []) (r := []) rfl rfl rfl ⟨rfl, by decide, Nat.le_of_ble_eq_true rfl, Nat.le_of_ble_eq_true rfl⟩ rfl (wcJ_mono k (fun r3 I3 J3 k => ?_))
  refine wp_seg (C := gC55) (pc1 := 25) (Lo1 := [some (.ref 41), some (.int r1), some (.long r3), none, none, none, none, none, none, none, none]) (st1' := [.int r1]) (w1 := (wv x I3 J3)) hC55 2 rfl ?_
  refine wi_eq (tgt := 38) rfl rfl (fun h => ?_) (fun h => ?_)
  · have k := k.1 h
    refine wp_seg (C := gC55) (pc1 := 49) (Lo1 := [some (.ref 41), some (.int r1), some (.long r3), none, none, none, none, none, none, none, none]) (st1' := [.long ((r3 ||| (J3 41 6)) ||| (J3 41 7))]) (w1 := (wv x I3 J3)) hC55 7 rfl ?_
    exact k
  · have k := k.2 h
    refine wp_seg (C := gC55) (pc1 := 49) (Lo1 := [some (.ref 41), some (.int r1), some (.long r3), none, none, none, none, none, none, none, none]) (st1' := [.long (J3 4 5)]) (w1 := (wv x I3 J3)) hC55 4 rfl ?_
    exact k
set_option maxRecDepth 20000 in
theorem v55_41_49 {S : Nat × (Nat → Int32)} {d : Nat} {x : mX} {I : rI0} {J : rJ0} {l1 : Int32} {l2 : Int64} {s0 : Int64} {Q : rI0 → rJ0 → Prop} (k : (((I 4 4) = (0 : Int32) → (wcV S d 59 [.ref 41, .long (J 4 5), .long l2, .long s0] x I J (fun I1 J1 => wp S (d + 1) 55 127 [some (.ref 41), some (.int l1), some (.long l2), none, some (.long s0), none, some (.long (J 41 8)), none, some (.long (J 41 9)), none, none] [] (wv x I1 J1) (rV x Q)))) ∧ (¬ (I 4 4) = (0 : Int32) → wp S (d + 1) 55 76 [some (.ref 41), some (.int l1), some (.long l2), none, some (.long s0), none, some (.long (J 41 8)), none, some (.long (J 41 9)), none, some (.int (0 : Int32))] [] (wv x I J) (rV x Q)))) : wp S (d + 1) 55 49 [some (.ref 41), some (.int l1), some (.long l2), none, none, none, none, none, none, none, none] [.long s0] (wv x I J) (rV x Q) := by
  refine wp_seg (C := gC55) (pc1 := 57) (Lo1 := [some (.ref 41), some (.int l1), some (.long l2), none, some (.long s0), none, some (.long (J 41 8)), none, none, none, none]) (st1' := []) (w1 := (wv x I J)) hC55 4 rfl ?_
  refine wp_seg (C := gC55) (pc1 := 70) (Lo1 := [some (.ref 41), some (.int l1), some (.long l2), none, some (.long s0), none, some (.long (J 41 8)), none, some (.long (J 41 9)), none, none]) (st1' := [.int (I 4 4)]) (w1 := (wv x I J)) hC55 6 rfl ?_
  refine wi_eq (tgt := 113) rfl rfl (fun h => ?_) (fun h => ?_)
  · have k := k.1 h
    refine wp_seg (C := gC55) (pc1 := 124) (Lo1 := [some (.ref 41), some (.int l1), some (.long l2), none, some (.long s0), none, some (.long (J 41 8)), none, some (.long (J 41 9)), none, none]) (st1' := [.long s0, .long l2, .long (J 4 5), .ref 41]) (w1 := (wv x I J)) hC55 6 rfl ?_
    refine cv_V (mj := 59) (a := 41) (as := [.long (J 4 5), .long l2, .long s0]) (r := []) rfl rfl rfl ⟨rfl, by decide, Nat.le_of_ble_eq_true rfl, Nat.le_of_ble_eq_true rfl⟩ rfl (wcV_mono k (fun I1 J1 k => ?_))
    exact k
  · have k := k.2 h
    refine wp_seg (C := gC55) (pc1 := 76) (Lo1 := [some (.ref 41), some (.int l1), some (.long l2), none, some (.long s0), none, some (.long (J 41 8)), none, some (.long (J 41 9)), none, some (.int (0 : Int32))]) (st1' := []) (w1 := (wv x I J)) hC55 2 rfl ?_
    exact k
set_option maxRecDepth 20000 in
theorem v55_41_76 {S : Nat × (Nat → Int32)} {d : Nat} {x : mX} {I : rI0} {J : rJ0} {l1 : Int32} {l2 : Int64} {l4 : Int64} {l6 : Int64} {l8 : Int64} {l10 : Int32} {Q : rI0 → rJ0 → Prop} (k : ((l10 < (I 4 0) → (wcJ S d 28 [.ref 4, .int l10] x I J (fun r1 I1 J1 => (wcV S d 59 [.ref 41, .long r1, .long l2, .long l4] x I1 J1 (fun I2 J2 => wp S (d + 1) 55 76 [some (.ref 41), some (.int l1), some (.long l2), none, some (.long l4), none, some (.long l6), none, some (.long l8), none, some (.int (l10 + (1 : Int32)))] [] (wv x I2 J2) (rV x Q)))))) ∧ (¬ l10 < (I 4 0) → wp S (d + 1) 55 127 [some (.ref 41), some (.int l1), some (.long l2), none, some (.long l4), none, some (.long l6), none, some (.long l8), none, none] [] (wv x I J) (rV x Q)))) : wp S (d + 1) 55 76 [some (.ref 41), some (.int l1), some (.long l2), none, some (.long l4), none, some (.long l6), none, some (.long l8), none, some (.int l10)] [] (wv x I J) (rV x Q) := by
  refine wp_seg (C := gC55) (pc1 := 85) (Lo1 := [some (.ref 41), some (.int l1), some (.long l2), none, some (.long l4), none, some (.long l6), none, some (.long l8), none, some (.int l10)]) (st1' := [.int (I 4 0), .int l10]) (w1 := (wv x I J)) hC55 4 rfl ?_
  refine wj_ge (tgt := 110) rfl rfl (fun h => ?_) (fun h => ?_)
  · have k := k.1 h
    refine wp_seg (C := gC55) (pc1 := 95) (Lo1 := [some (.ref 41), some (.int l1), some (.long l2), none, some (.long l4), none, some (.long l6), none, some (.long l8), none, some (.int l10)]) (st1' := [.int l10, .ref 4, .ref 41]) (w1 := (wv x I J)) hC55 4 rfl ?_
    refine cv_J (mj := 28) (a := 4) (as := [.int l10]) (r := [.ref 41]) rfl rfl rfl ⟨rfl, by decide, Nat.le_of_ble_eq_true rfl, Nat.le_of_ble_eq_true rfl⟩ rfl (wcJ_mono k (fun r1 I1 J1 k => ?_))
    refine wp_seg (C := gC55) (pc1 := 101) (Lo1 := [some (.ref 41), some (.int l1), some (.long l2), none, some (.long l4), none, some (.long l6), none, some (.long l8), none, some (.int l10)]) (st1' := [.long l4, .long l2, .long r1, .ref 41]) (w1 := (wv x I1 J1)) hC55 2 rfl ?_
    refine cv_V (mj := 59) (a := 41) (as := [.long r1, .long l2, .long l4]) (r := []) rfl rfl rfl ⟨rfl, by decide, Nat.le_of_ble_eq_true rfl, Nat.le_of_ble_eq_true rfl⟩ rfl (wcV_mono k (fun I2 J2 k => ?_))
    refine wp_seg (C := gC55) (pc1 := 76) (Lo1 := [some (.ref 41), some (.int l1), some (.long l2), none, some (.long l4), none, some (.long l6), none, some (.long l8), none, some (.int (l10 + (1 : Int32)))]) (st1' := []) (w1 := (wv x I2 J2)) hC55 2 rfl ?_
    exact k
  · have k := k.2 h
    refine wp_seg (C := gC55) (pc1 := 127) (Lo1 := [some (.ref 41), some (.int l1), some (.long l2), none, some (.long l4), none, some (.long l6), none, some (.long l8), none, some (.int l10)]) (st1' := []) (w1 := (wv x I J)) hC55 1 rfl ?_
    exact wp_sub (Lo := [some (.ref 41), some (.int l1), some (.long l2), none, some (.long l4), none, some (.long l6), none, some (.long l8), none, none]) (And.intro rfl (And.intro rfl (And.intro rfl (And.intro rfl (And.intro rfl (And.intro rfl (trivial))))))) k
set_option maxRecDepth 20000 in
theorem v55_41_127 {S : Nat × (Nat → Int32)} {d : Nat} {x : mX} {I : rI0} {J : rJ0} {l1 : Int32} {l2 : Int64} {l4 : Int64} {l6 : Int64} {l8 : Int64} {Q : rI0 → rJ0 → Prop} (k : (wcV S d 60 [.ref 41, .long (((J 4 5) &&& (((J 41 8) ^^^ l6) ^^^ (-1 : Int64))) &&& (((J 41 9) ^^^ l8) ^^^ (-1 : Int64)))] x I J (fun I1 J1 => Q I1 J1))) : wp S (d + 1) 55 127 [some (.ref 41), some (.int l1), some (.long l2), none, some (.long l4), none, some (.long l6), none, some (.long l8), none, none] [] (wv x I J) (rV x Q) := by
  refine wp_seg (C := gC55) (pc1 := 148) (Lo1 := [some (.ref 41), some (.int l1), some (.long l2), none, some (.long l4), none, some (.long l6), none, some (.long l8), none, none]) (st1' := [.ref 41, .long ((J 4 5) &&& (((J 41 8) ^^^ l6) ^^^ (-1 : Int64))), .ref 41]) (w1 := (wv x I J)) hC55 12 rfl ?_
  refine wp_seg (C := gC55) (pc1 := 159) (Lo1 := [some (.ref 41), some (.int l1), some (.long l2), none, some (.long l4), none, some (.long l6), none, some (.long l8), none, none]) (st1' := [.long (((J 4 5) &&& (((J 41 8) ^^^ l6) ^^^ (-1 : Int64))) &&& (((J 41 9) ^^^ l8) ^^^ (-1 : Int64))), .ref 41]) (w1 := (wv x I J)) hC55 6 rfl ?_
  refine cv_V (mj := 60) (a := 41) (as := [.long (((J 4 5) &&& (((J 41 8) ^^^ l6) ^^^ (-1 : Int64))) &&& (((J 41 9) ^^^ l8) ^^^ (-1 : Int64)))]) (r := []) rfl rfl rfl ⟨rfl, by decide, Nat.le_of_ble_eq_true rfl, Nat.le_of_ble_eq_true rfl⟩ rfl (wcV_mono k (fun I1 J1 k => ?_))
  exact we_v rfl rfl k
set_option maxRecDepth 20000 in
theorem v19_3_0 {S : Nat × (Nat → Int32)} {d : Nat} {x : mX} {I : rI0} {J : rJ0} {Q : Int32 → rI0 → rJ0 → Prop} (k : (((lg_cmp (J 3 5) (0 : Int64)) = (0 : Int32) → wp S d 19 17 [some (.ref 3), some (.int (0 : Int32)), some (.int (0 : Int32))] [] (wv x I J) (rI x Q)) ∧ (¬ (lg_cmp (J 3 5) (0 : Int64)) = (0 : Int32) → wp S d 19 17 [some (.ref 3), some (.int (1 : Int32)), some (.int (0 : Int32))] [] (wv x I J) (rI x Q)))) : wp S d 19 0 [some (.ref 3), none, none] [] (wv x I J) (rI x Q) := by
  refine wp_seg (C := gC19) (pc1 := 6) (Lo1 := [some (.ref 3), none, none]) (st1' := [.int (lg_cmp (J 3 5) (0 : Int64))]) (w1 := (wv x I J)) hC19 4 rfl ?_
  refine wi_eq (tgt := 13) rfl rfl (fun h => ?_) (fun h => ?_)
  · have k := k.1 h
    refine wp_seg (C := gC19) (pc1 := 17) (Lo1 := [some (.ref 3), some (.int (0 : Int32)), some (.int (0 : Int32))]) (st1' := []) (w1 := (wv x I J)) hC19 4 rfl ?_
    exact k
  · have k := k.2 h
    refine wp_seg (C := gC19) (pc1 := 17) (Lo1 := [some (.ref 3), some (.int (1 : Int32)), some (.int (0 : Int32))]) (st1' := []) (w1 := (wv x I J)) hC19 5 rfl ?_
    exact k
set_option maxRecDepth 20000 in
theorem v19_3_17 {S : Nat × (Nat → Int32)} {d : Nat} {x : mX} {I : rI0} {J : rJ0} {l1 : Int32} {l2 : Int32} {Q : Int32 → rI0 → rJ0 → Prop} (k : ((l2 < (I 3 4) → ((l2 < (30 : Int32) → ((l1 = (0 : Int32) → (¬ mOut l2 30 ∧ (((I 13 l2.toNatClampNeg) = (0 : Int32) → wp S d 19 17 [some (.ref 3), some (.int (1 : Int32)), some (.int (l2 + (1 : Int32)))] [] (wv x I J) (rI x Q)) ∧ (¬ (I 13 l2.toNatClampNeg) = (0 : Int32) → wp S d 19 17 [some (.ref 3), some (.int (0 : Int32)), some (.int (l2 + (1 : Int32)))] [] (wv x I J) (rI x Q))))) ∧ (¬ l1 = (0 : Int32) → wp S d 19 17 [some (.ref 3), some (.int (1 : Int32)), some (.int (l2 + (1 : Int32)))] [] (wv x I J) (rI x Q)))) ∧ (¬ l2 < (30 : Int32) → ((l1 = 0 ∨ l1 = 1) ∧ Q l1 I J)))) ∧ (¬ l2 < (I 3 4) → ((l1 = 0 ∨ l1 = 1) ∧ Q l1 I J)))) : wp S d 19 17 [some (.ref 3), some (.int l1), some (.int l2)] [] (wv x I J) (rI x Q) := by
  refine wp_seg (C := gC19) (pc1 := 22) (Lo1 := [some (.ref 3), some (.int l1), some (.int l2)]) (st1' := [.int (I 3 4), .int l2]) (w1 := (wv x I J)) hC19 3 rfl ?_
  refine wj_ge (tgt := 56) rfl rfl (fun h => ?_) (fun h => ?_)
  · have k := k.1 h
    refine wp_seg (C := gC19) (pc1 := 28) (Lo1 := [some (.ref 3), some (.int l1), some (.int l2)]) (st1' := [.int (30 : Int32), .int l2]) (w1 := (wv x I J)) hC19 2 rfl ?_
    refine wj_ge (tgt := 56) rfl rfl (fun h => ?_) (fun h => ?_)
    · have k := k.1 h
      refine wp_seg (C := gC19) (pc1 := 32) (Lo1 := [some (.ref 3), some (.int l1), some (.int l2)]) (st1' := [.int l1]) (w1 := (wv x I J)) hC19 1 rfl ?_
      refine wi_ne (tgt := 44) rfl rfl (fun h => ?_) (fun h => ?_)
      · have k := k.1 h
        refine wp_seg (C := gC19) (pc1 := 40) (Lo1 := [some (.ref 3), some (.int l1), some (.int l2)]) (st1' := [.int l2, .ref 13]) (w1 := (wv x I J)) hC19 3 rfl ?_
        refine wa_i (n := 30) rfl (by decide) rfl k.1 ?_
        have k := k.2
        refine wi_ne (tgt := 48) rfl rfl (fun h => ?_) (fun h => ?_)
        · have k := k.1 h
          refine wp_seg (C := gC19) (pc1 := 53) (Lo1 := [some (.ref 3), some (.int (1 : Int32)), some (.int (l2 + (1 : Int32)))]) (st1' := []) (w1 := (wv x I J)) hC19 4 rfl ?_
          refine wp_seg (C := gC19) (pc1 := 17) (Lo1 := [some (.ref 3), some (.int (1 : Int32)), some (.int (l2 + (1 : Int32)))]) (st1' := []) (w1 := (wv x I J)) hC19 1 rfl ?_
          exact k
        · have k := k.2 h
          refine wp_seg (C := gC19) (pc1 := 53) (Lo1 := [some (.ref 3), some (.int (0 : Int32)), some (.int (l2 + (1 : Int32)))]) (st1' := []) (w1 := (wv x I J)) hC19 3 rfl ?_
          refine wp_seg (C := gC19) (pc1 := 17) (Lo1 := [some (.ref 3), some (.int (0 : Int32)), some (.int (l2 + (1 : Int32)))]) (st1' := []) (w1 := (wv x I J)) hC19 1 rfl ?_
          exact k
      · have k := k.2 h
        refine wp_seg (C := gC19) (pc1 := 53) (Lo1 := [some (.ref 3), some (.int (1 : Int32)), some (.int (l2 + (1 : Int32)))]) (st1' := []) (w1 := (wv x I J)) hC19 4 rfl ?_
        refine wp_seg (C := gC19) (pc1 := 17) (Lo1 := [some (.ref 3), some (.int (1 : Int32)), some (.int (l2 + (1 : Int32)))]) (st1' := []) (w1 := (wv x I J)) hC19 1 rfl ?_
        exact k
    · have k := k.2 h
      refine wp_seg (C := gC19) (pc1 := 57) (Lo1 := [some (.ref 3), some (.int l1), some (.int l2)]) (st1' := [.int l1]) (w1 := (wv x I J)) hC19 1 rfl ?_
      exact we_z rfl rfl k.1 k.2
  · have k := k.2 h
    refine wp_seg (C := gC19) (pc1 := 57) (Lo1 := [some (.ref 3), some (.int l1), some (.int l2)]) (st1' := [.int l1]) (w1 := (wv x I J)) hC19 1 rfl ?_
    exact we_z rfl rfl k.1 k.2
set_option maxRecDepth 20000 in
theorem v12_31_0 {S : Nat × (Nat → Int32)} {d : Nat} {x : mX} {I : rI0} {J : rJ0} {p1 : Int32} {p2 : Int32} {Q : Int32 → rI0 → rJ0 → Prop} (k : (¬ mOut p1 601 ∧ (¬ mOut p2 601 ∧ (((lg_cmp (J 32 p1.toNatClampNeg) (J 32 p2.toNatClampNeg)) = (0 : Int32) → (¬ mOut p1 601 ∧ (¬ mOut p2 601 ∧ (((lg_cmp (J 33 p1.toNatClampNeg) (J 33 p2.toNatClampNeg)) = (0 : Int32) → (¬ mOut p1 601 ∧ (¬ mOut p2 601 ∧ (((lg_cmp (J 34 p1.toNatClampNeg) (J 34 p2.toNatClampNeg)) = (0 : Int32) → (¬ mOut p1 601 ∧ (¬ mOut p2 601 ∧ (((lg_cmp (J 35 p1.toNatClampNeg) (J 35 p2.toNatClampNeg)) = (0 : Int32) → Q (1 : Int32) I J) ∧ (¬ (lg_cmp (J 35 p1.toNatClampNeg) (J 35 p2.toNatClampNeg)) = (0 : Int32) → Q (0 : Int32) I J))))) ∧ (¬ (lg_cmp (J 34 p1.toNatClampNeg) (J 34 p2.toNatClampNeg)) = (0 : Int32) → Q (0 : Int32) I J))))) ∧ (¬ (lg_cmp (J 33 p1.toNatClampNeg) (J 33 p2.toNatClampNeg)) = (0 : Int32) → Q (0 : Int32) I J))))) ∧ (¬ (lg_cmp (J 32 p1.toNatClampNeg) (J 32 p2.toNatClampNeg)) = (0 : Int32) → Q (0 : Int32) I J))))) : wp S d 12 0 [some (.ref 31), some (.int p1), some (.int p2)] [] (wv x I J) (rI x Q) := by
  refine wp_seg (C := gC12) (pc1 := 5) (Lo1 := [some (.ref 31), some (.int p1), some (.int p2)]) (st1' := [.int p1, .ref 32]) (w1 := (wv x I J)) hC12 3 rfl ?_
  refine wa_l (n := 601) rfl rfl k.1 ?_
  have k := k.2
  refine wp_seg (C := gC12) (pc1 := 11) (Lo1 := [some (.ref 31), some (.int p1), some (.int p2)]) (st1' := [.int p2, .ref 32, .long (J 32 p1.toNatClampNeg)]) (w1 := (wv x I J)) hC12 3 rfl ?_
  refine wa_l (n := 601) rfl rfl k.1 ?_
  have k := k.2
  refine wp_seg (C := gC12) (pc1 := 13) (Lo1 := [some (.ref 31), some (.int p1), some (.int p2)]) (st1' := [.int (lg_cmp (J 32 p1.toNatClampNeg) (J 32 p2.toNatClampNeg))]) (w1 := (wv x I J)) hC12 1 rfl ?_
  refine wi_ne (tgt := 68) rfl rfl (fun h => ?_) (fun h => ?_)
  · have k := k.1 h
    refine wp_seg (C := gC12) (pc1 := 21) (Lo1 := [some (.ref 31), some (.int p1), some (.int p2)]) (st1' := [.int p1, .ref 33]) (w1 := (wv x I J)) hC12 3 rfl ?_
    refine wa_l (n := 601) rfl rfl k.1 ?_
    have k := k.2
    refine wp_seg (C := gC12) (pc1 := 27) (Lo1 := [some (.ref 31), some (.int p1), some (.int p2)]) (st1' := [.int p2, .ref 33, .long (J 33 p1.toNatClampNeg)]) (w1 := (wv x I J)) hC12 3 rfl ?_
    refine wa_l (n := 601) rfl rfl k.1 ?_
    have k := k.2
    refine wp_seg (C := gC12) (pc1 := 29) (Lo1 := [some (.ref 31), some (.int p1), some (.int p2)]) (st1' := [.int (lg_cmp (J 33 p1.toNatClampNeg) (J 33 p2.toNatClampNeg))]) (w1 := (wv x I J)) hC12 1 rfl ?_
    refine wi_ne (tgt := 68) rfl rfl (fun h => ?_) (fun h => ?_)
    · have k := k.1 h
      refine wp_seg (C := gC12) (pc1 := 37) (Lo1 := [some (.ref 31), some (.int p1), some (.int p2)]) (st1' := [.int p1, .ref 34]) (w1 := (wv x I J)) hC12 3 rfl ?_
      refine wa_l (n := 601) rfl rfl k.1 ?_
      have k := k.2
      refine wp_seg (C := gC12) (pc1 := 43) (Lo1 := [some (.ref 31), some (.int p1), some (.int p2)]) (st1' := [.int p2, .ref 34, .long (J 34 p1.toNatClampNeg)]) (w1 := (wv x I J)) hC12 3 rfl ?_
      refine wa_l (n := 601) rfl rfl k.1 ?_
      have k := k.2
      refine wp_seg (C := gC12) (pc1 := 45) (Lo1 := [some (.ref 31), some (.int p1), some (.int p2)]) (st1' := [.int (lg_cmp (J 34 p1.toNatClampNeg) (J 34 p2.toNatClampNeg))]) (w1 := (wv x I J)) hC12 1 rfl ?_
      refine wi_ne (tgt := 68) rfl rfl (fun h => ?_) (fun h => ?_)
      · have k := k.1 h
        refine wp_seg (C := gC12) (pc1 := 53) (Lo1 := [some (.ref 31), some (.int p1), some (.int p2)]) (st1' := [.int p1, .ref 35]) (w1 := (wv x I J)) hC12 3 rfl ?_
        refine wa_l (n := 601) rfl rfl k.1 ?_
        have k := k.2
        refine wp_seg (C := gC12) (pc1 := 59) (Lo1 := [some (.ref 31), some (.int p1), some (.int p2)]) (st1' := [.int p2, .ref 35, .long (J 35 p1.toNatClampNeg)]) (w1 := (wv x I J)) hC12 3 rfl ?_
        refine wa_l (n := 601) rfl rfl k.1 ?_
        have k := k.2
        refine wp_seg (C := gC12) (pc1 := 61) (Lo1 := [some (.ref 31), some (.int p1), some (.int p2)]) (st1' := [.int (lg_cmp (J 35 p1.toNatClampNeg) (J 35 p2.toNatClampNeg))]) (w1 := (wv x I J)) hC12 1 rfl ?_
        refine wi_ne (tgt := 68) rfl rfl (fun h => ?_) (fun h => ?_)
        · have k := k.1 h
          refine wp_seg (C := gC12) (pc1 := 69) (Lo1 := [some (.ref 31), some (.int p1), some (.int p2)]) (st1' := [.int (1 : Int32)]) (w1 := (wv x I J)) hC12 2 rfl ?_
          exact we_z rfl rfl (Or.inr rfl) k
        · have k := k.2 h
          refine wp_seg (C := gC12) (pc1 := 69) (Lo1 := [some (.ref 31), some (.int p1), some (.int p2)]) (st1' := [.int (0 : Int32)]) (w1 := (wv x I J)) hC12 1 rfl ?_
          exact we_z rfl rfl (Or.inl rfl) k
      · have k := k.2 h
        refine wp_seg (C := gC12) (pc1 := 69) (Lo1 := [some (.ref 31), some (.int p1), some (.int p2)]) (st1' := [.int (0 : Int32)]) (w1 := (wv x I J)) hC12 1 rfl ?_
        exact we_z rfl rfl (Or.inl rfl) k
    · have k := k.2 h
      refine wp_seg (C := gC12) (pc1 := 69) (Lo1 := [some (.ref 31), some (.int p1), some (.int p2)]) (st1' := [.int (0 : Int32)]) (w1 := (wv x I J)) hC12 1 rfl ?_
      exact we_z rfl rfl (Or.inl rfl) k
  · have k := k.2 h
    refine wp_seg (C := gC12) (pc1 := 69) (Lo1 := [some (.ref 31), some (.int p1), some (.int p2)]) (st1' := [.int (0 : Int32)]) (w1 := (wv x I J)) hC12 1 rfl ?_
    exact we_z rfl rfl (Or.inl rfl) k
set_option maxRecDepth 20000 in
theorem v82_37_0 {S : Nat × (Nat → Int32)} {d : Nat} {x : mX} {I : rI0} {J : rJ0} {p1 : Int32} {p2 : Int32} {Q : Int64 → rI0 → rJ0 → Prop} (k : wp S d 82 5 [some (.ref 37), some (.int p1), some (.int p2), some (.long (0 : Int64)), none, some (.int (0 : Int32))] [] (wv x I J) (rJ x Q)) : wp S d 82 0 [some (.ref 37), some (.int p1), some (.int p2), none, none, none] [] (wv x I J) (rJ x Q) := by
  refine wp_seg (C := gC82) (pc1 := 5) (Lo1 := [some (.ref 37), some (.int p1), some (.int p2), some (.long (0 : Int64)), none, some (.int (0 : Int32))]) (st1' := []) (w1 := (wv x I J)) hC82 4 rfl ?_
  exact k
set_option maxRecDepth 20000 in
theorem v82_37_5 {S : Nat × (Nat → Int32)} {d : Nat} {x : mX} {I : rI0} {J : rJ0} {l1 : Int32} {l2 : Int32} {l3 : Int64} {l5 : Int32} {Q : Int64 → rI0 → rJ0 → Prop} (k : ((l5 < l2 → (((((l1.toUInt32 >>> (l5.toUInt32 &&& Int32.toUInt32 31)).toInt32) &&& (1 : Int32)) = (0 : Int32) → wp S d 82 5 [some (.ref 37), some (.int l1), some (.int l2), some (.long l3), none, some (.int (l5 + (1 : Int32)))] [] (wv x I J) (rJ x Q)) ∧ (¬ (((l1.toUInt32 >>> (l5.toUInt32 &&& Int32.toUInt32 31)).toInt32) &&& (1 : Int32)) = (0 : Int32) → (¬ mOut l5 940 ∧ wp S d 82 5 [some (.ref 37), some (.int l1), some (.int l2), some (.long (l3 ||| ((1 : Int64) <<< ((I 2 l5.toNatClampNeg).toInt64 &&& 63)))), none, some (.int (l5 + (1 : Int32)))] [] (wv x I J) (rJ x Q))))) ∧ (¬ l5 < l2 → Q l3 I J))) : wp S d 82 5 [some (.ref 37), some (.int l1), some (.int l2), some (.long l3), none, some (.int l5)] [] (wv x I J) (rJ x Q) := by
  refine wp_seg (C := gC82) (pc1 := 8) (Lo1 := [some (.ref 37), some (.int l1), some (.int l2), some (.long l3), none, some (.int l5)]) (st1' := [.int l2, .int l5]) (w1 := (wv x I J)) hC82 2 rfl ?_
  refine wj_ge (tgt := 38) rfl rfl (fun h => ?_) (fun h => ?_)
  · have k := k.1 h
    refine wp_seg (C := gC82) (pc1 := 17) (Lo1 := [some (.ref 37), some (.int l1), some (.int l2), some (.long l3), none, some (.int l5)]) (st1' := [.int (((l1.toUInt32 >>> (l5.toUInt32 &&& Int32.toUInt32 31)).toInt32) &&& (1 : Int32))]) (w1 := (wv x I J)) hC82 5 rfl ?_
    refine wi_eq (tgt := 32) rfl rfl (fun h => ?_) (fun h => ?_)
    · have k := k.1 h
      refine wp_seg (C := gC82) (pc1 := 5) (Lo1 := [some (.ref 37), some (.int l1), some (.int l2), some (.long l3), none, some (.int (l5 + (1 : Int32)))]) (st1' := []) (w1 := (wv x I J)) hC82 2 rfl ?_
      exact k
    · have k := k.2 h
      refine wp_seg (C := gC82) (pc1 := 28) (Lo1 := [some (.ref 37), some (.int l1), some (.int l2), some (.long l3), none, some (.int l5)]) (st1' := [.int l5, .ref 2, .long (1 : Int64), .long l3]) (w1 := (wv x I J)) hC82 5 rfl ?_
      refine wa_i (n := 940) rfl (by decide) rfl k.1 ?_
      have k := k.2
      refine wp_seg (C := gC82) (pc1 := 35) (Lo1 := [some (.ref 37), some (.int l1), some (.int l2), some (.long (l3 ||| ((1 : Int64) <<< ((I 2 l5.toNatClampNeg).toInt64 &&& 63)))), none, some (.int (l5 + (1 : Int32)))]) (st1' := []) (w1 := (wv x I J)) hC82 4 rfl ?_
      refine wp_seg (C := gC82) (pc1 := 5) (Lo1 := [some (.ref 37), some (.int l1), some (.int l2), some (.long (l3 ||| ((1 : Int64) <<< ((I 2 l5.toNatClampNeg).toInt64 &&& 63)))), none, some (.int (l5 + (1 : Int32)))]) (st1' := []) (w1 := (wv x I J)) hC82 1 rfl ?_
      exact k
  · have k := k.2 h
    refine wp_seg (C := gC82) (pc1 := 39) (Lo1 := [some (.ref 37), some (.int l1), some (.int l2), some (.long l3), none, some (.int l5)]) (st1' := [.long l3]) (w1 := (wv x I J)) hC82 1 rfl ?_
    exact we_l rfl rfl k
set_option maxRecDepth 20000 in
theorem v83_37_0 {S : Nat × (Nat → Int32)} {d : Nat} {x : mX} {I : rI0} {J : rJ0} {p1 : Int32} {p2 : Int32} {Q : Int32 → rI0 → rJ0 → Prop} (k : wp S (d + 1) 83 5 [some (.ref 37), some (.int p1), some (.int p2), some (.int (0 : Int32)), some (.int (0 : Int32))] [] (wv x I J) (rI x Q)) : wp S (d + 1) 83 0 [some (.ref 37), some (.int p1), some (.int p2), none, none] [] (wv x I J) (rI x Q) := by
  refine wp_seg (C := gC83) (pc1 := 5) (Lo1 := [some (.ref 37), some (.int p1), some (.int p2), some (.int (0 : Int32)), some (.int (0 : Int32))]) (st1' := []) (w1 := (wv x I J)) hC83 4 rfl ?_
  exact k
set_option maxRecDepth 20000 in
theorem v83_37_5 {S : Nat × (Nat → Int32)} {d : Nat} {x : mX} {I : rI0} {J : rJ0} {l1 : Int32} {l2 : Int32} {l3 : Int32} {l4 : Int32} {Q : Int32 → rI0 → rJ0 → Prop} (k : ((l4 < l2 → (((((l1.toUInt32 >>> (l4.toUInt32 &&& Int32.toUInt32 31)).toInt32) &&& (1 : Int32)) = (0 : Int32) → wp S (d + 1) 83 5 [some (.ref 37), some (.int l1), some (.int l2), some (.int l3), some (.int (l4 + (1 : Int32)))] [] (wv x I J) (rI x Q)) ∧ (¬ (((l1.toUInt32 >>> (l4.toUInt32 &&& Int32.toUInt32 31)).toInt32) &&& (1 : Int32)) = (0 : Int32) → (¬ mOut l4 940 ∧ (wcI S d 26 [.ref 4, .int (I 2 l4.toNatClampNeg)] x I J (fun r1 I1 J1 => wp S (d + 1) 83 5 [some (.ref 37), some (.int l1), some (.int l2), some (.int (l3 + r1)), some (.int (l4 + (1 : Int32)))] [] (wv x I1 J1) (rI x Q))))))) ∧ (¬ l4 < l2 → Q l3 I J))) : wp S (d + 1) 83 5 [some (.ref 37), some (.int l1), some (.int l2), some (.int l3), some (.int l4)] [] (wv x I J) (rI x Q) := by
  refine wp_seg (C := gC83) (pc1 := 8) (Lo1 := [some (.ref 37), some (.int l1), some (.int l2), some (.int l3), some (.int l4)]) (st1' := [.int l2, .int l4]) (w1 := (wv x I J)) hC83 2 rfl ?_
  refine wj_ge (tgt := 46) rfl rfl (fun h => ?_) (fun h => ?_)
  · have k := k.1 h
    refine wp_seg (C := gC83) (pc1 := 17) (Lo1 := [some (.ref 37), some (.int l1), some (.int l2), some (.int l3), some (.int l4)]) (st1' := [.int (((l1.toUInt32 >>> (l4.toUInt32 &&& Int32.toUInt32 31)).toInt32) &&& (1 : Int32))]) (w1 := (wv x I J)) hC83 5 rfl ?_
    refine wi_eq (tgt := 40) rfl rfl (fun h => ?_) (fun h => ?_)
    · have k := k.1 h
      refine wp_seg (C := gC83) (pc1 := 5) (Lo1 := [some (.ref 37), some (.int l1), some (.int l2), some (.int l3), some (.int (l4 + (1 : Int32)))]) (st1' := []) (w1 := (wv x I J)) hC83 2 rfl ?_
      exact k
    · have k := k.2 h
      refine wp_seg (C := gC83) (pc1 := 34) (Lo1 := [some (.ref 37), some (.int l1), some (.int l2), some (.int l3), some (.int l4)]) (st1' := [.int l4, .ref 2, .ref 4, .int l3]) (w1 := (wv x I J)) hC83 7 rfl ?_
      refine wa_i (n := 940) rfl (by decide) rfl k.1 ?_
      have k := k.2
      refine cv_I (mj := 26) (a := 4) (as := [.int (I 2 l4.toNatClampNeg)]) (r := [.int l3]) rfl rfl rfl ⟨rfl, by decide, Nat.le_of_ble_eq_true rfl, Nat.le_of_ble_eq_true rfl⟩ rfl (wcI_mono k (fun r1 I1 J1 k => ?_))
      refine wp_seg (C := gC83) (pc1 := 43) (Lo1 := [some (.ref 37), some (.int l1), some (.int l2), some (.int (l3 + r1)), some (.int (l4 + (1 : Int32)))]) (st1' := []) (w1 := (wv x I1 J1)) hC83 3 rfl ?_
      refine wp_seg (C := gC83) (pc1 := 5) (Lo1 := [some (.ref 37), some (.int l1), some (.int l2), some (.int (l3 + r1)), some (.int (l4 + (1 : Int32)))]) (st1' := []) (w1 := (wv x I1 J1)) hC83 1 rfl ?_
      exact k
  · have k := k.2 h
    refine wp_seg (C := gC83) (pc1 := 47) (Lo1 := [some (.ref 37), some (.int l1), some (.int l2), some (.int l3), some (.int l4)]) (st1' := [.int l3]) (w1 := (wv x I J)) hC83 1 rfl ?_
    exact we_i rfl rfl k
set_option maxRecDepth 20000 in
theorem v249_0 {S : Nat × (Nat → Int32)} {d : Nat} {x : mX} {I : rI0} {J : rJ0} {p0 : Int32} {Q : Int32 → rI0 → rJ0 → Prop} (k : Q ((((((((p0 - (((p0.toUInt32 >>> ((1 : Int32).toUInt32 &&& Int32.toUInt32 31)).toInt32) &&& (1431655765 : Int32))) &&& (858993459 : Int32)) + ((((p0 - (((p0.toUInt32 >>> ((1 : Int32).toUInt32 &&& Int32.toUInt32 31)).toInt32) &&& (1431655765 : Int32))).toUInt32 >>> ((2 : Int32).toUInt32 &&& Int32.toUInt32 31)).toInt32) &&& (858993459 : Int32))) + (((((p0 - (((p0.toUInt32 >>> ((1 : Int32).toUInt32 &&& Int32.toUInt32 31)).toInt32) &&& (1431655765 : Int32))) &&& (858993459 : Int32)) + ((((p0 - (((p0.toUInt32 >>> ((1 : Int32).toUInt32 &&& Int32.toUInt32 31)).toInt32) &&& (1431655765 : Int32))).toUInt32 >>> ((2 : Int32).toUInt32 &&& Int32.toUInt32 31)).toInt32) &&& (858993459 : Int32))).toUInt32 >>> ((4 : Int32).toUInt32 &&& Int32.toUInt32 31)).toInt32)) &&& (252645135 : Int32)) + (((((((p0 - (((p0.toUInt32 >>> ((1 : Int32).toUInt32 &&& Int32.toUInt32 31)).toInt32) &&& (1431655765 : Int32))) &&& (858993459 : Int32)) + ((((p0 - (((p0.toUInt32 >>> ((1 : Int32).toUInt32 &&& Int32.toUInt32 31)).toInt32) &&& (1431655765 : Int32))).toUInt32 >>> ((2 : Int32).toUInt32 &&& Int32.toUInt32 31)).toInt32) &&& (858993459 : Int32))) + (((((p0 - (((p0.toUInt32 >>> ((1 : Int32).toUInt32 &&& Int32.toUInt32 31)).toInt32) &&& (1431655765 : Int32))) &&& (858993459 : Int32)) + ((((p0 - (((p0.toUInt32 >>> ((1 : Int32).toUInt32 &&& Int32.toUInt32 31)).toInt32) &&& (1431655765 : Int32))).toUInt32 >>> ((2 : Int32).toUInt32 &&& Int32.toUInt32 31)).toInt32) &&& (858993459 : Int32))).toUInt32 >>> ((4 : Int32).toUInt32 &&& Int32.toUInt32 31)).toInt32)) &&& (252645135 : Int32)).toUInt32 >>> ((8 : Int32).toUInt32 &&& Int32.toUInt32 31)).toInt32)) + ((((((((p0 - (((p0.toUInt32 >>> ((1 : Int32).toUInt32 &&& Int32.toUInt32 31)).toInt32) &&& (1431655765 : Int32))) &&& (858993459 : Int32)) + ((((p0 - (((p0.toUInt32 >>> ((1 : Int32).toUInt32 &&& Int32.toUInt32 31)).toInt32) &&& (1431655765 : Int32))).toUInt32 >>> ((2 : Int32).toUInt32 &&& Int32.toUInt32 31)).toInt32) &&& (858993459 : Int32))) + (((((p0 - (((p0.toUInt32 >>> ((1 : Int32).toUInt32 &&& Int32.toUInt32 31)).toInt32) &&& (1431655765 : Int32))) &&& (858993459 : Int32)) + ((((p0 - (((p0.toUInt32 >>> ((1 : Int32).toUInt32 &&& Int32.toUInt32 31)).toInt32) &&& (1431655765 : Int32))).toUInt32 >>> ((2 : Int32).toUInt32 &&& Int32.toUInt32 31)).toInt32) &&& (858993459 : Int32))).toUInt32 >>> ((4 : Int32).toUInt32 &&& Int32.toUInt32 31)).toInt32)) &&& (252645135 : Int32)) + (((((((p0 - (((p0.toUInt32 >>> ((1 : Int32).toUInt32 &&& Int32.toUInt32 31)).toInt32) &&& (1431655765 : Int32))) &&& (858993459 : Int32)) + ((((p0 - (((p0.toUInt32 >>> ((1 : Int32).toUInt32 &&& Int32.toUInt32 31)).toInt32) &&& (1431655765 : Int32))).toUInt32 >>> ((2 : Int32).toUInt32 &&& Int32.toUInt32 31)).toInt32) &&& (858993459 : Int32))) + (((((p0 - (((p0.toUInt32 >>> ((1 : Int32).toUInt32 &&& Int32.toUInt32 31)).toInt32) &&& (1431655765 : Int32))) &&& (858993459 : Int32)) + ((((p0 - (((p0.toUInt32 >>> ((1 : Int32).toUInt32 &&& Int32.toUInt32 31)).toInt32) &&& (1431655765 : Int32))).toUInt32 >>> ((2 : Int32).toUInt32 &&& Int32.toUInt32 31)).toInt32) &&& (858993459 : Int32))).toUInt32 >>> ((4 : Int32).toUInt32 &&& Int32.toUInt32 31)).toInt32)) &&& (252645135 : Int32)).toUInt32 >>> ((8 : Int32).toUInt32 &&& Int32.toUInt32 31)).toInt32)).toUInt32 >>> ((16 : Int32).toUInt32 &&& Int32.toUInt32 31)).toInt32)) &&& (63 : Int32)) I J) : wp S d 249 0 [some (.int p0)] [] (wv x I J) (rI x Q) := by
  refine wp_seg (C := gC249) (pc1 := 16) (Lo1 := [some (.int (p0 - (((p0.toUInt32 >>> ((1 : Int32).toUInt32 &&& Int32.toUInt32 31)).toInt32) &&& (1431655765 : Int32))))]) (st1' := [.int (p0 - (((p0.toUInt32 >>> ((1 : Int32).toUInt32 &&& Int32.toUInt32 31)).toInt32) &&& (1431655765 : Int32))), .int ((p0 - (((p0.toUInt32 >>> ((1 : Int32).toUInt32 &&& Int32.toUInt32 31)).toInt32) &&& (1431655765 : Int32))) &&& (858993459 : Int32))]) (w1 := (wv x I J)) hC249 12 rfl ?_
  refine wp_seg (C := gC249) (pc1 := 32) (Lo1 := [some (.int (((p0 - (((p0.toUInt32 >>> ((1 : Int32).toUInt32 &&& Int32.toUInt32 31)).toInt32) &&& (1431655765 : Int32))) &&& (858993459 : Int32)) + ((((p0 - (((p0.toUInt32 >>> ((1 : Int32).toUInt32 &&& Int32.toUInt32 31)).toInt32) &&& (1431655765 : Int32))).toUInt32 >>> ((2 : Int32).toUInt32 &&& Int32.toUInt32 31)).toInt32) &&& (858993459 : Int32))))]) (st1' := [.int (252645135 : Int32), .int ((((p0 - (((p0.toUInt32 >>> ((1 : Int32).toUInt32 &&& Int32.toUInt32 31)).toInt32) &&& (1431655765 : Int32))) &&& (858993459 : Int32)) + ((((p0 - (((p0.toUInt32 >>> ((1 : Int32).toUInt32 &&& Int32.toUInt32 31)).toInt32) &&& (1431655765 : Int32))).toUInt32 >>> ((2 : Int32).toUInt32 &&& Int32.toUInt32 31)).toInt32) &&& (858993459 : Int32))) + (((((p0 - (((p0.toUInt32 >>> ((1 : Int32).toUInt32 &&& Int32.toUInt32 31)).toInt32) &&& (1431655765 : Int32))) &&& (858993459 : Int32)) + ((((p0 - (((p0.toUInt32 >>> ((1 : Int32).toUInt32 &&& Int32.toUInt32 31)).toInt32) &&& (1431655765 : Int32))).toUInt32 >>> ((2 : Int32).toUInt32 &&& Int32.toUInt32 31)).toInt32) &&& (858993459 : Int32))).toUInt32 >>> ((4 : Int32).toUInt32 &&& Int32.toUInt32 31)).toInt32))]) (w1 := (wv x I J)) hC249 12 rfl ?_
  refine wp_seg (C := gC249) (pc1 := 41) (Lo1 := [some (.int ((((((p0 - (((p0.toUInt32 >>> ((1 : Int32).toUInt32 &&& Int32.toUInt32 31)).toInt32) &&& (1431655765 : Int32))) &&& (858993459 : Int32)) + ((((p0 - (((p0.toUInt32 >>> ((1 : Int32).toUInt32 &&& Int32.toUInt32 31)).toInt32) &&& (1431655765 : Int32))).toUInt32 >>> ((2 : Int32).toUInt32 &&& Int32.toUInt32 31)).toInt32) &&& (858993459 : Int32))) + (((((p0 - (((p0.toUInt32 >>> ((1 : Int32).toUInt32 &&& Int32.toUInt32 31)).toInt32) &&& (1431655765 : Int32))) &&& (858993459 : Int32)) + ((((p0 - (((p0.toUInt32 >>> ((1 : Int32).toUInt32 &&& Int32.toUInt32 31)).toInt32) &&& (1431655765 : Int32))).toUInt32 >>> ((2 : Int32).toUInt32 &&& Int32.toUInt32 31)).toInt32) &&& (858993459 : Int32))).toUInt32 >>> ((4 : Int32).toUInt32 &&& Int32.toUInt32 31)).toInt32)) &&& (252645135 : Int32)) + (((((((p0 - (((p0.toUInt32 >>> ((1 : Int32).toUInt32 &&& Int32.toUInt32 31)).toInt32) &&& (1431655765 : Int32))) &&& (858993459 : Int32)) + ((((p0 - (((p0.toUInt32 >>> ((1 : Int32).toUInt32 &&& Int32.toUInt32 31)).toInt32) &&& (1431655765 : Int32))).toUInt32 >>> ((2 : Int32).toUInt32 &&& Int32.toUInt32 31)).toInt32) &&& (858993459 : Int32))) + (((((p0 - (((p0.toUInt32 >>> ((1 : Int32).toUInt32 &&& Int32.toUInt32 31)).toInt32) &&& (1431655765 : Int32))) &&& (858993459 : Int32)) + ((((p0 - (((p0.toUInt32 >>> ((1 : Int32).toUInt32 &&& Int32.toUInt32 31)).toInt32) &&& (1431655765 : Int32))).toUInt32 >>> ((2 : Int32).toUInt32 &&& Int32.toUInt32 31)).toInt32) &&& (858993459 : Int32))).toUInt32 >>> ((4 : Int32).toUInt32 &&& Int32.toUInt32 31)).toInt32)) &&& (252645135 : Int32)).toUInt32 >>> ((8 : Int32).toUInt32 &&& Int32.toUInt32 31)).toInt32)))]) (st1' := []) (w1 := (wv x I J)) hC249 8 rfl ?_
  refine wp_seg (C := gC249) (pc1 := 52) (Lo1 := [some (.int (((((((p0 - (((p0.toUInt32 >>> ((1 : Int32).toUInt32 &&& Int32.toUInt32 31)).toInt32) &&& (1431655765 : Int32))) &&& (858993459 : Int32)) + ((((p0 - (((p0.toUInt32 >>> ((1 : Int32).toUInt32 &&& Int32.toUInt32 31)).toInt32) &&& (1431655765 : Int32))).toUInt32 >>> ((2 : Int32).toUInt32 &&& Int32.toUInt32 31)).toInt32) &&& (858993459 : Int32))) + (((((p0 - (((p0.toUInt32 >>> ((1 : Int32).toUInt32 &&& Int32.toUInt32 31)).toInt32) &&& (1431655765 : Int32))) &&& (858993459 : Int32)) + ((((p0 - (((p0.toUInt32 >>> ((1 : Int32).toUInt32 &&& Int32.toUInt32 31)).toInt32) &&& (1431655765 : Int32))).toUInt32 >>> ((2 : Int32).toUInt32 &&& Int32.toUInt32 31)).toInt32) &&& (858993459 : Int32))).toUInt32 >>> ((4 : Int32).toUInt32 &&& Int32.toUInt32 31)).toInt32)) &&& (252645135 : Int32)) + (((((((p0 - (((p0.toUInt32 >>> ((1 : Int32).toUInt32 &&& Int32.toUInt32 31)).toInt32) &&& (1431655765 : Int32))) &&& (858993459 : Int32)) + ((((p0 - (((p0.toUInt32 >>> ((1 : Int32).toUInt32 &&& Int32.toUInt32 31)).toInt32) &&& (1431655765 : Int32))).toUInt32 >>> ((2 : Int32).toUInt32 &&& Int32.toUInt32 31)).toInt32) &&& (858993459 : Int32))) + (((((p0 - (((p0.toUInt32 >>> ((1 : Int32).toUInt32 &&& Int32.toUInt32 31)).toInt32) &&& (1431655765 : Int32))) &&& (858993459 : Int32)) + ((((p0 - (((p0.toUInt32 >>> ((1 : Int32).toUInt32 &&& Int32.toUInt32 31)).toInt32) &&& (1431655765 : Int32))).toUInt32 >>> ((2 : Int32).toUInt32 &&& Int32.toUInt32 31)).toInt32) &&& (858993459 : Int32))).toUInt32 >>> ((4 : Int32).toUInt32 &&& Int32.toUInt32 31)).toInt32)) &&& (252645135 : Int32)).toUInt32 >>> ((8 : Int32).toUInt32 &&& Int32.toUInt32 31)).toInt32)) + ((((((((p0 - (((p0.toUInt32 >>> ((1 : Int32).toUInt32 &&& Int32.toUInt32 31)).toInt32) &&& (1431655765 : Int32))) &&& (858993459 : Int32)) + ((((p0 - (((p0.toUInt32 >>> ((1 : Int32).toUInt32 &&& Int32.toUInt32 31)).toInt32) &&& (1431655765 : Int32))).toUInt32 >>> ((2 : Int32).toUInt32 &&& Int32.toUInt32 31)).toInt32) &&& (858993459 : Int32))) + (((((p0 - (((p0.toUInt32 >>> ((1 : Int32).toUInt32 &&& Int32.toUInt32 31)).toInt32) &&& (1431655765 : Int32))) &&& (858993459 : Int32)) + ((((p0 - (((p0.toUInt32 >>> ((1 : Int32).toUInt32 &&& Int32.toUInt32 31)).toInt32) &&& (1431655765 : Int32))).toUInt32 >>> ((2 : Int32).toUInt32 &&& Int32.toUInt32 31)).toInt32) &&& (858993459 : Int32))).toUInt32 >>> ((4 : Int32).toUInt32 &&& Int32.toUInt32 31)).toInt32)) &&& (252645135 : Int32)) + (((((((p0 - (((p0.toUInt32 >>> ((1 : Int32).toUInt32 &&& Int32.toUInt32 31)).toInt32) &&& (1431655765 : Int32))) &&& (858993459 : Int32)) + ((((p0 - (((p0.toUInt32 >>> ((1 : Int32).toUInt32 &&& Int32.toUInt32 31)).toInt32) &&& (1431655765 : Int32))).toUInt32 >>> ((2 : Int32).toUInt32 &&& Int32.toUInt32 31)).toInt32) &&& (858993459 : Int32))) + (((((p0 - (((p0.toUInt32 >>> ((1 : Int32).toUInt32 &&& Int32.toUInt32 31)).toInt32) &&& (1431655765 : Int32))) &&& (858993459 : Int32)) + ((((p0 - (((p0.toUInt32 >>> ((1 : Int32).toUInt32 &&& Int32.toUInt32 31)).toInt32) &&& (1431655765 : Int32))).toUInt32 >>> ((2 : Int32).toUInt32 &&& Int32.toUInt32 31)).toInt32) &&& (858993459 : Int32))).toUInt32 >>> ((4 : Int32).toUInt32 &&& Int32.toUInt32 31)).toInt32)) &&& (252645135 : Int32)).toUInt32 >>> ((8 : Int32).toUInt32 &&& Int32.toUInt32 31)).toInt32)).toUInt32 >>> ((16 : Int32).toUInt32 &&& Int32.toUInt32 31)).toInt32)))]) (st1' := [.int ((((((((p0 - (((p0.toUInt32 >>> ((1 : Int32).toUInt32 &&& Int32.toUInt32 31)).toInt32) &&& (1431655765 : Int32))) &&& (858993459 : Int32)) + ((((p0 - (((p0.toUInt32 >>> ((1 : Int32).toUInt32 &&& Int32.toUInt32 31)).toInt32) &&& (1431655765 : Int32))).toUInt32 >>> ((2 : Int32).toUInt32 &&& Int32.toUInt32 31)).toInt32) &&& (858993459 : Int32))) + (((((p0 - (((p0.toUInt32 >>> ((1 : Int32).toUInt32 &&& Int32.toUInt32 31)).toInt32) &&& (1431655765 : Int32))) &&& (858993459 : Int32)) + ((((p0 - (((p0.toUInt32 >>> ((1 : Int32).toUInt32 &&& Int32.toUInt32 31)).toInt32) &&& (1431655765 : Int32))).toUInt32 >>> ((2 : Int32).toUInt32 &&& Int32.toUInt32 31)).toInt32) &&& (858993459 : Int32))).toUInt32 >>> ((4 : Int32).toUInt32 &&& Int32.toUInt32 31)).toInt32)) &&& (252645135 : Int32)) + (((((((p0 - (((p0.toUInt32 >>> ((1 : Int32).toUInt32 &&& Int32.toUInt32 31)).toInt32) &&& (1431655765 : Int32))) &&& (858993459 : Int32)) + ((((p0 - (((p0.toUInt32 >>> ((1 : Int32).toUInt32 &&& Int32.toUInt32 31)).toInt32) &&& (1431655765 : Int32))).toUInt32 >>> ((2 : Int32).toUInt32 &&& Int32.toUInt32 31)).toInt32) &&& (858993459 : Int32))) + (((((p0 - (((p0.toUInt32 >>> ((1 : Int32).toUInt32 &&& Int32.toUInt32 31)).toInt32) &&& (1431655765 : Int32))) &&& (858993459 : Int32)) + ((((p0 - (((p0.toUInt32 >>> ((1 : Int32).toUInt32 &&& Int32.toUInt32 31)).toInt32) &&& (1431655765 : Int32))).toUInt32 >>> ((2 : Int32).toUInt32 &&& Int32.toUInt32 31)).toInt32) &&& (858993459 : Int32))).toUInt32 >>> ((4 : Int32).toUInt32 &&& Int32.toUInt32 31)).toInt32)) &&& (252645135 : Int32)).toUInt32 >>> ((8 : Int32).toUInt32 &&& Int32.toUInt32 31)).toInt32)) + ((((((((p0 - (((p0.toUInt32 >>> ((1 : Int32).toUInt32 &&& Int32.toUInt32 31)).toInt32) &&& (1431655765 : Int32))) &&& (858993459 : Int32)) + ((((p0 - (((p0.toUInt32 >>> ((1 : Int32).toUInt32 &&& Int32.toUInt32 31)).toInt32) &&& (1431655765 : Int32))).toUInt32 >>> ((2 : Int32).toUInt32 &&& Int32.toUInt32 31)).toInt32) &&& (858993459 : Int32))) + (((((p0 - (((p0.toUInt32 >>> ((1 : Int32).toUInt32 &&& Int32.toUInt32 31)).toInt32) &&& (1431655765 : Int32))) &&& (858993459 : Int32)) + ((((p0 - (((p0.toUInt32 >>> ((1 : Int32).toUInt32 &&& Int32.toUInt32 31)).toInt32) &&& (1431655765 : Int32))).toUInt32 >>> ((2 : Int32).toUInt32 &&& Int32.toUInt32 31)).toInt32) &&& (858993459 : Int32))).toUInt32 >>> ((4 : Int32).toUInt32 &&& Int32.toUInt32 31)).toInt32)) &&& (252645135 : Int32)) + (((((((p0 - (((p0.toUInt32 >>> ((1 : Int32).toUInt32 &&& Int32.toUInt32 31)).toInt32) &&& (1431655765 : Int32))) &&& (858993459 : Int32)) + ((((p0 - (((p0.toUInt32 >>> ((1 : Int32).toUInt32 &&& Int32.toUInt32 31)).toInt32) &&& (1431655765 : Int32))).toUInt32 >>> ((2 : Int32).toUInt32 &&& Int32.toUInt32 31)).toInt32) &&& (858993459 : Int32))) + (((((p0 - (((p0.toUInt32 >>> ((1 : Int32).toUInt32 &&& Int32.toUInt32 31)).toInt32) &&& (1431655765 : Int32))) &&& (858993459 : Int32)) + ((((p0 - (((p0.toUInt32 >>> ((1 : Int32).toUInt32 &&& Int32.toUInt32 31)).toInt32) &&& (1431655765 : Int32))).toUInt32 >>> ((2 : Int32).toUInt32 &&& Int32.toUInt32 31)).toInt32) &&& (858993459 : Int32))).toUInt32 >>> ((4 : Int32).toUInt32 &&& Int32.toUInt32 31)).toInt32)) &&& (252645135 : Int32)).toUInt32 >>> ((8 : Int32).toUInt32 &&& Int32.toUInt32 31)).toInt32)).toUInt32 >>> ((16 : Int32).toUInt32 &&& Int32.toUInt32 31)).toInt32)) &&& (63 : Int32))]) (w1 := (wv x I J)) hC249 9 rfl ?_
  exact we_i rfl rfl k
set_option maxRecDepth 20000 in
theorem v87_37_0 {S : Nat × (Nat → Int32)} {d : Nat} {x : mX} {I : rI0} {J : rJ0} {p1 : Int32} {p2 : Int32} {Q : Int32 → rI0 → rJ0 → Prop} (k : wp S d 87 2 [some (.ref 37), some (.int p1), some (.int p2), some (.int (0 : Int32))] [] (wv x I J) (rI x Q)) : wp S d 87 0 [some (.ref 37), some (.int p1), some (.int p2), none] [] (wv x I J) (rI x Q) := by
  refine wp_seg (C := gC87) (pc1 := 2) (Lo1 := [some (.ref 37), some (.int p1), some (.int p2), some (.int (0 : Int32))]) (st1' := []) (w1 := (wv x I J)) hC87 2 rfl ?_
  exact k
set_option maxRecDepth 20000 in
theorem v87_37_2 {S : Nat × (Nat → Int32)} {d : Nat} {x : mX} {I : rI0} {J : rJ0} {l1 : Int32} {l2 : Int32} {l3 : Int32} {Q : Int32 → rI0 → rJ0 → Prop} (k : ((l3 < l2 → (¬ mOut l3 256 ∧ ((((I 39 l3.toNatClampNeg) &&& (l1 ^^^ (-1 : Int32))) = (0 : Int32) → Q (1 : Int32) I J) ∧ (¬ ((I 39 l3.toNatClampNeg) &&& (l1 ^^^ (-1 : Int32))) = (0 : Int32) → wp S d 87 2 [some (.ref 37), some (.int l1), some (.int l2), some (.int (l3 + (1 : Int32)))] [] (wv x I J) (rI x Q))))) ∧ (¬ l3 < l2 → Q (0 : Int32) I J))) : wp S d 87 2 [some (.ref 37), some (.int l1), some (.int l2), some (.int l3)] [] (wv x I J) (rI x Q) := by
  refine wp_seg (C := gC87) (pc1 := 4) (Lo1 := [some (.ref 37), some (.int l1), some (.int l2), some (.int l3)]) (st1' := [.int l2, .int l3]) (w1 := (wv x I J)) hC87 2 rfl ?_
  refine wj_ge (tgt := 28) rfl rfl (fun h => ?_) (fun h => ?_)
  · have k := k.1 h
    refine wp_seg (C := gC87) (pc1 := 12) (Lo1 := [some (.ref 37), some (.int l1), some (.int l2), some (.int l3)]) (st1' := [.int l3, .ref 39]) (w1 := (wv x I J)) hC87 3 rfl ?_
    refine wa_i (n := 256) rfl (by decide) rfl k.1 ?_
    have k := k.2
    refine wp_seg (C := gC87) (pc1 := 17) (Lo1 := [some (.ref 37), some (.int l1), some (.int l2), some (.int l3)]) (st1' := [.int ((I 39 l3.toNatClampNeg) &&& (l1 ^^^ (-1 : Int32)))]) (w1 := (wv x I J)) hC87 4 rfl ?_
    refine wi_ne (tgt := 22) rfl rfl (fun h => ?_) (fun h => ?_)
    · have k := k.1 h
      refine wp_seg (C := gC87) (pc1 := 21) (Lo1 := [some (.ref 37), some (.int l1), some (.int l2), some (.int l3)]) (st1' := [.int (1 : Int32)]) (w1 := (wv x I J)) hC87 1 rfl ?_
      exact we_z rfl rfl (Or.inr rfl) k
    · have k := k.2 h
      refine wp_seg (C := gC87) (pc1 := 2) (Lo1 := [some (.ref 37), some (.int l1), some (.int l2), some (.int (l3 + (1 : Int32)))]) (st1' := []) (w1 := (wv x I J)) hC87 2 rfl ?_
      exact k
  · have k := k.2 h
    refine wp_seg (C := gC87) (pc1 := 29) (Lo1 := [some (.ref 37), some (.int l1), some (.int l2), some (.int l3)]) (st1' := [.int (0 : Int32)]) (w1 := (wv x I J)) hC87 1 rfl ?_
    exact we_z rfl rfl (Or.inl rfl) k
set_option maxRecDepth 20000 in
theorem v89_37_0 {S : Nat × (Nat → Int32)} {d : Nat} {x : mX} {I : rI0} {J : rJ0} {p1 : Int32} {p2 : Int32} {Q : Int32 → rI0 → rJ0 → Prop} (k : wp S (d + 1) 89 5 [some (.ref 37), some (.int p1), some (.int p2), some (.int (0 : Int32)), some (.int (0 : Int32)), none, none] [] (wv x I J) (rI x Q)) : wp S (d + 1) 89 0 [some (.ref 37), some (.int p1), some (.int p2), none, none, none, none] [] (wv x I J) (rI x Q) := by
  refine wp_seg (C := gC89) (pc1 := 5) (Lo1 := [some (.ref 37), some (.int p1), some (.int p2), some (.int (0 : Int32)), some (.int (0 : Int32)), none, none]) (st1' := []) (w1 := (wv x I J)) hC89 4 rfl ?_
  exact k
set_option maxRecDepth 20000 in
theorem v89_37_5 {S : Nat × (Nat → Int32)} {d : Nat} {x : mX} {I : rI0} {J : rJ0} {l1 : Int32} {l2 : Int32} {l3 : Int32} {l4 : Int32} {Q : Int32 → rI0 → rJ0 → Prop} (k : ((l4 < ((1 : Int32) <<< (l2 &&& 31)) → (((((l4.toUInt32 >>> (l1.toUInt32 &&& Int32.toUInt32 31)).toInt32) &&& (1 : Int32)) = (0 : Int32) → (wcI S d 249 [.int l4] x I J (fun r1 I1 J1 => (wcI S d 90 [.ref 37, .int r1] x I1 J1 (fun r2 I2 J2 => (wcI S d 90 [.ref 37, .int ((l2 - (1 : Int32)) - r1)] x I2 J2 (fun r3 I3 J3 => (¬ mOut (l4 ||| ((1 : Int32) <<< (l1 &&& 31))) 256 ∧ (¬ mOut l4 256 ∧ wp S (d + 1) 89 5 [some (.ref 37), some (.int l1), some (.int l2), some (.int (l3 + ((r2 * r3) * ((I3 38 ((l4 ||| ((1 : Int32) <<< (l1 &&& 31))).toNatClampNeg)) - (I3 38 l4.toNatClampNeg))))), some (.int (l4 + (1 : Int32))), none, none] [] (wv x I3 J3) (rI x Q)))))))))) ∧ (¬ (((l4.toUInt32 >>> (l1.toUInt32 &&& Int32.toUInt32 31)).toInt32) &&& (1 : Int32)) = (0 : Int32) → wp S (d + 1) 89 5 [some (.ref 37), some (.int l1), some (.int l2), some (.int l3), some (.int (l4 + (1 : Int32))), none, none] [] (wv x I J) (rI x Q)))) ∧ (¬ l4 < ((1 : Int32) <<< (l2 &&& 31)) → Q l3 I J))) : wp S (d + 1) 89 5 [some (.ref 37), some (.int l1), some (.int l2), some (.int l3), some (.int l4), none, none] [] (wv x I J) (rI x Q) := by
  refine wp_seg (C := gC89) (pc1 := 10) (Lo1 := [some (.ref 37), some (.int l1), some (.int l2), some (.int l3), some (.int l4), none, none]) (st1' := [.int ((1 : Int32) <<< (l2 &&& 31)), .int l4]) (w1 := (wv x I J)) hC89 4 rfl ?_
  refine wj_ge (tgt := 79) rfl rfl (fun h => ?_) (fun h => ?_)
  · have k := k.1 h
    refine wp_seg (C := gC89) (pc1 := 19) (Lo1 := [some (.ref 37), some (.int l1), some (.int l2), some (.int l3), some (.int l4), none, none]) (st1' := [.int (((l4.toUInt32 >>> (l1.toUInt32 &&& Int32.toUInt32 31)).toInt32) &&& (1 : Int32))]) (w1 := (wv x I J)) hC89 5 rfl ?_
    refine wi_ne (tgt := 73) rfl rfl (fun h => ?_) (fun h => ?_)
    · have k := k.1 h
      refine wp_seg (C := gC89) (pc1 := 24) (Lo1 := [some (.ref 37), some (.int l1), some (.int l2), some (.int l3), some (.int l4), none, none]) (st1' := [.int l4]) (w1 := (wv x I J)) hC89 1 rfl ?_
      refine cs_I (mj := 249) (nn := 0) (as := [.int l4]) (r := []) rfl rfl rfl ⟨rfl, by decide, Nat.le_of_ble_eq_true rfl, Nat.le_of_ble_eq_true rfl⟩ (by decide) (wcI_mono k (fun r1 I1 J1 k => ?_))
      refine wp_seg (C := gC89) (pc1 := 32) (Lo1 := [some (.ref 37), some (.int l1), some (.int l2), some (.int l3), some (.int l4), some (.int r1), none]) (st1' := [.int r1, .ref 37]) (w1 := (wv x I1 J1)) hC89 3 rfl ?_
      refine cv_I (mj := 90) (a := 37) (as := [.int r1]) (r := []) rfl rfl rfl ⟨rfl, by decide, Nat.le_of_ble_eq_true rfl, Nat.le_of_ble_eq_true rfl⟩ rfl (wcI_mono k (fun r2 I2 J2 k => ?_))
      refine wp_seg (C := gC89) (pc1 := 42) (Lo1 := [some (.ref 37), some (.int l1), some (.int l2), some (.int l3), some (.int l4), some (.int r1), none]) (st1' := [.int ((l2 - (1 : Int32)) - r1), .ref 37, .int r2]) (w1 := (wv x I2 J2)) hC89 6 rfl ?_
      refine cv_I (mj := 90) (a := 37) (as := [.int ((l2 - (1 : Int32)) - r1)]) (r := [.int r2]) rfl rfl rfl ⟨rfl, by decide, Nat.le_of_ble_eq_true rfl, Nat.le_of_ble_eq_true rfl⟩ rfl (wcI_mono k (fun r3 I3 J3 k => ?_))
      refine wp_seg (C := gC89) (pc1 := 61) (Lo1 := [some (.ref 37), some (.int l1), some (.int l2), some (.int l3), some (.int l4), some (.int r1), some (.int (r2 * r3))]) (st1' := [.int (l4 ||| ((1 : Int32) <<< (l1 &&& 31))), .ref 38, .int (r2 * r3), .int l3]) (w1 := (wv x I3 J3)) hC89 11 rfl ?_
      refine wa_i (n := 256) rfl (by decide) rfl k.1 ?_
      have k := k.2
      refine wp_seg (C := gC89) (pc1 := 68) (Lo1 := [some (.ref 37), some (.int l1), some (.int l2), some (.int l3), some (.int l4), some (.int r1), some (.int (r2 * r3))]) (st1' := [.int l4, .ref 38, .int (I3 38 ((l4 ||| ((1 : Int32) <<< (l1 &&& 31))).toNatClampNeg)), .int (r2 * r3), .int l3]) (w1 := (wv x I3 J3)) hC89 3 rfl ?_
      refine wa_i (n := 256) rfl (by decide) rfl k.1 ?_
      have k := k.2
      refine wp_seg (C := gC89) (pc1 := 76) (Lo1 := [some (.ref 37), some (.int l1), some (.int l2), some (.int (l3 + ((r2 * r3) * ((I3 38 ((l4 ||| ((1 : Int32) <<< (l1 &&& 31))).toNatClampNeg)) - (I3 38 l4.toNatClampNeg))))), some (.int (l4 + (1 : Int32))), some (.int r1), some (.int (r2 * r3))]) (st1' := []) (w1 := (wv x I3 J3)) hC89 5 rfl ?_
      refine wp_seg (C := gC89) (pc1 := 5) (Lo1 := [some (.ref 37), some (.int l1), some (.int l2), some (.int (l3 + ((r2 * r3) * ((I3 38 ((l4 ||| ((1 : Int32) <<< (l1 &&& 31))).toNatClampNeg)) - (I3 38 l4.toNatClampNeg))))), some (.int (l4 + (1 : Int32))), some (.int r1), some (.int (r2 * r3))]) (st1' := []) (w1 := (wv x I3 J3)) hC89 1 rfl ?_
      exact wp_sub (Lo := [some (.ref 37), some (.int l1), some (.int l2), some (.int (l3 + ((r2 * r3) * ((I3 38 ((l4 ||| ((1 : Int32) <<< (l1 &&& 31))).toNatClampNeg)) - (I3 38 l4.toNatClampNeg))))), some (.int (l4 + (1 : Int32))), none, none]) (And.intro rfl (And.intro rfl (And.intro rfl (And.intro rfl (And.intro rfl (trivial)))))) k
    · have k := k.2 h
      refine wp_seg (C := gC89) (pc1 := 5) (Lo1 := [some (.ref 37), some (.int l1), some (.int l2), some (.int l3), some (.int (l4 + (1 : Int32))), none, none]) (st1' := []) (w1 := (wv x I J)) hC89 2 rfl ?_
      exact k
  · have k := k.2 h
    refine wp_seg (C := gC89) (pc1 := 80) (Lo1 := [some (.ref 37), some (.int l1), some (.int l2), some (.int l3), some (.int l4), none, none]) (st1' := [.int l3]) (w1 := (wv x I J)) hC89 1 rfl ?_
    exact we_i rfl rfl k
set_option maxRecDepth 20000 in
theorem v95_37_0 {S : Nat × (Nat → Int32)} {d : Nat} {x : mX} {I : rI0} {J : rJ0} {Q : Int32 → rI0 → rJ0 → Prop} (k : (((lg_cmp ((J 41 8) &&& (J 37 14)) (J 37 15)) = (0 : Int32) → (((lg_cmp ((J 41 9) &&& (J 37 14)) (J 37 16)) = (0 : Int32) → Q (1 : Int32) I J) ∧ (¬ (lg_cmp ((J 41 9) &&& (J 37 14)) (J 37 16)) = (0 : Int32) → Q (0 : Int32) I J))) ∧ (¬ (lg_cmp ((J 41 8) &&& (J 37 14)) (J 37 15)) = (0 : Int32) → Q (0 : Int32) I J))) : wp S d 95 0 [some (.ref 37)] [] (wv x I J) (rI x Q) := by
  refine wp_seg (C := gC95) (pc1 := 17) (Lo1 := [some (.ref 37)]) (st1' := [.int (lg_cmp ((J 41 8) &&& (J 37 14)) (J 37 15))]) (w1 := (wv x I J)) hC95 9 rfl ?_
  refine wi_ne (tgt := 44) rfl rfl (fun h => ?_) (fun h => ?_)
  · have k := k.1 h
    refine wp_seg (C := gC95) (pc1 := 37) (Lo1 := [some (.ref 37)]) (st1' := [.int (lg_cmp ((J 41 9) &&& (J 37 14)) (J 37 16))]) (w1 := (wv x I J)) hC95 9 rfl ?_
    refine wi_ne (tgt := 44) rfl rfl (fun h => ?_) (fun h => ?_)
    · have k := k.1 h
      refine wp_seg (C := gC95) (pc1 := 45) (Lo1 := [some (.ref 37)]) (st1' := [.int (1 : Int32)]) (w1 := (wv x I J)) hC95 2 rfl ?_
      exact we_z rfl rfl (Or.inr rfl) k
    · have k := k.2 h
      refine wp_seg (C := gC95) (pc1 := 45) (Lo1 := [some (.ref 37)]) (st1' := [.int (0 : Int32)]) (w1 := (wv x I J)) hC95 1 rfl ?_
      exact we_z rfl rfl (Or.inl rfl) k
  · have k := k.2 h
    refine wp_seg (C := gC95) (pc1 := 45) (Lo1 := [some (.ref 37)]) (st1' := [.int (0 : Int32)]) (w1 := (wv x I J)) hC95 1 rfl ?_
    exact we_z rfl rfl (Or.inl rfl) k
