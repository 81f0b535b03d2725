section CC5
theorem zAdds_5 {S : Nat × (Nat → Int32)} {d : Nat} {x : mX} {I : rI0} {J : rJ0} {Q : Int32 → rI0 → rJ0 → Prop} (k : ∀ r, Q r I J) : ∀ (n : Nat) (l1 : Int32) (l2 : Int32) (l3 : Int32) (l4 : Int32), ((256 - l4.toInt).toNat = n) → (0 ≤ l1.toInt) → (l1.toInt < 8) → (1 ≤ l2.toInt) → (l2.toInt ≤ 8) → (0 ≤ l4.toInt) → (l4.toInt ≤ 256) → wp S (d + 1) 89 5 [some (.ref 37), some (.int l1), some (.int l2), some (.int l3), some (.int l4), none, none] [] (wv x I J) (rI x Q) := by
  refine lpn ?_
  intro n ih
  intro l1 l2 l3 l4 hm e0 e1 e2 e3 e4 e5
  refine v89_37_5 ?_
  refine ⟨fun q1 => ?_, fun q1 => ?_⟩
  · have c2 := i_lt q1
    try have t3 := i_shl (n := (l2)) (by omega)
    try have zt3 := i_shl7 (n := (l2)) (by omega)
    try have yt3 := i_rng ((1 : Int32) <<< (l2 &&& 31))
    refine ⟨fun q4 => ?_, fun q4 => ?_⟩
    · have c5 := i_eq q4
      have t6 := i_and ((l4.toUInt32 >>> (l1.toUInt32 &&& Int32.toUInt32 31)).toInt32) (m := (1 : Int32)) 1 (by decide)
      have t7 : (0 : Int32).toInt = 0 := by decide
      refine zBc  ?_
      intro r1
      refine zFact  ?_
      intro r2
      refine zFact  ?_
      intro r3
      try have t8 := i_shl (n := (l1)) (by omega)
      try have zt8 := i_shl7 (n := (l1)) (by omega)
      try have yt8 := i_rng ((1 : Int32) <<< (l1 &&& 31))
      try have t9 := i_or8 (a := (l4)) (b := ((1 : Int32) <<< (l1 &&& 31))) (by omega) (by omega)
      refine ⟨?_, ?_⟩
      · exact i_in (e := (l4 ||| ((1 : Int32) <<< (l1 &&& 31)))) (A := (l4 ||| ((1 : Int32) <<< (l1 &&& 31))).toInt) rfl (by omega)
      refine ⟨?_, ?_⟩
      · exact i_in (e := (l4)) (A := l4.toInt) rfl (by omega)
      have t12 : (1 : Int32).toInt = 1 := by decide
      have t13 : (l4 + (1 : Int32)).toInt = l4.toInt + 1 := i_add rfl t12 (by omega)
      exact ih _ (by omega) l1 l2 (l3 + ((r2 * r3) * ((I 38 ((l4 ||| ((1 : Int32) <<< (l1 &&& 31))).toNatClampNeg)) - (I 38 l4.toNatClampNeg)))) (l4 + (1 : Int32)) rfl (by omega) (by omega) (by omega) (by omega) (by omega) (by omega)
    · have c14 := i_ne q4
      have t15 := i_and ((l4.toUInt32 >>> (l1.toUInt32 &&& Int32.toUInt32 31)).toInt32) (m := (1 : Int32)) 1 (by decide)
      have t16 : (0 : Int32).toInt = 0 := by decide
      have t17 : (1 : Int32).toInt = 1 := by decide
      have t18 : (l4 + (1 : Int32)).toInt = l4.toInt + 1 := i_add rfl t17 (by omega)
      exact ih _ (by omega) l1 l2 l3 (l4 + (1 : Int32)) rfl (by omega) (by omega) (by omega) (by omega) (by omega) (by omega)
  · have c19 := i_nlt q1
    try have t20 := i_shl (n := (l2)) (by omega)
    try have zt20 := i_shl7 (n := (l2)) (by omega)
    try have yt20 := i_rng ((1 : Int32) <<< (l2 &&& 31))
    exact k _
theorem zAdds {S : Nat × (Nat → Int32)} {d : Nat} {x : mX} {I : rI0} {J : rJ0} {p1 : Int32} {p2 : Int32} {Q : Int32 → rI0 → rJ0 → Prop} (hp : 0 ≤ p1.toInt ∧ p1.toInt < 8 ∧ 1 ≤ p2.toInt ∧ p2.toInt ≤ 8) (k : ∀ r, Q r I J) : wcI S (d + 1) 89 [.ref 37, .int p1, .int p2] x I J Q := by
  refine c89_37 ?_
  have t1 : (0 : Int32).toInt = 0 := by decide
  exact zAdds_5 k _ p1 p2 ((0 : Int32)) ((0 : Int32)) rfl (by omega) (by omega) (by omega) (by omega) (by omega) (by omega)
theorem zWorth_47 {S : Nat × (Nat → Int32)} {d : Nat} {x : mX} {I0 : rI0} {J0 : rJ0} {t : Int32} {Q : Int32 → rI0 → rJ0 → Prop} (k : ∀ r I J, (CZ I0 J0 t I J) → Q r I J) : ∀ (n : Nat) (l1 : Int32) (l2 : Int32) (l3 : Int32) (I : rI0) (J : rJ0), ((8 - l3.toInt).toNat = n) → (CZ I0 J0 t I J) → (1 ≤ l1.toInt) → (l1.toInt ≤ 8) → (0 ≤ l3.toInt) → (1 ≤ l2.toInt) → (l2.toInt ≤ 256) → wp S (d + 24) 88 47 [some (.ref 37), some (.int l1), some (.int l2), some (.int l3)] [] (wv x I J) (rI x Q) := by
  refine lpn ?_
  intro n ih
  intro l1 l2 l3 I J hm h e0 e1 e2 e3 e4
  have bh := h.bnd
  refine v88_37_47 ?_
  refine ⟨fun q1 => ?_, fun q1 => ?_⟩
  · have c2 := i_lt q1
    refine zAdds (by omega) ?_
    intro r1
    refine ⟨?_, ?_⟩
    · exact i_in (e := (l3)) (A := l3.toInt) rfl (by omega)
    have t4 : (1 : Int32).toInt = 1 := by decide
    have t5 : (l3 + (1 : Int32)).toInt = l3.toInt + 1 := i_add rfl t4 (by omega)
    exact ih _ (by omega) l1 l2 (l3 + (1 : Int32)) (mSet I 40 l3.toNatClampNeg r1) J rfl (CZ.si (n := 40) (k := l3.toNatClampNeg) (h) (by omega)) (by omega) (by omega) (by omega) (by omega) (by omega)
  · have c6 := i_nlt q1
    have t7 : (1 : Int32).toInt = 1 := by decide
    have t8 : (l2 - (1 : Int32)).toInt = l2.toInt - 1 := i_sub rfl t7 (by omega)
    refine ⟨?_, ?_⟩
    · exact i_in (e := (l2 - (1 : Int32))) (A := (l2.toInt - 1)) t8 (by omega)
    exact k _ _ _ (CZ.s37 (h) (v := l1) (by omega))
theorem zWorth_6 {S : Nat × (Nat → Int32)} {d : Nat} {x : mX} {I0 : rI0} {J0 : rJ0} {t : Int32} {Q : Int32 → rI0 → rJ0 → Prop} (k : ∀ r I J, (CZ I0 J0 t I J) → Q r I J) : ∀ (n : Nat) (l1 : Int32) (l2 : Int32) (l3 : Int32) (I : rI0) (J : rJ0), ((256 - l3.toInt).toNat = n) → (CZ I0 J0 t I J) → (1 ≤ l1.toInt) → (l1.toInt ≤ 8) → (0 ≤ l3.toInt) → (l3.toInt ≤ 256) → (1 ≤ l2.toInt) → (l2.toInt ≤ 256) → wp S (d + 24) 88 6 [some (.ref 37), some (.int l1), some (.int l2), some (.int l3)] [] (wv x I J) (rI x Q) := by
  refine lpn ?_
  intro n ih
  intro l1 l2 l3 I J hm h e0 e1 e2 e3 e4 e5
  have bh := h.bnd
  refine v88_37_6 ?_
  refine ⟨fun q1 => ?_, fun q1 => ?_⟩
  · have c2 := i_lt q1
    refine zSeatsOf (by omega) ?_
    intro r1
    refine zHOf (h) ?_
    intro r2 I2 J2 h2 g2a
    have bh2 := h2.bnd
    refine ⟨?_, ?_⟩
    · exact i_in (e := (l3)) (A := l3.toInt) rfl (by omega)
    have t4 : (1 : Int32).toInt = 1 := by decide
    have t5 : (l3 + (1 : Int32)).toInt = l3.toInt + 1 := i_add rfl t4 (by omega)
    exact ih _ (by omega) l1 l2 (l3 + (1 : Int32)) (mSet I2 38 l3.toNatClampNeg r2) J2 rfl (CZ.si (n := 38) (k := l3.toNatClampNeg) (h2) (by omega)) (by omega) (by omega) (by omega) (by omega) (by omega) (by omega)
  · have c6 := i_nlt q1
    have t7 : (0 : Int32).toInt = 0 := by decide
    exact zWorth_47 k _ l1 l2 ((0 : Int32)) I J rfl (h) (by omega) (by omega) (by omega) (by omega) (by omega)
theorem zWorth {S : Nat × (Nat → Int32)} {d : Nat} {x : mX} {I0 : rI0} {J0 : rJ0} {t : Int32} {I : rI0} {J : rJ0} {p1 : Int32} {Q : Int32 → rI0 → rJ0 → Prop} (h : CZ I0 J0 t I J) (hp : 1 ≤ p1.toInt ∧ p1.toInt ≤ 8) (k : ∀ r I J, (CZ I0 J0 t I J) → Q r I J) : wcI S (d + 24) 88 [.ref 37, .int p1] x I J Q := by
  have bh := h.bnd
  refine c88_37 ?_
  try have t1 := i_shl (n := (p1)) (by omega)
  try have zt1 := i_shl7 (n := (p1)) (by omega)
  try have yt1 := i_rng ((1 : Int32) <<< (p1 &&& 31))
  have t2 : (0 : Int32).toInt = 0 := by decide
  exact zWorth_6 k _ p1 ((1 : Int32) <<< (p1 &&& 31)) ((0 : Int32)) I J rfl (h) (by omega) (by omega) (by omega) (by omega) (by omega) (by omega)
theorem zSides_160 {S : Nat × (Nat → Int32)} {d : Nat} {x : mX} {I0 : rI0} {J0 : rJ0} {t : Int32} {Q : Int32 → rI0 → rJ0 → Prop} {N148 : Nat} (k : ∀ r I J, (CZ I0 J0 t I J) → Q r I J) (K148 : ∀ (l1 : Int32) (l2 : Int32) (l3 : Int32) (l4 : Int32) (I : rI0) (J : rJ0), (CZ I0 J0 t I J) → ((13 - l4.toInt).toNat < N148) → (1 ≤ l1.toInt) → (l1.toInt ≤ 6) → (l2.toInt ≤ 13) → (l1.toInt < l4.toInt) → wp S (d + 24) 92 148 [some (.ref 37), some (.int l1), some (.int l2), some (.int l3), some (.int l4), none, none, none, none, none, none, none] [] (wv x I J) (rI x Q)) : ∀ (n : Nat) (l1 : Int32) (l2 : Int32) (l3 : Int32) (l4 : Int32) (l5 : Int32) (l6 : Int32) (I : rI0) (J : rJ0), ((7 - l6.toInt).toNat = n) → (CZ I0 J0 t I J) → (1 ≤ l1.toInt) → (l1.toInt ≤ 6) → (l2.toInt ≤ 13) → (l1.toInt < l4.toInt) → (l4.toInt < l2.toInt) → (1 ≤ l6.toInt) → ((13 - l4.toInt).toNat ≤ N148) → wp S (d + 24) 92 160 [some (.ref 37), some (.int l1), some (.int l2), some (.int l3), some (.int l4), some (.int l5), some (.int l6), none, none, none, none, none] [] (wv x I J) (rI x Q) := by
  refine lpn ?_
  intro n ih
  intro l1 l2 l3 l4 l5 l6 I J hm h e0 e1 e2 e3 e4 e5 a0
  have bh := h.bnd
  refine v92_37_160 ?_
  refine ⟨fun q1 => ?_, fun q1 => ?_⟩
  · have c2 := i_lt q1
    refine ⟨fun q3 => ?_, fun q3 => ?_⟩
    · have c4 := i_lt q3
      refine ⟨?_, ?_⟩
      · exact i_in (e := (l4)) (A := l4.toInt) rfl (by omega)
      have t6 : (1 : Int32).toInt = 1 := by decide
      have t7 : (l4 + (1 : Int32)).toInt = l4.toInt + 1 := i_add rfl t6 (by omega)
      exact K148 l1 l2 l3 (l4 + (1 : Int32)) (mSet (mSet I 37 9 l5) 37 11 (I 2 l4.toNatClampNeg)) J (CZ.si (n := 37) (k := 11) (CZ.si (n := 37) (k := 9) (h) (by omega)) (by omega)) (by omega) (by omega) (by omega) (by omega) (by omega)
    · have c8 := i_nlt q3
      have t9 : (1 : Int32).toInt = 1 := by decide
      have t10 : (l4 + (1 : Int32)).toInt = l4.toInt + 1 := i_add rfl t9 (by omega)
      exact K148 l1 l2 l3 (l4 + (1 : Int32)) I J (h) (by omega) (by omega) (by omega) (by omega) (by omega)
  · have c11 := i_nlt q1
    have t12 : (8 : Int32).toInt = 8 := by decide
    have t13 : (l6 * (8 : Int32)).toInt = l6.toInt * 8 := i_mul rfl t12 (by omega)
    have t14 : ((l6 * (8 : Int32)) + l4).toInt = (l6.toInt * 8) + l4.toInt := i_add t13 rfl (by omega)
    have t15 : (((l6 * (8 : Int32)) + l4) - l1).toInt = ((l6.toInt * 8) + l4.toInt) - l1.toInt := i_sub t14 rfl (by omega)
    refine ⟨?_, ?_⟩
    · exact i_in (e := (((l6 * (8 : Int32)) + l4) - l1)) (A := (((l6.toInt * 8) + l4.toInt) - l1.toInt)) t15 (by omega)
    have t17 := i_max (a := (l5)) (b := (I 38 ((((l6 * (8 : Int32)) + l4) - l1).toNatClampNeg))) (A := l5.toInt) (B := (I 38 ((((l6 * (8 : Int32)) + l4) - l1).toNatClampNeg)).toInt) rfl rfl
    have t18 : (1 : Int32).toInt = 1 := by decide
    have t19 : (l6 + (1 : Int32)).toInt = l6.toInt + 1 := i_add rfl t18 (by omega)
    exact ih _ (by omega) l1 l2 l3 l4 (if l5 < (I 38 ((((l6 * (8 : Int32)) + l4) - l1).toNatClampNeg)) then I 38 ((((l6 * (8 : Int32)) + l4) - l1).toNatClampNeg) else l5) (l6 + (1 : Int32)) I J rfl (h) (by omega) (by omega) (by omega) (by omega) (by omega) (by omega) (by omega)
theorem zSides_148 {S : Nat × (Nat → Int32)} {d : Nat} {x : mX} {I0 : rI0} {J0 : rJ0} {t : Int32} {Q : Int32 → rI0 → rJ0 → Prop} (k : ∀ r I J, (CZ I0 J0 t I J) → Q r I J) : ∀ (n : Nat) (l1 : Int32) (l2 : Int32) (l3 : Int32) (l4 : Int32) (I : rI0) (J : rJ0), ((13 - l4.toInt).toNat = n) → (CZ I0 J0 t I J) → (1 ≤ l1.toInt) → (l1.toInt ≤ 6) → (l2.toInt ≤ 13) → (l1.toInt < l4.toInt) → wp S (d + 24) 92 148 [some (.ref 37), some (.int l1), some (.int l2), some (.int l3), some (.int l4), none, none, none, none, none, none, none] [] (wv x I J) (rI x Q) := by
  refine lpn ?_
  intro n ih
  intro l1 l2 l3 l4 I J hm h e0 e1 e2 e3
  have bh := h.bnd
  refine v92_37_148 ?_
  refine ⟨fun q1 => ?_, fun q1 => ?_⟩
  · have c2 := i_lt q1
    have t3 : (1 : Int32).toInt = 1 := by decide
    exact zSides_160 k (fun l1_ l2_ l3_ l4_ I_ J_ h_ hlt f0_ f1_ f2_ f3_ => ih _ hlt l1_ l2_ l3_ l4_ I_ J_ rfl h_ f0_ f1_ f2_ f3_) _ l1 l2 l3 l4 ((-1 : Int32)) ((1 : Int32)) I J rfl (h) (by omega) (by omega) (by omega) (by omega) (by omega) (by omega) (by omega)
  · have c4 := i_nlt q1
    exact k _ _ _ (h)
theorem zSides_20 {S : Nat × (Nat → Int32)} {d : Nat} {x : mX} {I0 : rI0} {J0 : rJ0} {t : Int32} {Q : Int32 → rI0 → rJ0 → Prop} {N5 : Nat} (k : ∀ r I J, (CZ I0 J0 t I J) → Q r I J) (K5 : ∀ (l1 : Int32) (l2 : Int32) (l3 : Int32) (l4 : Int32) (I : rI0) (J : rJ0), (CZ I0 J0 t I J) → ((7 - l4.toInt).toNat < N5) → (1 ≤ l1.toInt) → (l1.toInt ≤ 6) → (l2.toInt ≤ 13) → (1 ≤ l4.toInt) → (l4.toInt ≤ 7) → wp S (d + 24) 92 5 [some (.ref 37), some (.int l1), some (.int l2), some (.int l3), some (.int l4), none, none, none, none, none, none, none] [] (wv x I J) (rI x Q)) : ∀ (n : Nat) (l1 : Int32) (l2 : Int32) (l3 : Int32) (l4 : Int32) (l5 : Int32) (l6 : Int32) (I : rI0) (J : rJ0), ((13 - l6.toInt).toNat = n) → (CZ I0 J0 t I J) → (1 ≤ l1.toInt) → (l1.toInt ≤ 6) → (l2.toInt ≤ 13) → (1 ≤ l4.toInt) → (l4.toInt ≤ l1.toInt) → (l1.toInt < l6.toInt) → ((7 - l4.toInt).toNat ≤ N5) → wp S (d + 24) 92 20 [some (.ref 37), some (.int l1), some (.int l2), some (.int l3), some (.int l4), some (.int l5), some (.int l6), none, none, none, none, none] [] (wv x I J) (rI x Q) := by
  refine lpn ?_
  intro n ih
  intro l1 l2 l3 l4 l5 l6 I J hm h e0 e1 e2 e3 e4 e5 a0
  have bh := h.bnd
  refine v92_37_20 ?_
  refine ⟨fun q1 => ?_, fun q1 => ?_⟩
  · have c2 := i_lt q1
    refine ⟨?_, ?_⟩
    · exact i_in (e := (l4)) (A := l4.toInt) rfl (by omega)
    refine ⟨?_, ?_⟩
    · exact i_in (e := (l6)) (A := l6.toInt) rfl (by omega)
    refine zHOf (h) ?_
    intro r1 I1 J1 h1 g1a
    have bh1 := h1.bnd
    have t5 : (8 : Int32).toInt = 8 := by decide
    have t6 : (l4 * (8 : Int32)).toInt = l4.toInt * 8 := i_mul rfl t5 (by omega)
    have t7 : ((l4 * (8 : Int32)) + l6).toInt = (l4.toInt * 8) + l6.toInt := i_add t6 rfl (by omega)
    have t8 : (((l4 * (8 : Int32)) + l6) - l1).toInt = ((l4.toInt * 8) + l6.toInt) - l1.toInt := i_sub t7 rfl (by omega)
    refine ⟨?_, ?_⟩
    · exact i_in (e := (((l4 * (8 : Int32)) + l6) - l1)) (A := (((l4.toInt * 8) + l6.toInt) - l1.toInt)) t8 (by omega)
    have t10 := i_min (a := (l5)) (b := (r1)) (A := l5.toInt) (B := r1.toInt) rfl rfl
    have t11 : (1 : Int32).toInt = 1 := by decide
    have t12 : (l6 + (1 : Int32)).toInt = l6.toInt + 1 := i_add rfl t11 (by omega)
    exact ih _ (by omega) l1 l2 l3 l4 (if r1 < l5 then r1 else l5) (l6 + (1 : Int32)) (mSet I1 38 ((((l4 * (8 : Int32)) + l6) - l1).toNatClampNeg) r1) J1 rfl (CZ.si (n := 38) (k := ((((l4 * (8 : Int32)) + l6) - l1).toNatClampNeg)) (h1) (by omega)) (by omega) (by omega) (by omega) (by omega) (by omega) (by omega) (by omega)
  · have c13 := i_nlt q1
    refine ⟨fun q14 => ?_, fun q14 => ?_⟩
    · have c15 := i_lt q14
      refine ⟨?_, ?_⟩
      · exact i_in (e := (l4)) (A := l4.toInt) rfl (by omega)
      have t17 : (1 : Int32).toInt = 1 := by decide
      have t18 : (l4 + (1 : Int32)).toInt = l4.toInt + 1 := i_add rfl t17 (by omega)
      exact K5 l1 l2 l5 (l4 + (1 : Int32)) (mSet I 37 10 (I 2 l4.toNatClampNeg)) J (CZ.si (n := 37) (k := 10) (h) (by omega)) (by omega) (by omega) (by omega) (by omega) (by omega) (by omega)
    · have c19 := i_nlt q14
      have t20 : (1 : Int32).toInt = 1 := by decide
      have t21 : (l4 + (1 : Int32)).toInt = l4.toInt + 1 := i_add rfl t20 (by omega)
      exact K5 l1 l2 l3 (l4 + (1 : Int32)) I J (h) (by omega) (by omega) (by omega) (by omega) (by omega) (by omega)
theorem zSides_5 {S : Nat × (Nat → Int32)} {d : Nat} {x : mX} {I0 : rI0} {J0 : rJ0} {t : Int32} {Q : Int32 → rI0 → rJ0 → Prop} (k : ∀ r I J, (CZ I0 J0 t I J) → Q r I J) : ∀ (n : Nat) (l1 : Int32) (l2 : Int32) (l3 : Int32) (l4 : Int32) (I : rI0) (J : rJ0), ((7 - l4.toInt).toNat = n) → (CZ I0 J0 t I J) → (1 ≤ l1.toInt) → (l1.toInt ≤ 6) → (l2.toInt ≤ 13) → (1 ≤ l4.toInt) → (l4.toInt ≤ 7) → wp S (d + 24) 92 5 [some (.ref 37), some (.int l1), some (.int l2), some (.int l3), some (.int l4), none, none, none, none, none, none, none] [] (wv x I J) (rI x Q) := by
  refine lpn ?_
  intro n ih
  intro l1 l2 l3 l4 I J hm h e0 e1 e2 e3 e4
  have bh := h.bnd
  refine v92_37_5 ?_
  refine ⟨fun q1 => ?_, fun q1 => ?_⟩
  · have c2 := i_lt q1
    have t3 : (1 : Int32).toInt = 1 := by decide
    have t4 : (l1 + (1 : Int32)).toInt = l1.toInt + 1 := i_add rfl t3 (by omega)
    exact zSides_148 k _ l1 l2 l3 (l1 + (1 : Int32)) (mSet I 37 9 (65 : Int32)) J rfl (CZ.si (n := 37) (k := 9) (h) (by omega)) (by omega) (by omega) (by omega) (by omega)
  · have c5 := i_nlt q1
    have t6 : (1 : Int32).toInt = 1 := by decide
    have t7 : (l1 + (1 : Int32)).toInt = l1.toInt + 1 := i_add rfl t6 (by omega)
    exact zSides_20 k (fun l1_ l2_ l3_ l4_ I_ J_ h_ hlt f0_ f1_ f2_ f3_ f4_ => ih _ hlt l1_ l2_ l3_ l4_ I_ J_ rfl h_ f0_ f1_ f2_ f3_ f4_) _ l1 l2 l3 l4 ((64 : Int32)) (l1 + (1 : Int32)) I J rfl (h) (by omega) (by omega) (by omega) (by omega) (by omega) (by omega) (by omega)
theorem zSides {S : Nat × (Nat → Int32)} {d : Nat} {x : mX} {I0 : rI0} {J0 : rJ0} {t : Int32} {I : rI0} {J : rJ0} {p1 : Int32} {p2 : Int32} {Q : Int32 → rI0 → rJ0 → Prop} (h : CZ I0 J0 t I J) (hp : 1 ≤ p1.toInt ∧ p1.toInt ≤ 6 ∧ p2.toInt ≤ 13) (k : ∀ r I J, (CZ I0 J0 t I J) → Q r I J) : wcI S (d + 24) 92 [.ref 37, .int p1, .int p2] x I J Q := by
  have bh := h.bnd
  refine c92_37 ?_
  have t1 : (1 : Int32).toInt = 1 := by decide
  exact zSides_5 k _ p1 p2 ((-1 : Int32)) ((1 : Int32)) I J rfl (h) (by omega) (by omega) (by omega) (by omega) (by omega)
theorem zSketch_112 {S : Nat × (Nat → Int32)} {d : Nat} {x : mX} {I0 : rI0} {J0 : rJ0} {t : Int32} {Q : Int32 → rI0 → rJ0 → Prop} {N17 : Nat} (k : ∀ r I J, (CZ I0 J0 t I J) → (r.toInt = 0 ∨ r.toInt = 1) → Q r I J) (K17 : ∀ (l1 : Int32) (l2 : Int32) (I : rI0) (J : rJ0), (CZ I0 J0 t I J) → ((64 - l2.toInt).toNat < N17) → (0 ≤ l2.toInt) → (l2.toInt ≤ 64) → wp S (d + 1) 93 17 [some (.ref 37), some (.int l1), some (.int l2)] [] (wv x I J) (rI x Q)) : ∀ (l1 : Int32) (l2 : Int32) (s1 : Int64) (s2 : Int32) (s3 : Int32) (I : rI0) (J : rJ0), (CZ I0 J0 t I J) → (0 ≤ l2.toInt) → (l2.toInt < 64) → ((64 - l2.toInt).toNat ≤ N17) → wp S (d + 1) 93 112 [some (.ref 37), some (.int l1), some (.int l2)] [.int s3, .int s2, .long s1, .ref 37] (wv x I J) (rI x Q) := by
  intro l1 l2 s1 s2 s3 I J h e0 e1 a0
  have bh := h.bnd
  refine v93_37_112 ?_
  refine zWith  ?_
  intro r1
  refine ⟨?_, ?_⟩
  · exact i_in (e := (l2)) (A := l2.toInt) rfl (by omega)
  refine ⟨fun q2 => ?_, fun q2 => ?_⟩
  · have c3 := i_eq q2
    have t4 : (2 : Int32).toInt = 2 := by decide
    refine zWith  ?_
    intro r2
    have t5 : (1 : Int32).toInt = 1 := by decide
    have t6 : (l2 + (1 : Int32)).toInt = l2.toInt + 1 := i_add rfl t5 (by omega)
    exact K17 l1 (l2 + (1 : Int32)) I (mSet (mSet J 37 15 r1) 37 16 r2) (CZ.sj (n := 37) (k := 16) (CZ.sj (n := 37) (k := 15) (h) (by omega)) (by omega)) (by omega) (by omega) (by omega)
  · have c7 := i_ne q2
    have t8 : (2 : Int32).toInt = 2 := by decide
    refine zWith  ?_
    intro r3
    have t9 : (1 : Int32).toInt = 1 := by decide
    have t10 : (l2 + (1 : Int32)).toInt = l2.toInt + 1 := i_add rfl t9 (by omega)
    exact K17 l1 (l2 + (1 : Int32)) I (mSet (mSet J 37 15 r1) 37 16 r3) (CZ.sj (n := 37) (k := 16) (CZ.sj (n := 37) (k := 15) (h) (by omega)) (by omega)) (by omega) (by omega) (by omega)
theorem zSketch_75 {S : Nat × (Nat → Int32)} {d : Nat} {x : mX} {I0 : rI0} {J0 : rJ0} {t : Int32} {Q : Int32 → rI0 → rJ0 → Prop} {N17 : Nat} (k : ∀ r I J, (CZ I0 J0 t I J) → (r.toInt = 0 ∨ r.toInt = 1) → Q r I J) (K17 : ∀ (l1 : Int32) (l2 : Int32) (I : rI0) (J : rJ0), (CZ I0 J0 t I J) → ((64 - l2.toInt).toNat < N17) → (0 ≤ l2.toInt) → (l2.toInt ≤ 64) → wp S (d + 1) 93 17 [some (.ref 37), some (.int l1), some (.int l2)] [] (wv x I J) (rI x Q)) : ∀ (l1 : Int32) (l2 : Int32) (s1 : Int64) (s2 : Int32) (s3 : Int32) (I : rI0) (J : rJ0), (CZ I0 J0 t I J) → (0 ≤ l2.toInt) → (l2.toInt < 64) → ((64 - l2.toInt).toNat ≤ N17) → wp S (d + 1) 93 75 [some (.ref 37), some (.int l1), some (.int l2)] [.int s3, .int s2, .long s1, .ref 37] (wv x I J) (rI x Q) := by
  intro l1 l2 s1 s2 s3 I J h e0 e1 a0
  have bh := h.bnd
  refine v93_37_75 ?_
  refine zWith  ?_
  intro r1
  refine ⟨?_, ?_⟩
  · exact i_in (e := (l2)) (A := l2.toInt) rfl (by omega)
  refine ⟨fun q2 => ?_, fun q2 => ?_⟩
  · have c3 := i_eq q2
    have t4 : (1 : Int32).toInt = 1 := by decide
    exact zSketch_112 k K17 l1 l2 (J 37 15) l2 ((1 : Int32)) I (mSet J 37 14 r1) (CZ.sj (n := 37) (k := 14) (h) (by omega)) (by omega) (by omega) (by omega)
  · have c5 := i_ne q2
    have t6 : (1 : Int32).toInt = 1 := by decide
    refine ⟨?_, ?_⟩
    · exact i_in (e := (l2)) (A := l2.toInt) rfl (by omega)
    refine ⟨fun q8 => ?_, fun q8 => ?_⟩
    · have c9 := i_eq q8
      have t10 : (2 : Int32).toInt = 2 := by decide
      exact zSketch_112 k K17 l1 l2 (J 37 15) l2 ((1 : Int32)) I (mSet J 37 14 r1) (CZ.sj (n := 37) (k := 14) (h) (by omega)) (by omega) (by omega) (by omega)
    · have c11 := i_ne q8
      have t12 : (2 : Int32).toInt = 2 := by decide
      exact zSketch_112 k K17 l1 l2 (J 37 15) l2 ((0 : Int32)) I (mSet J 37 14 r1) (CZ.sj (n := 37) (k := 14) (h) (by omega)) (by omega) (by omega) (by omega)
theorem zSketch_17 {S : Nat × (Nat → Int32)} {d : Nat} {x : mX} {I0 : rI0} {J0 : rJ0} {t : Int32} {Q : Int32 → rI0 → rJ0 → Prop} (k : ∀ r I J, (CZ I0 J0 t I J) → (r.toInt = 0 ∨ r.toInt = 1) → Q r I J) : ∀ (n : Nat) (l1 : Int32) (l2 : Int32) (I : rI0) (J : rJ0), ((64 - l2.toInt).toNat = n) → (CZ I0 J0 t I J) → (0 ≤ l2.toInt) → (l2.toInt ≤ 64) → wp S (d + 1) 93 17 [some (.ref 37), some (.int l1), some (.int l2)] [] (wv x I J) (rI x Q) := by
  refine lpn ?_
  intro n ih
  intro l1 l2 I J hm h e0 e1
  have bh := h.bnd
  refine v93_37_17 ?_
  refine ⟨fun q1 => ?_, fun q1 => ?_⟩
  · have c2 := i_lt q1
    refine ⟨fun q3 => ?_, fun q3 => ?_⟩
    · have c4 := i_lt q3
      have t5 : (64 : Int32).toInt = 64 := by decide
      refine zSeat (h) ?_
      intro r1 g1a
      refine ⟨fun q6 => ?_, fun q6 => ?_⟩
      · have c7 := i_eq q6
        have t8 : (0 : Int32).toInt = 0 := by decide
        have t9 : (1 : Int32).toInt = 1 := by decide
        have t10 : (l2 + (1 : Int32)).toInt = l2.toInt + 1 := i_add rfl t9 (by omega)
        exact ih _ (by omega) l1 (l2 + (1 : Int32)) I J rfl (h) (by omega) (by omega)
      · have c11 := i_ne q6
        have t12 : (0 : Int32).toInt = 0 := by decide
        refine ⟨?_, ?_⟩
        · exact i_in (e := (l2)) (A := l2.toInt) rfl (by omega)
        refine ⟨fun q14 => ?_, fun q14 => ?_⟩
        · have c15 := i_lt q14
          have t16 : (3 : Int32).toInt = 3 := by decide
          exact k _ _ _ (h) (by omega)
        · have c17 := i_nlt q14
          have t18 : (3 : Int32).toInt = 3 := by decide
          refine ⟨?_, ?_⟩
          · exact i_in (e := (l2)) (A := l2.toInt) rfl (by omega)
          refine ⟨fun q20 => ?_, fun q20 => ?_⟩
          · have c21 := i_lt q20
            exact zSketch_75 k (fun l1_ l2_ I_ J_ h_ hlt f0_ f1_ => ih _ hlt l1_ l2_ I_ J_ rfl h_ f0_ f1_) l1 l2 (J 37 14) l2 ((1 : Int32)) I J (h) (by omega) (by omega) (by omega)
          · have c22 := i_nlt q20
            exact zSketch_75 k (fun l1_ l2_ I_ J_ h_ hlt f0_ f1_ => ih _ hlt l1_ l2_ I_ J_ rfl h_ f0_ f1_) l1 l2 (J 37 14) l2 ((0 : Int32)) I J (h) (by omega) (by omega) (by omega)
    · have c23 := i_nlt q3
      have t24 : (64 : Int32).toInt = 64 := by decide
      have t25 : (1 : Int32).toInt = 1 := by decide
      exact k _ _ _ (h) (by omega)
  · have c26 := i_nlt q1
    have t27 : (1 : Int32).toInt = 1 := by decide
    exact k _ _ _ (h) (by omega)
theorem zSketch {S : Nat × (Nat → Int32)} {d : Nat} {x : mX} {I0 : rI0} {J0 : rJ0} {t : Int32} {I : rI0} {J : rJ0} {p1 : Int32} {Q : Int32 → rI0 → rJ0 → Prop} (h : CZ I0 J0 t I J) (k : ∀ r I J, (CZ I0 J0 t I J) → (r.toInt = 0 ∨ r.toInt = 1) → Q r I J) : wcI S (d + 1) 93 [.ref 37, .int p1] x I J Q := by
  have bh := h.bnd
  refine c93_37 ?_
  have t1 : (0 : Int32).toInt = 0 := by decide
  exact zSketch_17 k _ p1 ((0 : Int32)) I (mSet (mSet (mSet J 37 14 (0 : Int64)) 37 15 (0 : Int64)) 37 16 (0 : Int64)) rfl (CZ.sj (n := 37) (k := 16) (CZ.sj (n := 37) (k := 15) (CZ.sj (n := 37) (k := 14) (h) (by omega)) (by omega)) (by omega)) (by omega) (by omega)
theorem zAs {S : Nat × (Nat → Int32)} {d : Nat} {x : mX} {I : rI0} {J : rJ0} {Q : Int32 → rI0 → rJ0 → Prop} (k : ∀ r, (r.toInt = 0 ∨ r.toInt = 1) → Q r I J) : wcI S (d + 0) 95 [.ref 37] x I J Q := by
  refine c95_37 ?_
  refine ⟨fun q1 => ?_, fun q1 => ?_⟩
  · refine ⟨fun q3 => ?_, fun q3 => ?_⟩
    · have t5 : (1 : Int32).toInt = 1 := by decide
      exact k _ (by omega)
    · have t7 : (0 : Int32).toInt = 0 := by decide
      exact k _ (by omega)
  · have t9 : (0 : Int32).toInt = 0 := by decide
    exact k _ (by omega)
theorem zBegan_109 {S : Nat × (Nat → Int32)} {d : Nat} {x : mX} {I0 : rI0} {J0 : rJ0} {t : Int32} {Q : Int32 → rI0 → rJ0 → Prop} {N23 : Nat} {N14 : Nat} (k : ∀ r I J, (CZ I0 J0 t I J) → Q r I J) (K23 : ∀ (l1 : Int32) (l2 : Int32) (l3 : Int32) (l4 : Int32) (I : rI0) (J : rJ0), (CZ I0 J0 t I J) → ((64 - l4.toInt).toNat < N23) → (0 ≤ l3.toInt) → (l3.toInt < 64) → (0 ≤ l4.toInt) → (l4.toInt ≤ 64) → ((64 - l3.toInt).toNat ≤ N14) → wp S (d + 24) 94 23 [some (.ref 37), some (.int l1), some (.int l2), some (.int l3), some (.int l4)] [] (wv x I J) (rI x Q)) : ∀ (l1 : Int32) (l2 : Int32) (l3 : Int32) (l4 : Int32) (s1 : Int32) (I : rI0) (J : rJ0), (CZ I0 J0 t I J) → (0 ≤ l3.toInt) → (l3.toInt < 64) → (0 ≤ l4.toInt) → (l4.toInt < 64) → ((64 - l4.toInt).toNat ≤ N23) → ((64 - l3.toInt).toNat ≤ N14) → wp S (d + 24) 94 109 [some (.ref 37), some (.int l1), some (.int l2), some (.int l3), some (.int l4)] [.int s1, .ref 37] (wv x I J) (rI x Q) := by
  intro l1 l2 l3 l4 s1 I J h e0 e1 e2 e3 a0 a1
  have bh := h.bnd
  refine v94_37_109 ?_
  refine ⟨fun q1 => ?_, fun q1 => ?_⟩
  · have c2 := i_eq q1
    have t3 : (0 : Int32).toInt = 0 := by decide
    refine ⟨fun q4 => ?_, fun q4 => ?_⟩
    · have c5 := i_eq q4
      have t6 : (1 : Int32).toInt = 1 := by decide
      have t7 : (l4 + (1 : Int32)).toInt = l4.toInt + 1 := i_add rfl t6 (by omega)
      exact K23 l1 (l2 + (1 : Int32)) l3 (l4 + (1 : Int32)) (mSet (mSet I 37 12 s1) 37 13 (I 37 13)) J (CZ.si (n := 37) (k := 13) (CZ.si (n := 37) (k := 12) (h) (by omega)) (by omega)) (by omega) (by omega) (by omega) (by omega) (by omega) (by omega)
    · have c8 := i_ne q4
      have t9 : (1 : Int32).toInt = 1 := by decide
      have t10 : (l4 + (1 : Int32)).toInt = l4.toInt + 1 := i_add rfl t9 (by omega)
      exact K23 l1 (l2 + (1 : Int32)) l3 (l4 + (1 : Int32)) (mSet (mSet I 37 12 s1) 37 13 l4) J (CZ.si (n := 37) (k := 13) (CZ.si (n := 37) (k := 12) (h) (by omega)) (by omega)) (by omega) (by omega) (by omega) (by omega) (by omega) (by omega)
  · have c11 := i_ne q1
    have t12 : (0 : Int32).toInt = 0 := by decide
    have t13 : (1 : Int32).toInt = 1 := by decide
    have t14 : (l4 + (1 : Int32)).toInt = l4.toInt + 1 := i_add rfl t13 (by omega)
    exact K23 l1 (l2 + (1 : Int32)) l3 (l4 + (1 : Int32)) (mSet (mSet I 37 12 s1) 37 13 (I 37 13)) J (CZ.si (n := 37) (k := 13) (CZ.si (n := 37) (k := 12) (h) (by omega)) (by omega)) (by omega) (by omega) (by omega) (by omega) (by omega) (by omega)
theorem zBegan_23 {S : Nat × (Nat → Int32)} {d : Nat} {x : mX} {I0 : rI0} {J0 : rJ0} {t : Int32} {Q : Int32 → rI0 → rJ0 → Prop} {N14 : Nat} (k : ∀ r I J, (CZ I0 J0 t I J) → Q r I J) (K14 : ∀ (l1 : Int32) (l2 : Int32) (l3 : Int32) (I : rI0) (J : rJ0), (CZ I0 J0 t I J) → ((64 - l3.toInt).toNat < N14) → (0 ≤ l3.toInt) → (l3.toInt ≤ 64) → wp S (d + 24) 94 14 [some (.ref 37), some (.int l1), some (.int l2), some (.int l3), none] [] (wv x I J) (rI x Q)) : ∀ (n : Nat) (l1 : Int32) (l2 : Int32) (l3 : Int32) (l4 : Int32) (I : rI0) (J : rJ0), ((64 - l4.toInt).toNat = n) → (CZ I0 J0 t I J) → (0 ≤ l3.toInt) → (l3.toInt < 64) → (0 ≤ l4.toInt) → (l4.toInt ≤ 64) → ((64 - l3.toInt).toNat ≤ N14) → wp S (d + 24) 94 23 [some (.ref 37), some (.int l1), some (.int l2), some (.int l3), some (.int l4)] [] (wv x I J) (rI x Q) := by
  refine lpn ?_
  intro n ih
  intro l1 l2 l3 l4 I J hm h e0 e1 e2 e3 a0
  have bh := h.bnd
  refine v94_37_23 ?_
  refine ⟨fun q1 => ?_, fun q1 => ?_⟩
  · have c2 := i_lt q1
    have t3 : (64 : Int32).toInt = 64 := by decide
    refine zSeat (h) ?_
    intro r1 g1a
    refine ⟨fun q4 => ?_, fun q4 => ?_⟩
    · have c5 := i_eq q4
      have t6 : (0 : Int32).toInt = 0 := by decide
      have t7 : (1 : Int32).toInt = 1 := by decide
      have t8 : (l3 + (1 : Int32)).toInt = l3.toInt + 1 := i_add rfl t7 (by omega)
      exact K14 l1 l2 (l3 + (1 : Int32)) I J (h) (by omega) (by omega) (by omega)
    · have c9 := i_ne q4
      have t10 : (0 : Int32).toInt = 0 := by decide
      refine zSeat (h) ?_
      intro r2 g2a
      refine ⟨fun q11 => ?_, fun q11 => ?_⟩
      · have c12 := i_eq q11
        have t13 : (1 : Int32).toInt = 1 := by decide
        have t14 : (l4 + (1 : Int32)).toInt = l4.toInt + 1 := i_add rfl t13 (by omega)
        exact ih _ (by omega) l1 l2 l3 (l4 + (1 : Int32)) I J rfl (h) (by omega) (by omega) (by omega) (by omega) (by omega)
      · have c15 := i_ne q11
        refine zBegin41 (h) ?_
        intro I3 J3 h3
        have bh3 := h3.bnd
        refine zGo41 (h3) ?_
        intro I4 J4 h4
        have bh4 := h4.bnd
        refine zAs  ?_
        intro r5 g5a
        refine ⟨fun q16 => ?_, fun q16 => ?_⟩
        · have c17 := i_eq q16
          have t18 : (1 : Int32).toInt = 1 := by decide
          have t19 : (l4 + (1 : Int32)).toInt = l4.toInt + 1 := i_add rfl t18 (by omega)
          exact ih _ (by omega) l1 l2 l3 (l4 + (1 : Int32)) I4 J4 rfl (h4) (by omega) (by omega) (by omega) (by omega) (by omega)
        · have c20 := i_ne q16
          refine ⟨fun q21 => ?_, fun q21 => ?_⟩
          · have c22 := i_eq q21
            exact zBegan_109 k (fun l1_ l2_ l3_ l4_ I_ J_ h_ hlt f0_ f1_ f2_ f3_ f4_ => ih _ hlt l1_ l2_ l3_ l4_ I_ J_ rfl h_ f0_ f1_ f2_ f3_ f4_) l1 l2 l3 l4 l3 I4 J4 (h4) (by omega) (by omega) (by omega) (by omega) (by omega) (by omega)
          · have c23 := i_ne q21
            exact zBegan_109 k (fun l1_ l2_ l3_ l4_ I_ J_ h_ hlt f0_ f1_ f2_ f3_ f4_ => ih _ hlt l1_ l2_ l3_ l4_ I_ J_ rfl h_ f0_ f1_ f2_ f3_ f4_) l1 l2 l3 l4 (I4 37 12) I4 J4 (h4) (by omega) (by omega) (by omega) (by omega) (by omega) (by omega)
  · have c24 := i_nlt q1
    have t25 : (64 : Int32).toInt = 64 := by decide
    have t26 : (1 : Int32).toInt = 1 := by decide
    have t27 : (l3 + (1 : Int32)).toInt = l3.toInt + 1 := i_add rfl t26 (by omega)
    exact K14 l1 l2 (l3 + (1 : Int32)) I J (h) (by omega) (by omega) (by omega)
theorem zBegan_14 {S : Nat × (Nat → Int32)} {d : Nat} {x : mX} {I0 : rI0} {J0 : rJ0} {t : Int32} {Q : Int32 → rI0 → rJ0 → Prop} (k : ∀ r I J, (CZ I0 J0 t I J) → Q r I J) : ∀ (n : Nat) (l1 : Int32) (l2 : Int32) (l3 : Int32) (I : rI0) (J : rJ0), ((64 - l3.toInt).toNat = n) → (CZ I0 J0 t I J) → (0 ≤ l3.toInt) → (l3.toInt ≤ 64) → wp S (d + 24) 94 14 [some (.ref 37), some (.int l1), some (.int l2), some (.int l3), none] [] (wv x I J) (rI x Q) := by
  refine lpn ?_
  intro n ih
  intro l1 l2 l3 I J hm h e0 e1
  have bh := h.bnd
  refine v94_37_14 ?_
  refine ⟨fun q1 => ?_, fun q1 => ?_⟩
  · have c2 := i_lt q1
    have t3 : (64 : Int32).toInt = 64 := by decide
    exact zBegan_23 k (fun l1_ l2_ l3_ I_ J_ h_ hlt f0_ f1_ => ih _ hlt l1_ l2_ l3_ I_ J_ rfl h_ f0_ f1_) _ l1 l2 l3 l3 I J rfl (h) (by omega) (by omega) (by omega) (by omega) (by omega)
  · have c4 := i_nlt q1
    have t5 : (64 : Int32).toInt = 64 := by decide
    exact k _ _ _ (h)
theorem zBegan {S : Nat × (Nat → Int32)} {d : Nat} {x : mX} {I0 : rI0} {J0 : rJ0} {t : Int32} {I : rI0} {J : rJ0} {p1 : Int32} {Q : Int32 → rI0 → rJ0 → Prop} (h : CZ I0 J0 t I J) (k : ∀ r I J, (CZ I0 J0 t I J) → Q r I J) : wcI S (d + 24) 94 [.ref 37, .int p1] x I J Q := by
  have bh := h.bnd
  refine c94_37 ?_
  have t1 : (0 : Int32).toInt = 0 := by decide
  exact zBegan_14 k _ p1 ((0 : Int32)) ((0 : Int32)) (mSet (mSet I 37 12 (-1 : Int32)) 37 13 (-1 : Int32)) J rfl (CZ.si (n := 37) (k := 13) (CZ.si (n := 37) (k := 12) (h) (by omega)) (by omega)) (by omega) (by omega)
theorem zParts_33 {S : Nat × (Nat → Int32)} {d : Nat} {x : mX} {I0 : rI0} {J0 : rJ0} {t : Int32} {Q : Int32 → rI0 → rJ0 → Prop} (k : ∀ r I J, (CZ I0 J0 t I J) → Q r I J) : ∀ (n : Nat) (l1 : Int64) (l3 : Int64) (l5 : Int32) (I : rI0) (J : rJ0), ((61 - l5.toInt).toNat = n) → (CZ I0 J0 t I J) → (0 ≤ l5.toInt) → (l5.toInt ≤ 61) → wp S (d + 24) 96 33 [some (.ref 37), some (.long l1), none, some (.long l3), none, some (.int l5)] [] (wv x I J) (rI x Q) := by
  refine lpn ?_
  intro n ih
  intro l1 l3 l5 I J hm h e0 e1
  have bh := h.bnd
  refine v96_37_33 ?_
  refine ⟨fun q1 => ?_, fun q1 => ?_⟩
  · have c2 := i_lt q1
    have t3 : (60 : Int32).toInt = 60 := by decide
    exact k _ _ _ (h)
  · have c4 := i_nlt q1
    have t5 : (60 : Int32).toInt = 60 := by decide
    refine zGo41 (h) ?_
    intro I1 J1 h1
    have bh1 := h1.bnd
    refine zGo42 (h1) ?_
    intro I2 J2 h2
    have bh2 := h2.bnd
    refine ⟨fun q6 => ?_, fun q6 => ?_⟩
    · refine ⟨fun q8 => ?_, fun q8 => ?_⟩
      · have t10 : (1 : Int32).toInt = 1 := by decide
        have t11 : (l5 + (1 : Int32)).toInt = l5.toInt + 1 := i_add rfl t10 (by omega)
        exact ih _ (by omega) l1 l3 (l5 + (1 : Int32)) I2 J2 rfl (h2) (by omega) (by omega)
      · exact k _ _ _ (h2)
    · exact k _ _ _ (h2)
theorem zParts {S : Nat × (Nat → Int32)} {d : Nat} {x : mX} {I0 : rI0} {J0 : rJ0} {t : Int32} {I : rI0} {J : rJ0} {p1 : Int64} {p2 : Int64} {Q : Int32 → rI0 → rJ0 → Prop} (h : CZ I0 J0 t I J) (k : ∀ r I J, (CZ I0 J0 t I J) → Q r I J) : wcI S (d + 24) 96 [.ref 37, .long p1, .long p2] x I J Q := by
  have bh := h.bnd
  refine c96_37 ?_
  refine zBegin41 (h) ?_
  intro I1 J1 h1
  have bh1 := h1.bnd
  refine zBegin42 (h1) ?_
  intro I2 J2 h2
  have bh2 := h2.bnd
  have t1 : (0 : Int32).toInt = 0 := by decide
  exact zParts_33 k _ p1 p2 ((0 : Int32)) I2 J2 rfl (h2) (by omega) (by omega)
end CC5
