section MS1
theorem mIn {S : Nat × (Nat → Int32)} {d : Nat} {x : mX} {I : rI0} {J : rJ0} {p0 : Int32} {p1 : Int32} {p2 : Int32} {Q : Int32 → rI0 → rJ0 → Prop} (k : ∀ r, (r.toInt = 0 ∨ (r.toInt = 1 ∧ p1.toInt ≤ p0.toInt ∧ p0.toInt ≤ p2.toInt)) → Q r I J) : wcI S (d + 0) 151 [.int p0, .int p1, .int p2] x I J Q := by
  refine c151 ?_
  refine ⟨fun q1 => ?_, fun q1 => ?_⟩
  · have c2 := i_lt q1
    have t3 : (0 : Int32).toInt = 0 := by decide
    exact k _ (by omega)
  · have c4 := i_nlt q1
    refine ⟨fun q5 => ?_, fun q5 => ?_⟩
    · have c6 := i_lt q5
      have t7 : (0 : Int32).toInt = 0 := by decide
      exact k _ (by omega)
    · have c8 := i_nlt q5
      have t9 : (1 : Int32).toInt = 1 := by decide
      exact k _ (by omega)
theorem mHas {S : Nat × (Nat → Int32)} {d : Nat} {x : mX} {I : rI0} {J : rJ0} {p0 : Int32} {p1 : Int32} {Q : Int32 → rI0 → rJ0 → Prop} (k : ∀ r, (r.toInt = 0 ∨ r.toInt = 1) → Q r I J) : wcI S (d + 0) 152 [.int p0, .int p1] x I J Q := by
  refine c152 ?_
  refine ⟨fun q1 => ?_, fun q1 => ?_⟩
  · have c2 := i_eq q1
    have t3 := i_and (p0 >>> (p1 &&& 31)) (m := (1 : Int32)) 1 (by decide)
    have t4 : (1 : Int32).toInt = 1 := by decide
    exact k _ (by omega)
  · have c5 := i_ne q1
    have t6 := i_and (p0 >>> (p1 &&& 31)) (m := (1 : Int32)) 1 (by decide)
    have t7 : (1 : Int32).toInt = 1 := by decide
    have t8 : (0 : Int32).toInt = 0 := by decide
    exact k _ (by omega)
theorem mHolds {S : Nat × (Nat → Int32)} {d : Nat} {x : mX} {I : rI0} {J : rJ0} {p0 : Int64} {p1 : Int32} {Q : Int32 → rI0 → rJ0 → Prop} (k : ∀ r, (r.toInt = 0 ∨ r.toInt = 1) → Q r I J) : wcI S (d + 0) 153 [.long p0, .int p1] x I J Q := by
  refine c153 ?_
  refine ⟨fun q1 => ?_, fun q1 => ?_⟩
  · have t3 : (1 : Int32).toInt = 1 := by decide
    exact k _ (by omega)
  · have t5 : (0 : Int32).toInt = 0 := by decide
    exact k _ (by omega)
theorem mOctet {S : Nat × (Nat → Int32)} {d : Nat} {x : mX} {I : rI0} {J : rJ0} {p1 : Int32} {Q : Int32 → rI0 → rJ0 → Prop} (hp : 0 ≤ p1.toInt ∧ p1.toInt < 940) (k : ∀ r, (0 ≤ r.toInt ∧ r.toInt ≤ 255) → Q r I J) : wcI S (d + 0) 155 [.ref 43, .int p1] x I J Q := by
  refine c155_43 ?_
  refine ⟨?_, ?_⟩
  · exact i_in (e := (p1)) (A := p1.toInt) rfl (by omega)
  have t2 := i_and (I 44 p1.toNatClampNeg) (m := (255 : Int32)) 8 (by decide)
  exact k _ (by omega)
theorem mThr {S : Nat × (Nat → Int32)} {d : Nat} {x : mX} {I0 : rI0} {J0 : rJ0} {R C : Int} {I : rI0} {J : rJ0} {p1 : Int32} {Q : Int32 → rI0 → rJ0 → Prop} (h : Mz_ I0 J0 R C I J) (hp : p1.toInt = 0 ∨ p1.toInt = 1) (k : ∀ r I J, (Mz_ I0 J0 R C I J) → (r.toInt = p1.toInt) → Q r I J) : wcI S (d + 0) 146 [.ref 43, .int p1] x I J Q := by
  have bh := h.bnd
  refine c146_43 ?_
  refine ⟨fun q1 => ?_, fun q1 => ?_⟩
  · have c2 := i_eq q1
    have t3 : (0 : Int32).toInt = 0 := by decide
    refine ⟨i_b01 (by omega), ?_⟩
    exact k _ _ _ (Mz_.si (n := 43) (k := 0) (h) (by omega)) (by omega)
  · have c4 := i_ne q1
    have t5 : (0 : Int32).toInt = 0 := by decide
    refine ⟨i_b01 (by omega), ?_⟩
    exact k _ _ _ (Mz_.si (n := 43) (k := 0) (h) (by omega)) (by omega)
theorem mSeat {S : Nat × (Nat → Int32)} {d : Nat} {x : mX} {I0 : rI0} {J0 : rJ0} {R C : Int} {I : rI0} {J : rJ0} {p1 : Int32} {Q : Int32 → rI0 → rJ0 → Prop} (h : Mz_ I0 J0 R C I J) (k : ∀ r, (r.toInt = 0 ∨ (r.toInt = 1 ∧ 0 ≤ p1.toInt ∧ p1.toInt < 64 ∧ 1 ≤ (I 45 ((6 : Int32) + p1).toNatClampNeg).toInt ∧ 1 ≤ C)) → Q r I J) : wcI S (d + 1) 183 [.ref 43, .int p1] x I J Q := by
  have bh := h.bnd
  refine c183_43 ?_
  have t1 : (0 : Int32).toInt = 0 := by decide
  refine ⟨?_, ?_⟩
  · exact i_in (e := (0 : Int32)) (A := 0) t1 (by omega)
  have w3 : (I 45 ((0 : Int32).toNatClampNeg)).toInt = (I 45 0).toInt := rfl
  have t4 : (1 : Int32).toInt = 1 := by decide
  refine ⟨?_, ?_⟩
  · exact i_in (e := (1 : Int32)) (A := 1) t4 (by omega)
  have w6 : (I 45 ((1 : Int32).toNatClampNeg)).toInt = (I 45 1).toInt := rfl
  have ut7 : 0 ≤ (I 45 ((0 : Int32).toNatClampNeg)).toInt * (I 45 ((1 : Int32).toNatClampNeg)).toInt ∧ (I 45 ((0 : Int32).toNatClampNeg)).toInt * (I 45 ((1 : Int32).toNatClampNeg)).toInt ≤ 64 := i_mb (by omega) (by omega)
  try have wt7 : (I 45 ((0 : Int32).toNatClampNeg)).toInt * (I 45 ((1 : Int32).toNatClampNeg)).toInt ≤ 56 := i_m7 (by omega) (by omega)
  have vt7 := i_mp (A := (I 45 ((0 : Int32).toNatClampNeg)).toInt) (B := (I 45 ((1 : Int32).toNatClampNeg)).toInt) (by omega) (by omega)
  have t7 : ((I 45 ((0 : Int32).toNatClampNeg)) * (I 45 ((1 : Int32).toNatClampNeg))).toInt = (I 45 ((0 : Int32).toNatClampNeg)).toInt * (I 45 ((1 : Int32).toNatClampNeg)).toInt := i_mul rfl rfl (by omega)
  have t8 : (((I 45 ((0 : Int32).toNatClampNeg)) * (I 45 ((1 : Int32).toNatClampNeg))) - (1 : Int32)).toInt = ((I 45 ((0 : Int32).toNatClampNeg)).toInt * (I 45 ((1 : Int32).toNatClampNeg)).toInt) - 1 := i_sub t7 t4 (by omega)
  refine mIn  ?_
  intro r1 g1a
  refine ⟨fun q9 => ?_, fun q9 => ?_⟩
  · have c10 := i_eq q9
    exact k _ (by omega)
  · have c11 := i_ne q9
    have t12 : (6 : Int32).toInt = 6 := by decide
    have t13 : ((6 : Int32) + p1).toInt = 6 + p1.toInt := i_add t12 rfl (by omega)
    refine ⟨?_, ?_⟩
    · exact i_in (e := ((6 : Int32) + p1)) (A := (6 + p1.toInt)) t13 (by omega)
    have cw15 := i_cl ((6 : Int32) + p1) (by omega)
    have w15 := Mz_.kd h (e := ((6 : Int32) + p1).toNatClampNeg) (by omega)
    refine ⟨fun q16 => ?_, fun q16 => ?_⟩
    · have c17 := i_lt q16
      exact k _ (by omega)
    · have c18 := i_nlt q16
      exact k _ (by omega)
theorem mSeatAt {S : Nat × (Nat → Int32)} {d : Nat} {x : mX} {I0 : rI0} {J0 : rJ0} {R C : Int} {I : rI0} {J : rJ0} {p1 : Int32} {p2 : Int32} {Q : Int32 → rI0 → rJ0 → Prop} (h : Mz_ I0 J0 R C I J) (k : ∀ r, (r.toInt = 0 ∨ (r.toInt = 1 ∧ 0 ≤ p1.toInt ∧ p1.toInt ≤ 7 ∧ 0 ≤ p2.toInt ∧ p2.toInt ≤ 7)) → Q r I J) : wcI S (d + 1) 184 [.ref 43, .int p1, .int p2] x I J Q := by
  have bh := h.bnd
  refine c184_43 ?_
  have t1 : (0 : Int32).toInt = 0 := by decide
  refine ⟨?_, ?_⟩
  · exact i_in (e := (0 : Int32)) (A := 0) t1 (by omega)
  have w3 : (I 45 ((0 : Int32).toNatClampNeg)).toInt = (I 45 0).toInt := rfl
  have t4 : (1 : Int32).toInt = 1 := by decide
  have t5 : ((I 45 ((0 : Int32).toNatClampNeg)) - (1 : Int32)).toInt = (I 45 ((0 : Int32).toNatClampNeg)).toInt - 1 := i_sub rfl t4 (by omega)
  refine mIn  ?_
  intro r1 g1a
  refine ⟨fun q6 => ?_, fun q6 => ?_⟩
  · have c7 := i_eq q6
    exact k _ (by omega)
  · have c8 := i_ne q6
    refine ⟨?_, ?_⟩
    · exact i_in (e := (1 : Int32)) (A := 1) t4 (by omega)
    have w10 : (I 45 ((1 : Int32).toNatClampNeg)).toInt = (I 45 1).toInt := rfl
    have t11 : ((I 45 ((1 : Int32).toNatClampNeg)) - (1 : Int32)).toInt = (I 45 ((1 : Int32).toNatClampNeg)).toInt - 1 := i_sub rfl t4 (by omega)
    refine mIn  ?_
    intro r2 g2a
    refine ⟨fun q12 => ?_, fun q12 => ?_⟩
    · have c13 := i_eq q12
      exact k _ (by omega)
    · have c14 := i_ne q12
      refine ⟨?_, ?_⟩
      · exact i_in (e := (1 : Int32)) (A := 1) t4 (by omega)
      have t16 : (6 : Int32).toInt = 6 := by decide
      have ut17 : 0 ≤ (I 45 ((1 : Int32).toNatClampNeg)).toInt * p1.toInt ∧ (I 45 ((1 : Int32).toNatClampNeg)).toInt * p1.toInt ≤ 64 := i_mb (by omega) (by omega)
      try have wt17 : (I 45 ((1 : Int32).toNatClampNeg)).toInt * p1.toInt ≤ 56 := i_m7 (by omega) (by omega)
      have vt17 := i_mp (A := (I 45 ((1 : Int32).toNatClampNeg)).toInt) (B := p1.toInt) (by omega) (by omega)
      have t17 : ((I 45 ((1 : Int32).toNatClampNeg)) * p1).toInt = (I 45 ((1 : Int32).toNatClampNeg)).toInt * p1.toInt := i_mul rfl rfl (by omega)
      have t18 : ((6 : Int32) + ((I 45 ((1 : Int32).toNatClampNeg)) * p1)).toInt = 6 + ((I 45 ((1 : Int32).toNatClampNeg)).toInt * p1.toInt) := i_add t16 t17 (by omega)
      have t19 : (((6 : Int32) + ((I 45 ((1 : Int32).toNatClampNeg)) * p1)) + p2).toInt = (6 + ((I 45 ((1 : Int32).toNatClampNeg)).toInt * p1.toInt)) + p2.toInt := i_add t18 rfl (by omega)
      refine ⟨?_, ?_⟩
      · exact i_in (e := (((6 : Int32) + ((I 45 ((1 : Int32).toNatClampNeg)) * p1)) + p2)) (A := ((6 + ((I 45 ((1 : Int32).toNatClampNeg)).toInt * p1.toInt)) + p2.toInt)) t19 (by omega)
      refine ⟨fun q21 => ?_, fun q21 => ?_⟩
      · have c22 := i_lt q21
        exact k _ (by omega)
      · have c23 := i_nlt q21
        exact k _ (by omega)
theorem mBitAt {S : Nat × (Nat → Int32)} {d : Nat} {x : mX} {I0 : rI0} {J0 : rJ0} {R C : Int} {I : rI0} {J : rJ0} {p1 : Int32} {p2 : Int32} {Q : Int64 → rI0 → rJ0 → Prop} (h : Mz_ I0 J0 R C I J) (k : ∀ r, Q r I J) : wcJ S (d + 2) 185 [.ref 43, .int p1, .int p2] x I J Q := by
  have bh := h.bnd
  refine c185_43 ?_
  refine mSeatAt (h) ?_
  intro r1 g1a
  refine ⟨fun q1 => ?_, fun q1 => ?_⟩
  · have c2 := i_eq q1
    have t3 : (0 : Int32).toInt = 0 := by decide
    exact k _
  · have c4 := i_ne q1
    have t5 : (0 : Int32).toInt = 0 := by decide
    have t6 : (1 : Int32).toInt = 1 := by decide
    refine ⟨?_, ?_⟩
    · exact i_in (e := (1 : Int32)) (A := 1) t6 (by omega)
    have w8 : (I 45 ((1 : Int32).toNatClampNeg)).toInt = (I 45 1).toInt := rfl
    exact k _
theorem mMoment0 {S : Nat × (Nat → Int32)} {d : Nat} {x : mX} {I : rI0} {J : rJ0} {p0 : Int32} {Q : Int32 → rI0 → rJ0 → Prop} (k : ∀ r, (r.toInt = 0 ∨ (r.toInt = 1 ∧ 0 ≤ p0.toInt ∧ p0.toInt ≤ 600)) → Q r I J) : wcI S (d + 1) 203 [.int p0] x I J Q := by
  refine c203 ?_
  have t1 : (0 : Int32).toInt = 0 := by decide
  have t2 : (600 : Int32).toInt = 600 := by decide
  refine mIn  ?_
  intro r1 g1a
  refine ⟨i_b01 (by omega), ?_⟩
  exact k _ (by omega)
theorem mLevel {S : Nat × (Nat → Int32)} {d : Nat} {x : mX} {I : rI0} {J : rJ0} {p1 : Int32} {Q : Int32 → rI0 → rJ0 → Prop} (k : ∀ r, Q r I J) : wcI S (d + 1) 196 [.ref 43, .int p1] x I J Q := by
  refine c196_43 ?_
  refine mHolds  ?_
  intro r1 g1a
  refine ⟨fun q1 => ?_, fun q1 => ?_⟩
  · have c2 := i_eq q1
    have t3 : (0 : Int32).toInt = 0 := by decide
    refine mHolds  ?_
    intro r2 g2a
    refine ⟨fun q4 => ?_, fun q4 => ?_⟩
    · have c5 := i_eq q4
      exact k _
    · have c6 := i_ne q4
      exact k _
  · have c7 := i_ne q1
    have t8 : (0 : Int32).toInt = 0 := by decide
    exact k _
theorem mHeldOf {S : Nat × (Nat → Int32)} {d : Nat} {x : mX} {I : rI0} {J : rJ0} {p1 : Int32} {Q : Int32 → rI0 → rJ0 → Prop} (k : ∀ r, Q r I J) : wcI S (d + 1) 197 [.ref 43, .int p1] x I J Q := by
  refine c197_43 ?_
  refine mHolds  ?_
  intro r1 g1a
  refine ⟨fun q1 => ?_, fun q1 => ?_⟩
  · have c2 := i_eq q1
    have t3 : (0 : Int32).toInt = 0 := by decide
    refine mHolds  ?_
    intro r2 g2a
    refine ⟨fun q4 => ?_, fun q4 => ?_⟩
    · have c5 := i_eq q4
      exact k _
    · have c6 := i_ne q4
      exact k _
  · have c7 := i_ne q1
    have t8 : (0 : Int32).toInt = 0 := by decide
    refine mHolds  ?_
    intro r3 g3a
    refine ⟨fun q9 => ?_, fun q9 => ?_⟩
    · have c10 := i_eq q9
      exact k _
    · have c11 := i_ne q9
      exact k _
theorem mLay_244 {S : Nat × (Nat → Int32)} {d : Nat} {x : mX} {I0 : rI0} {J0 : rJ0} {R C : Int} {Q : rI0 → rJ0 → Prop} {N64 : Nat} (k : ∀ I J, (Mz_ I0 J0 R C I J) → Q I J) (K64 : ∀ (l1 : Int64) (l3 : Int32) (I : rI0) (J : rJ0), (Mz_ I0 J0 R C I J) → ((64 - l3.toInt).toNat < N64) → (0 ≤ l3.toInt) → (l3.toInt ≤ 64) → wp S (d + 3) 186 64 [some (.ref 43), some (.long l1), none, some (.int l3), none, none, none, none, none, none, none, none, none] [] (wv x I J) (rV x Q)) : ∀ (l1 : Int64) (l3 : Int32) (l4 : Int32) (l5 : Int32) (l6 : Int64) (l8 : Int64) (l10 : Int32) (l11 : Int32) (I : rI0) (J : rJ0), (Mz_ I0 J0 R C I J) → (0 ≤ l3.toInt) → (l3.toInt < 64) → (0 ≤ l4.toInt) → (l4.toInt ≤ 63) → (0 ≤ l5.toInt) → (l5.toInt ≤ 8) → (Nle (64 - l3.toInt).toNat N64) → wp S (d + 3) 186 244 [some (.ref 43), some (.long l1), none, some (.int l3), some (.int l4), some (.int l5), some (.long l6), none, some (.long l8), none, some (.int l10), some (.int l11), none] [] (wv x I J) (rV x Q) := by
  intro l1 l3 l4 l5 l6 l8 l10 l11 I J h e0 e1 e2 e3 e4 e5 a0
  have bh := h.bnd
  refine v186_43_244 ?_
  have t1 : (6 : Int32).toInt = 6 := by decide
  have t2 : ((6 : Int32) * l3).toInt = 6 * l3.toInt := i_mul t1 rfl (by omega)
  refine ⟨?_, ?_⟩
  · exact i_in (e := ((6 : Int32) * l3)) (A := (6 * l3.toInt)) t2 (by omega)
  refine mBitAt (Mz_.sj (n := 51) (k := (((6 : Int32) * l3).toNatClampNeg)) (h) (by omega)) ?_
  intro r1
  have t4 : (1 : Int32).toInt = 1 := by decide
  have t5 : (((6 : Int32) * l3) + (1 : Int32)).toInt = (6 * l3.toInt) + 1 := i_add t2 t4 (by omega)
  refine ⟨?_, ?_⟩
  · exact i_in (e := (((6 : Int32) * l3) + (1 : Int32))) (A := ((6 * l3.toInt) + 1)) t5 (by omega)
  refine mBitAt (Mz_.sj (n := 51) (k := ((((6 : Int32) * l3) + (1 : Int32)).toNatClampNeg)) (Mz_.sj (n := 51) (k := (((6 : Int32) * l3).toNatClampNeg)) (h) (by omega)) (by omega)) ?_
  intro r2
  refine mBitAt (Mz_.sj (n := 51) (k := ((((6 : Int32) * l3) + (1 : Int32)).toNatClampNeg)) (Mz_.sj (n := 51) (k := (((6 : Int32) * l3).toNatClampNeg)) (h) (by omega)) (by omega)) ?_
  intro r3
  have t7 : (2 : Int32).toInt = 2 := by decide
  have t8 : (((6 : Int32) * l3) + (2 : Int32)).toInt = (6 * l3.toInt) + 2 := i_add t2 t7 (by omega)
  refine ⟨?_, ?_⟩
  · exact i_in (e := (((6 : Int32) * l3) + (2 : Int32))) (A := ((6 * l3.toInt) + 2)) t8 (by omega)
  refine mBitAt (Mz_.sj (n := 51) (k := ((((6 : Int32) * l3) + (2 : Int32)).toNatClampNeg)) (Mz_.sj (n := 51) (k := ((((6 : Int32) * l3) + (1 : Int32)).toNatClampNeg)) (Mz_.sj (n := 51) (k := (((6 : Int32) * l3).toNatClampNeg)) (h) (by omega)) (by omega)) (by omega)) ?_
  intro r4
  have t10 : (3 : Int32).toInt = 3 := by decide
  have t11 : (((6 : Int32) * l3) + (3 : Int32)).toInt = (6 * l3.toInt) + 3 := i_add t2 t10 (by omega)
  refine ⟨?_, ?_⟩
  · exact i_in (e := (((6 : Int32) * l3) + (3 : Int32))) (A := ((6 * l3.toInt) + 3)) t11 (by omega)
  have t13 : (4 : Int32).toInt = 4 := by decide
  have t14 : (((6 : Int32) * l3) + (4 : Int32)).toInt = (6 * l3.toInt) + 4 := i_add t2 t13 (by omega)
  refine ⟨?_, ?_⟩
  · exact i_in (e := (((6 : Int32) * l3) + (4 : Int32))) (A := ((6 * l3.toInt) + 4)) t14 (by omega)
  have t16 : (5 : Int32).toInt = 5 := by decide
  have t17 : (((6 : Int32) * l3) + (5 : Int32)).toInt = (6 * l3.toInt) + 5 := i_add t2 t16 (by omega)
  refine ⟨?_, ?_⟩
  · exact i_in (e := (((6 : Int32) * l3) + (5 : Int32))) (A := ((6 * l3.toInt) + 5)) t17 (by omega)
  have t19 : (l3 + (1 : Int32)).toInt = l3.toInt + 1 := i_add rfl t4 (by omega)
  exact K64 l1 (l3 + (1 : Int32)) I (mSet (mSet (mSet (mSet (mSet (mSet J 51 (((6 : Int32) * l3).toNatClampNeg) l6) 51 ((((6 : Int32) * l3) + (1 : Int32)).toNatClampNeg) r1) 51 ((((6 : Int32) * l3) + (2 : Int32)).toNatClampNeg) (r2 ||| r3)) 51 ((((6 : Int32) * l3) + (3 : Int32)).toNatClampNeg) r4) 51 ((((6 : Int32) * l3) + (4 : Int32)).toNatClampNeg) l8) 51 ((((6 : Int32) * l3) + (5 : Int32)).toNatClampNeg) (l1 &&& (((1 : Int64) <<< (l3.toInt64 &&& 63)) ^^^ (-1 : Int64)))) (Mz_.sj (n := 51) (k := ((((6 : Int32) * l3) + (5 : Int32)).toNatClampNeg)) (Mz_.sj (n := 51) (k := ((((6 : Int32) * l3) + (4 : Int32)).toNatClampNeg)) (Mz_.sj (n := 51) (k := ((((6 : Int32) * l3) + (3 : Int32)).toNatClampNeg)) (Mz_.sj (n := 51) (k := ((((6 : Int32) * l3) + (2 : Int32)).toNatClampNeg)) (Mz_.sj (n := 51) (k := ((((6 : Int32) * l3) + (1 : Int32)).toNatClampNeg)) (Mz_.sj (n := 51) (k := (((6 : Int32) * l3).toNatClampNeg)) (h) (by omega)) (by omega)) (by omega)) (by omega)) (by omega)) (by omega)) (mlt a0 (by omega) (by omega)) (by omega) (by omega)
theorem mLay_206 {S : Nat × (Nat → Int32)} {d : Nat} {x : mX} {I0 : rI0} {J0 : rJ0} {R C : Int} {Q : rI0 → rJ0 → Prop} {N190 : Nat} {N64 : Nat} (k : ∀ I J, (Mz_ I0 J0 R C I J) → Q I J) (K190 : ∀ (l1 : Int64) (l3 : Int32) (l4 : Int32) (l5 : Int32) (l6 : Int64) (l8 : Int64) (l10 : Int32) (l11 : Int32) (I : rI0) (J : rJ0), (Mz_ I0 J0 R C I J) → ((4 - l11.toInt).toNat < N190) → (0 ≤ l3.toInt) → (l3.toInt < 64) → (0 ≤ l11.toInt) → (l11.toInt ≤ 4) → (0 ≤ l4.toInt) → (l4.toInt ≤ 63) → (0 ≤ l5.toInt) → (l5.toInt ≤ 8) → (Nle (64 - l3.toInt).toNat N64) → wp S (d + 3) 186 190 [some (.ref 43), some (.long l1), none, some (.int l3), some (.int l4), some (.int l5), some (.long l6), none, some (.long l8), none, some (.int l10), some (.int l11), none] [] (wv x I J) (rV x Q)) : ∀ (n : Nat) (l1 : Int64) (l3 : Int32) (l4 : Int32) (l5 : Int32) (l6 : Int64) (l8 : Int64) (l10 : Int32) (l11 : Int32) (l12 : Int32) (I : rI0) (J : rJ0), (Neq (5 - l12.toInt).toNat n) → (Mz_ I0 J0 R C I J) → (0 ≤ l3.toInt) → (l3.toInt < 64) → (0 ≤ l11.toInt) → (l11.toInt < 4) → (-4 ≤ l12.toInt) → (l12.toInt ≤ 4) → (0 ≤ l4.toInt) → (l4.toInt ≤ 63) → (0 ≤ l5.toInt) → (l5.toInt ≤ 8) → (Nle (4 - l11.toInt).toNat N190) → (Nle (64 - l3.toInt).toNat N64) → wp S (d + 3) 186 206 [some (.ref 43), some (.long l1), none, some (.int l3), some (.int l4), some (.int l5), some (.long l6), none, some (.long l8), none, some (.int l10), some (.int l11), some (.int l12)] [] (wv x I J) (rV x Q) := by
  refine lpn ?_
  intro n ih
  intro l1 l3 l4 l5 l6 l8 l10 l11 l12 I J hm h e0 e1 e2 e3 e4 e5 e6 e7 e8 e9 a0 a1
  have bh := h.bnd
  refine v186_43_206 ?_
  refine ⟨fun q1 => ?_, fun q1 => ?_⟩
  · have c2 := i_lt q1
    have t3 : (1 : Int32).toInt = 1 := by decide
    have t4 : (l11 + (1 : Int32)).toInt = l11.toInt + 1 := i_add rfl t3 (by omega)
    exact K190 l1 l3 l4 l5 l6 l8 l10 (l11 + (1 : Int32)) I J (h) (mlt a0 (by omega) (by omega)) (by omega) (by omega) (by omega) (by omega) (by omega) (by omega) (by omega) (by omega) (mle a1 (by omega))
  · have c5 := i_nlt q1
    refine mBitAt (h) ?_
    intro r1
    have t6 : (1 : Int32).toInt = 1 := by decide
    have t7 : (l12 + (1 : Int32)).toInt = l12.toInt + 1 := i_add rfl t6 (by omega)
    exact ih _ (mih hm (by omega) (by omega)) l1 l3 l4 l5 l6 (l8 ||| r1) l10 l11 (l12 + (1 : Int32)) I J rfl (h) (by omega) (by omega) (by omega) (by omega) (by omega) (by omega) (by omega) (by omega) (by omega) (by omega) (mle a0 (by omega)) (mle a1 (by omega))
theorem mLay_190 {S : Nat × (Nat → Int32)} {d : Nat} {x : mX} {I0 : rI0} {J0 : rJ0} {R C : Int} {Q : rI0 → rJ0 → Prop} {N64 : Nat} (k : ∀ I J, (Mz_ I0 J0 R C I J) → Q I J) (K64 : ∀ (l1 : Int64) (l3 : Int32) (I : rI0) (J : rJ0), (Mz_ I0 J0 R C I J) → ((64 - l3.toInt).toNat < N64) → (0 ≤ l3.toInt) → (l3.toInt ≤ 64) → wp S (d + 3) 186 64 [some (.ref 43), some (.long l1), none, some (.int l3), none, none, none, none, none, none, none, none, none] [] (wv x I J) (rV x Q)) : ∀ (n : Nat) (l1 : Int64) (l3 : Int32) (l4 : Int32) (l5 : Int32) (l6 : Int64) (l8 : Int64) (l10 : Int32) (l11 : Int32) (I : rI0) (J : rJ0), (Neq (4 - l11.toInt).toNat n) → (Mz_ I0 J0 R C I J) → (0 ≤ l3.toInt) → (l3.toInt < 64) → (0 ≤ l11.toInt) → (l11.toInt ≤ 4) → (0 ≤ l4.toInt) → (l4.toInt ≤ 63) → (0 ≤ l5.toInt) → (l5.toInt ≤ 8) → (Nle (64 - l3.toInt).toNat N64) → wp S (d + 3) 186 190 [some (.ref 43), some (.long l1), none, some (.int l3), some (.int l4), some (.int l5), some (.long l6), none, some (.long l8), none, some (.int l10), some (.int l11), none] [] (wv x I J) (rV x Q) := by
  refine lpn ?_
  intro n ih
  intro l1 l3 l4 l5 l6 l8 l10 l11 I J hm h e0 e1 e2 e3 e4 e5 e6 e7 a0
  have bh := h.bnd
  refine v186_43_190 ?_
  refine ⟨fun q1 => ?_, fun q1 => ?_⟩
  · have c2 := i_lt q1
    have t3 : (4 : Int32).toInt = 4 := by decide
    refine ⟨fun q4 => ?_, fun q4 => ?_⟩
    · have c5 := i_eq q4
      have t6 : (0 : Int32).toInt = 0 := by decide
      have t7 : (-l11).toInt = -l11.toInt := i_neg rfl (by omega)
      exact mLay_206 k (fun l1_ l3_ l4_ l5_ l6_ l8_ l10_ l11_ I_ J_ h_ hlt f0_ f1_ f2_ f3_ f4_ f5_ f6_ f7_ f8_ => ih _ hlt l1_ l3_ l4_ l5_ l6_ l8_ l10_ l11_ I_ J_ rfl h_ f0_ f1_ f2_ f3_ f4_ f5_ f6_ f7_ f8_) _ l1 l3 l4 l5 l6 l8 l10 l11 (-l11) I J rfl (h) (by omega) (by omega) (by omega) (by omega) (by omega) (by omega) (by omega) (by omega) (by omega) (by omega) (mleq hm (by omega)) (mle a0 (by omega))
    · have c8 := i_ne q4
      have t9 : (0 : Int32).toInt = 0 := by decide
      exact mLay_244 k K64 l1 l3 l4 l5 l6 l8 l10 l11 I J (h) (by omega) (by omega) (by omega) (by omega) (by omega) (by omega) (mle a0 (by omega))
  · have c10 := i_nlt q1
    have t11 : (4 : Int32).toInt = 4 := by decide
    exact mLay_244 k K64 l1 l3 l4 l5 l6 l8 l10 l11 I J (h) (by omega) (by omega) (by omega) (by omega) (by omega) (by omega) (mle a0 (by omega))
theorem mLay_107 {S : Nat × (Nat → Int32)} {d : Nat} {x : mX} {I0 : rI0} {J0 : rJ0} {R C : Int} {Q : rI0 → rJ0 → Prop} {N64 : Nat} (k : ∀ I J, (Mz_ I0 J0 R C I J) → Q I J) (K64 : ∀ (l1 : Int64) (l3 : Int32) (I : rI0) (J : rJ0), (Mz_ I0 J0 R C I J) → ((64 - l3.toInt).toNat < N64) → (0 ≤ l3.toInt) → (l3.toInt ≤ 64) → wp S (d + 3) 186 64 [some (.ref 43), some (.long l1), none, some (.int l3), none, none, none, none, none, none, none, none, none] [] (wv x I J) (rV x Q)) : ∀ (n : Nat) (l1 : Int64) (l3 : Int32) (l4 : Int32) (l5 : Int32) (l6 : Int64) (l8 : Int32) (I : rI0) (J : rJ0), (Neq (9 - l8.toInt).toNat n) → (Mz_ I0 J0 R C I J) → (0 ≤ l3.toInt) → (l3.toInt < 64) → (0 ≤ l4.toInt) → (l4.toInt ≤ 63) → (0 ≤ l5.toInt) → (l5.toInt ≤ 8) → (0 ≤ l8.toInt) → (l8.toInt ≤ 9) → (l4.toInt ≤ 0 ∨ C ≤ l3.toInt) → (Nle (64 - l3.toInt).toNat N64) → wp S (d + 3) 186 107 [some (.ref 43), some (.long l1), none, some (.int l3), some (.int l4), some (.int l5), some (.long l6), none, some (.int l8), none, none, none, none] [] (wv x I J) (rV x Q) := by
  refine lpn ?_
  intro n ih
  intro l1 l3 l4 l5 l6 l8 I J hm h e0 e1 e2 e3 e4 e5 e6 e7 e8 a0
  have bh := h.bnd
  refine v186_43_107 ?_
  refine ⟨fun q1 => ?_, fun q1 => ?_⟩
  · have c2 := i_lt q1
    have t3 : (9 : Int32).toInt = 9 := by decide
    refine ⟨fun q4 => ?_, fun q4 => ?_⟩
    · have c5 := i_eq q4
      have t6 : (4 : Int32).toInt = 4 := by decide
      have t7 : (1 : Int32).toInt = 1 := by decide
      have t8 : (l8 + (1 : Int32)).toInt = l8.toInt + 1 := i_add rfl t7 (by omega)
      exact ih _ (mih hm (by omega) (by omega)) l1 l3 l4 l5 l6 (l8 + (1 : Int32)) I J rfl (h) (by omega) (by omega) (by omega) (by omega) (by omega) (by omega) (by omega) (by omega) (by omega) (mle a0 (by omega))
    · have c9 := i_ne q4
      have t10 : (4 : Int32).toInt = 4 := by decide
      have t11 : (3 : Int32).toInt = 3 := by decide
      refine ⟨?_, ?_⟩
      · exact i_n0 (e := (3 : Int32)) (A := 3) t11 (by omega)
      have t12 := i_div (a := (l8)) (b := (3 : Int32)) (A := l8.toInt) (B := 3) rfl t11 (by omega) (by omega)
      have dt12 := i_dp (A := l8.toInt) (B := 3) (by omega) (by omega)
      refine ⟨?_, ?_⟩
      · exact i_n0 (e := (3 : Int32)) (A := 3) t11 (by omega)
      have t13 := i_rem (a := (l8)) (b := (3 : Int32)) (A := l8.toInt) (B := 3) rfl t11 (by omega) (by omega)
      refine mBitAt (h) ?_
      intro r1
      have t14 : (1 : Int32).toInt = 1 := by decide
      have t15 : (l8 + (1 : Int32)).toInt = l8.toInt + 1 := i_add rfl t14 (by omega)
      exact ih _ (mih hm (by omega) (by omega)) l1 l3 l4 l5 (l6 ||| r1) (l8 + (1 : Int32)) I J rfl (h) (by omega) (by omega) (by omega) (by omega) (by omega) (by omega) (by omega) (by omega) (by omega) (mle a0 (by omega))
  · have c16 := i_nlt q1
    have t17 : (9 : Int32).toInt = 9 := by decide
    refine ⟨fun q18 => ?_, fun q18 => ?_⟩
    · have c19 := i_lt q18
      have t20 : (0 : Int32).toInt = 0 := by decide
      have t21 : (1 : Int32).toInt = 1 := by decide
      refine ⟨?_, ?_⟩
      · exact i_in (e := (1 : Int32)) (A := 1) t21 (by omega)
      have w23 : (I 45 ((1 : Int32).toNatClampNeg)).toInt = (I 45 1).toInt := rfl
      have t24 : (6 : Int32).toInt = 6 := by decide
      have t25 : ((6 : Int32) + l3).toInt = 6 + l3.toInt := i_add t24 rfl (by omega)
      have t26 : (((6 : Int32) + l3) - (I 45 ((1 : Int32).toNatClampNeg))).toInt = (6 + l3.toInt) - (I 45 ((1 : Int32).toNatClampNeg)).toInt := i_sub t25 rfl (by omega)
      refine ⟨?_, ?_⟩
      · exact i_in (e := (((6 : Int32) + l3) - (I 45 ((1 : Int32).toNatClampNeg)))) (A := ((6 + l3.toInt) - (I 45 ((1 : Int32).toNatClampNeg)).toInt)) t26 (by omega)
      refine ⟨fun q28 => ?_, fun q28 => ?_⟩
      · have c29 := i_eq q28
        exact mLay_190 k K64 _ l1 l3 l4 l5 l6 ((0 : Int64)) ((1 : Int32)) ((1 : Int32)) I J rfl (h) (by omega) (by omega) (by omega) (by omega) (by omega) (by omega) (by omega) (by omega) (mle a0 (by omega))
      · have c30 := i_ne q28
        exact mLay_190 k K64 _ l1 l3 l4 l5 l6 ((0 : Int64)) ((0 : Int32)) ((1 : Int32)) I J rfl (h) (by omega) (by omega) (by omega) (by omega) (by omega) (by omega) (by omega) (by omega) (mle a0 (by omega))
    · have c31 := i_nlt q18
      have t32 : (0 : Int32).toInt = 0 := by decide
      have t33 : (1 : Int32).toInt = 1 := by decide
      exact mLay_190 k K64 _ l1 l3 l4 l5 l6 ((0 : Int64)) ((0 : Int32)) ((1 : Int32)) I J rfl (h) (by omega) (by omega) (by omega) (by omega) (by omega) (by omega) (by omega) (by omega) (mle a0 (by omega))
theorem mLay_64 {S : Nat × (Nat → Int32)} {d : Nat} {x : mX} {I0 : rI0} {J0 : rJ0} {R C : Int} {Q : rI0 → rJ0 → Prop} (k : ∀ I J, (Mz_ I0 J0 R C I J) → Q I J) : ∀ (n : Nat) (l1 : Int64) (l3 : Int32) (I : rI0) (J : rJ0), (Neq (64 - l3.toInt).toNat n) → (Mz_ I0 J0 R C I J) → (0 ≤ l3.toInt) → (l3.toInt ≤ 64) → wp S (d + 3) 186 64 [some (.ref 43), some (.long l1), none, some (.int l3), none, none, none, none, none, none, none, none, none] [] (wv x I J) (rV x Q) := by
  refine lpn ?_
  intro n ih
  intro l1 l3 I J hm h e0 e1
  have bh := h.bnd
  refine v186_43_64 ?_
  have t1 : (0 : Int32).toInt = 0 := by decide
  refine ⟨?_, ?_⟩
  · exact i_in (e := (0 : Int32)) (A := 0) t1 (by omega)
  have w3 : (I 45 ((0 : Int32).toNatClampNeg)).toInt = (I 45 0).toInt := rfl
  have t4 : (1 : Int32).toInt = 1 := by decide
  refine ⟨?_, ?_⟩
  · exact i_in (e := (1 : Int32)) (A := 1) t4 (by omega)
  have w6 : (I 45 ((1 : Int32).toNatClampNeg)).toInt = (I 45 1).toInt := rfl
  refine ⟨fun q7 => ?_, fun q7 => ?_⟩
  · have c8 := i_lt q7
    have ut9 : 0 ≤ (I 45 ((0 : Int32).toNatClampNeg)).toInt * (I 45 ((1 : Int32).toNatClampNeg)).toInt ∧ (I 45 ((0 : Int32).toNatClampNeg)).toInt * (I 45 ((1 : Int32).toNatClampNeg)).toInt ≤ 64 := i_mb (by omega) (by omega)
    try have wt9 : (I 45 ((0 : Int32).toNatClampNeg)).toInt * (I 45 ((1 : Int32).toNatClampNeg)).toInt ≤ 56 := i_m7 (by omega) (by omega)
    have vt9 := i_mp (A := (I 45 ((0 : Int32).toNatClampNeg)).toInt) (B := (I 45 ((1 : Int32).toNatClampNeg)).toInt) (by omega) (by omega)
    have t9 : ((I 45 ((0 : Int32).toNatClampNeg)) * (I 45 ((1 : Int32).toNatClampNeg))).toInt = (I 45 ((0 : Int32).toNatClampNeg)).toInt * (I 45 ((1 : Int32).toNatClampNeg)).toInt := i_mul rfl rfl (by omega)
    refine ⟨?_, ?_⟩
    · exact i_in (e := (1 : Int32)) (A := 1) t4 (by omega)
    refine ⟨?_, ?_⟩
    · exact i_n0 (e := (I 45 ((1 : Int32).toNatClampNeg))) (A := (I 45 ((1 : Int32).toNatClampNeg)).toInt) rfl (by omega)
    have t11 := i_div (a := (l3)) (b := (I 45 ((1 : Int32).toNatClampNeg))) (A := l3.toInt) (B := (I 45 ((1 : Int32).toNatClampNeg)).toInt) rfl rfl (by omega) (by omega)
    have dt11 := i_dp (A := l3.toInt) (B := (I 45 ((1 : Int32).toNatClampNeg)).toInt) (by omega) (by omega)
    refine ⟨?_, ?_⟩
    · exact i_in (e := (1 : Int32)) (A := 1) t4 (by omega)
    refine ⟨?_, ?_⟩
    · exact i_n0 (e := (I 45 ((1 : Int32).toNatClampNeg))) (A := (I 45 ((1 : Int32).toNatClampNeg)).toInt) rfl (by omega)
    have t13 := i_rem (a := (l3)) (b := (I 45 ((1 : Int32).toNatClampNeg))) (A := l3.toInt) (B := (I 45 ((1 : Int32).toNatClampNeg)).toInt) rfl rfl (by omega) (by omega)
    exact mLay_107 k (fun l1_ l3_ I_ J_ h_ hlt f0_ f1_ => ih _ hlt l1_ l3_ I_ J_ rfl h_ f0_ f1_) _ l1 l3 (l3 / (I 45 ((1 : Int32).toNatClampNeg))) (l3 - l3 / (I 45 ((1 : Int32).toNatClampNeg)) * (I 45 ((1 : Int32).toNatClampNeg))) ((0 : Int64)) ((0 : Int32)) I J rfl (h) (by omega) (by omega) (by omega) (by omega) (by omega) (by omega) (by omega) (by omega) (by omega) (mleq hm (by omega))
  · have c14 := i_nlt q7
    have ut15 : 0 ≤ (I 45 ((0 : Int32).toNatClampNeg)).toInt * (I 45 ((1 : Int32).toNatClampNeg)).toInt ∧ (I 45 ((0 : Int32).toNatClampNeg)).toInt * (I 45 ((1 : Int32).toNatClampNeg)).toInt ≤ 64 := i_mb (by omega) (by omega)
    try have wt15 : (I 45 ((0 : Int32).toNatClampNeg)).toInt * (I 45 ((1 : Int32).toNatClampNeg)).toInt ≤ 56 := i_m7 (by omega) (by omega)
    have vt15 := i_mp (A := (I 45 ((0 : Int32).toNatClampNeg)).toInt) (B := (I 45 ((1 : Int32).toNatClampNeg)).toInt) (by omega) (by omega)
    have t15 : ((I 45 ((0 : Int32).toNatClampNeg)) * (I 45 ((1 : Int32).toNatClampNeg))).toInt = (I 45 ((0 : Int32).toNatClampNeg)).toInt * (I 45 ((1 : Int32).toNatClampNeg)).toInt := i_mul rfl rfl (by omega)
    exact k _ _ (h)
theorem mLay_17 {S : Nat × (Nat → Int32)} {d : Nat} {x : mX} {I0 : rI0} {J0 : rJ0} {R C : Int} {Q : rI0 → rJ0 → Prop} (k : ∀ I J, (Mz_ I0 J0 R C I J) → Q I J) : ∀ (n : Nat) (l1 : Int64) (l3 : Int32) (I : rI0) (J : rJ0), (Neq (64 - l3.toInt).toNat n) → (Mz_ I0 J0 R C I J) → (0 ≤ l3.toInt) → (l3.toInt ≤ 64) → wp S (d + 3) 186 17 [some (.ref 43), some (.long l1), none, some (.int l3), none, none, none, none, none, none, none, none, none] [] (wv x I J) (rV x Q) := by
  refine lpn ?_
  intro n ih
  intro l1 l3 I J hm h e0 e1
  have bh := h.bnd
  refine v186_43_17 ?_
  have t1 : (0 : Int32).toInt = 0 := by decide
  refine ⟨?_, ?_⟩
  · exact i_in (e := (0 : Int32)) (A := 0) t1 (by omega)
  have w3 : (I 45 ((0 : Int32).toNatClampNeg)).toInt = (I 45 0).toInt := rfl
  have t4 : (1 : Int32).toInt = 1 := by decide
  refine ⟨?_, ?_⟩
  · exact i_in (e := (1 : Int32)) (A := 1) t4 (by omega)
  have w6 : (I 45 ((1 : Int32).toNatClampNeg)).toInt = (I 45 1).toInt := rfl
  refine ⟨fun q7 => ?_, fun q7 => ?_⟩
  · have c8 := i_lt q7
    have ut9 : 0 ≤ (I 45 ((0 : Int32).toNatClampNeg)).toInt * (I 45 ((1 : Int32).toNatClampNeg)).toInt ∧ (I 45 ((0 : Int32).toNatClampNeg)).toInt * (I 45 ((1 : Int32).toNatClampNeg)).toInt ≤ 64 := i_mb (by omega) (by omega)
    try have wt9 : (I 45 ((0 : Int32).toNatClampNeg)).toInt * (I 45 ((1 : Int32).toNatClampNeg)).toInt ≤ 56 := i_m7 (by omega) (by omega)
    have vt9 := i_mp (A := (I 45 ((0 : Int32).toNatClampNeg)).toInt) (B := (I 45 ((1 : Int32).toNatClampNeg)).toInt) (by omega) (by omega)
    have t9 : ((I 45 ((0 : Int32).toNatClampNeg)) * (I 45 ((1 : Int32).toNatClampNeg))).toInt = (I 45 ((0 : Int32).toNatClampNeg)).toInt * (I 45 ((1 : Int32).toNatClampNeg)).toInt := i_mul rfl rfl (by omega)
    have t10 : (6 : Int32).toInt = 6 := by decide
    have t11 : ((6 : Int32) + l3).toInt = 6 + l3.toInt := i_add t10 rfl (by omega)
    refine ⟨?_, ?_⟩
    · exact i_in (e := ((6 : Int32) + l3)) (A := (6 + l3.toInt)) t11 (by omega)
    have cw13 := i_cl ((6 : Int32) + l3) (by omega)
    have w13 := Mz_.kd h (e := ((6 : Int32) + l3).toNatClampNeg) (by omega)
    refine ⟨fun q14 => ?_, fun q14 => ?_⟩
    · have c15 := i_lt q14
      have t16 : (l3 + (1 : Int32)).toInt = l3.toInt + 1 := i_add rfl t4 (by omega)
      exact ih _ (mih hm (by omega) (by omega)) (l1 ||| ((1 : Int64) <<< (l3.toInt64 &&& 63))) (l3 + (1 : Int32)) I J rfl (h) (by omega) (by omega)
    · have c17 := i_nlt q14
      have t18 : (l3 + (1 : Int32)).toInt = l3.toInt + 1 := i_add rfl t4 (by omega)
      exact ih _ (mih hm (by omega) (by omega)) (l1 ||| (0 : Int64)) (l3 + (1 : Int32)) I J rfl (h) (by omega) (by omega)
  · have c19 := i_nlt q7
    have ut20 : 0 ≤ (I 45 ((0 : Int32).toNatClampNeg)).toInt * (I 45 ((1 : Int32).toNatClampNeg)).toInt ∧ (I 45 ((0 : Int32).toNatClampNeg)).toInt * (I 45 ((1 : Int32).toNatClampNeg)).toInt ≤ 64 := i_mb (by omega) (by omega)
    try have wt20 : (I 45 ((0 : Int32).toNatClampNeg)).toInt * (I 45 ((1 : Int32).toNatClampNeg)).toInt ≤ 56 := i_m7 (by omega) (by omega)
    have vt20 := i_mp (A := (I 45 ((0 : Int32).toNatClampNeg)).toInt) (B := (I 45 ((1 : Int32).toNatClampNeg)).toInt) (by omega) (by omega)
    have t20 : ((I 45 ((0 : Int32).toNatClampNeg)) * (I 45 ((1 : Int32).toNatClampNeg))).toInt = (I 45 ((0 : Int32).toNatClampNeg)).toInt * (I 45 ((1 : Int32).toNatClampNeg)).toInt := i_mul rfl rfl (by omega)
    exact mLay_64 k _ l1 ((0 : Int32)) I J rfl (h) (by omega) (by omega)
theorem mLay {S : Nat × (Nat → Int32)} {d : Nat} {x : mX} {I0 : rI0} {J0 : rJ0} {R C : Int} {I : rI0} {J : rJ0} {Q : rI0 → rJ0 → Prop} (h : Mz_ I0 J0 R C I J) (k : ∀ I J, (Mz_ I0 J0 R C I J) → Q I J) : wcV S (d + 3) 186 [.ref 43] x I J Q := by
  have bh := h.bnd
  refine c186_43 ?_
  refine ⟨fun q1 => ?_, fun q1 => ?_⟩
  · have c2 := i_eq q1
    have t3 : (0 : Int32).toInt = 0 := by decide
    exact k _ _ (h)
  · have c4 := i_ne q1
    have t5 : (0 : Int32).toInt = 0 := by decide
    exact mLay_17 k _ ((0 : Int64)) ((0 : Int32)) (mSet I 43 30 (0 : Int32)) J rfl (Mz_.si (n := 43) (k := 30) (h) (by omega)) (by omega) (by omega)
end MS1
