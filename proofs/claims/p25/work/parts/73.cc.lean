section
section CC3
theorem tReadSeat {S : Nat × (Nat → Int32)} {d : Nat} {x : mX} {I0 : rI0} {J0 : rJ0} {t : Int32} {I : rI0} {J : rJ0} {p1 : Int32} {Q : Int32 → rI0 → rJ0 → Prop} (h : TQ I0 J0 t I J) (hp : 0 ≤ p1.toInt ∧ p1.toInt < 30) (k : ∀ r I J, (TQ I0 J0 t I J) → (r.toInt = 0 ∨ r.toInt = 1) → Q r I J) : wcI S (d + 2) 4 [.ref 30, .int p1] x I J Q := by
  have bh := h.bnd
  refine c4_30 ?_
  refine tTake (h) ?_
  intro r1 I1 J1 h1 g1a
  have bh1 := h1.bnd
  refine ⟨fun q1 => ?_, fun q1 => ?_⟩
  · have c2 := i_eq q1
    have t3 : (0 : Int32).toInt = 0 := by decide
    exact k _ _ _ (h1) (by omega)
  · have c4 := i_ne q1
    have t5 : (0 : Int32).toInt = 0 := by decide
    refine tWithin (h1) ?_
    intro r2 I2 J2 h2 g2a
    have bh2 := h2.bnd
    refine ⟨fun q6 => ?_, fun q6 => ?_⟩
    · have c7 := i_eq q6
      exact k _ _ _ (h2) (by omega)
    · have c8 := i_ne q6
      refine tSeat  ?_
      intro r3
      refine ⟨fun q9 => ?_, fun q9 => ?_⟩
      · have c10 := i_eq q9
        refine tFail (h2) ?_
        intro r4 I4 J4 h4 g4a
        have bh4 := h4.bnd
        refine ⟨i_b01 (by omega), ?_⟩
        exact k _ _ _ (h4) (by omega)
      · have c11 := i_ne q9
        refine ⟨?_, ?_⟩
        · exact i_in (e := (p1)) (A := p1.toInt) rfl (by omega)
        refine tRead (TQ.si (n := 26) (k := p1.toNatClampNeg) (h2) (by omega) (by decide)) ?_
        intro I5 J5 h5
        have bh5 := h5.bnd
        have t13 : (1 : Int32).toInt = 1 := by decide
        exact k _ _ _ (h5) (by omega)
theorem tReadCue_71 {S : Nat × (Nat → Int32)} {d : Nat} {x : mX} {I0 : rI0} {J0 : rJ0} {t : Int32} {Q : Int32 → rI0 → rJ0 → Prop} (k : ∀ r I J, (TQ I0 J0 t I J) → (r.toInt = 0 ∨ r.toInt = 1) → Q r I J) : ∀ (l1 : Int32) (s0 : Int32) (I : rI0) (J : rJ0), (TQ I0 J0 t I J) → (0 ≤ l1.toInt) → (l1.toInt < 30) → wp S (d + 9) 3 71 [some (.ref 30), some (.int l1), none, none] [.int s0] (wv x I J) (rI x Q) := by
  intro l1 s0 I J h e0 e1
  have bh := h.bnd
  refine v3_30_71 ?_
  refine tTake (h) ?_
  intro r1 I1 J1 h1 g1a
  have bh1 := h1.bnd
  refine ⟨fun q1 => ?_, fun q1 => ?_⟩
  · have c2 := i_eq q1
    have t3 : (0 : Int32).toInt = 0 := by decide
    exact k _ _ _ (h1) (by omega)
  · have c4 := i_ne q1
    have t5 : (0 : Int32).toInt = 0 := by decide
    refine ⟨?_, ?_⟩
    · exact i_in (e := (l1)) (A := l1.toInt) rfl (by omega)
    refine tDeed (TQ.si (n := 24) (k := l1.toNatClampNeg) (h1) (by omega) (by decide)) ?_
    intro r2
    refine ⟨fun q7 => ?_, fun q7 => ?_⟩
    · have c8 := i_eq q7
      have t9 : (-1 : Int32).toInt = -1 := by decide
      refine tFail (TQ.si (n := 24) (k := l1.toNatClampNeg) (h1) (by omega) (by decide)) ?_
      intro r3 I3 J3 h3 g3a
      have bh3 := h3.bnd
      refine ⟨i_b01 (by omega), ?_⟩
      exact k _ _ _ (h3) (by omega)
    · have c10 := i_ne q7
      have t11 : (-1 : Int32).toInt = -1 := by decide
      refine ⟨?_, ?_⟩
      · exact i_in (e := (l1)) (A := l1.toInt) rfl (by omega)
      refine ⟨?_, ?_⟩
      · exact i_in (e := (l1)) (A := l1.toInt) rfl (by omega)
      refine tRead (TQ.si (n := 26) (k := l1.toNatClampNeg) (TQ.si (n := 25) (k := l1.toNatClampNeg) (TQ.si (n := 24) (k := l1.toNatClampNeg) (h1) (by omega) (by decide)) (by omega) (by decide)) (by omega) (by decide)) ?_
      intro I4 J4 h4
      have bh4 := h4.bnd
      refine ⟨fun q14 => ?_, fun q14 => ?_⟩
      · have c15 := i_eq q14
        have t16 : (3 : Int32).toInt = 3 := by decide
        have t17 : (1 : Int32).toInt = 1 := by decide
        have t18 : (l1 + (1 : Int32)).toInt = l1.toInt + 1 := i_add rfl t17 (by omega)
        refine tPass (TQ.s15 (h4) (v := (l1 + (1 : Int32))) (by omega)) ?_
        intro r5 I5 J5 h5 g5a
        have bh5 := h5.bnd
        refine ⟨i_b01 (by omega), ?_⟩
        exact k _ _ _ (h5) (by omega)
      · have c19 := i_ne q14
        have t20 : (3 : Int32).toInt = 3 := by decide
        refine tReadSeat (h4) (by omega) ?_
        intro r6 I6 J6 h6 g6a
        have bh6 := h6.bnd
        refine ⟨fun q21 => ?_, fun q21 => ?_⟩
        · have c22 := i_eq q21
          exact k _ _ _ (h6) (by omega)
        · have c23 := i_ne q21
          have t24 : (1 : Int32).toInt = 1 := by decide
          have t25 : (l1 + (1 : Int32)).toInt = l1.toInt + 1 := i_add rfl t24 (by omega)
          refine tPass (TQ.s15 (h6) (v := (l1 + (1 : Int32))) (by omega)) ?_
          intro r7 I7 J7 h7 g7a
          have bh7 := h7.bnd
          refine ⟨i_b01 (by omega), ?_⟩
          exact k _ _ _ (h7) (by omega)
theorem tReadCue {S : Nat × (Nat → Int32)} {d : Nat} {x : mX} {I0 : rI0} {J0 : rJ0} {t : Int32} {I : rI0} {J : rJ0} {Q : Int32 → rI0 → rJ0 → Prop} (h : TQ I0 J0 t I J) (k : ∀ r I J, (TQ I0 J0 t I J) → (r.toInt = 0 ∨ r.toInt = 1) → Q r I J) : wcI S (d + 9) 3 [.ref 30] x I J Q := by
  have bh := h.bnd
  refine c3_30 ?_
  refine tAt (h) ?_
  intro r1
  refine ⟨fun q1 => ?_, fun q1 => ?_⟩
  · have c2 := i_eq q1
    have t3 : (-1 : Int32).toInt = -1 := by decide
    refine tFail (h) ?_
    intro r2 I2 J2 h2 g2a
    have bh2 := h2.bnd
    refine ⟨i_b01 (by omega), ?_⟩
    exact k _ _ _ (h2) (by omega)
  · have c4 := i_ne q1
    have t5 : (-1 : Int32).toInt = -1 := by decide
    refine ⟨fun q6 => ?_, fun q6 => ?_⟩
    · have c7 := i_lt q6
      have t8 : (30 : Int32).toInt = 30 := by decide
      refine tRead (h) ?_
      intro I3 J3 h3
      have bh3 := h3.bnd
      refine ⟨fun q9 => ?_, fun q9 => ?_⟩
      · have c10 := i_lt q9
        have t11 : (0 : Int32).toInt = 0 := by decide
        have t12 : (1 : Int32).toInt = 1 := by decide
        have t13 : ((I 15 4) - (1 : Int32)).toInt = (I 15 4).toInt - 1 := i_sub rfl t12 (by omega)
        refine ⟨?_, ?_⟩
        · exact i_in (e := ((I 15 4) - (1 : Int32))) (A := ((I 15 4).toInt - 1)) t13 (by omega)
        exact tReadCue_71 k (I 15 4) (I3 24 (((I 15 4) - (1 : Int32)).toNatClampNeg)) I3 J3 (h3) (by omega) (by omega)
      · have c15 := i_nlt q9
        have t16 : (0 : Int32).toInt = 0 := by decide
        exact tReadCue_71 k (I 15 4) ((0 : Int32)) I3 J3 (h3) (by omega) (by omega)
    · have c17 := i_nlt q6
      have t18 : (30 : Int32).toInt = 30 := by decide
      refine tFail (h) ?_
      intro r4 I4 J4 h4 g4a
      have bh4 := h4.bnd
      refine ⟨i_b01 (by omega), ?_⟩
      exact k _ _ _ (h4) (by omega)
theorem tReadCues_10 {S : Nat × (Nat → Int32)} {d : Nat} {x : mX} {I0 : rI0} {J0 : rJ0} {t : Int32} {Q : rI0 → rJ0 → Prop} (k : ∀ I J, (TQ I0 J0 t I J) → Q I J) : ∀ (n : Nat) (l1 : Int32) (I : rI0) (J : rJ0), ((400 - l1.toInt).toNat = n) → (TQ I0 J0 t I J) → (0 ≤ l1.toInt) → (l1.toInt ≤ 400) → wp S (d + 10) 2 10 [some (.ref 30), some (.int l1)] [] (wv x I J) (rV x Q) := by
  refine lpn ?_
  intro n ih
  intro l1 I J hm h e0 e1
  have bh := h.bnd
  refine v2_30_10 ?_
  refine ⟨fun q1 => ?_, fun q1 => ?_⟩
  · have c2 := i_lt q1
    have t3 : (400 : Int32).toInt = 400 := by decide
    refine ⟨fun q4 => ?_, fun q4 => ?_⟩
    · have c5 := i_eq q4
      have t6 : (1 : Int32).toInt = 1 := by decide
      exact k _ _ (h)
    · have c7 := i_ne q4
      have t8 : (1 : Int32).toInt = 1 := by decide
      refine tReadCue (h) ?_
      intro r1 I1 J1 h1 g1a
      have bh1 := h1.bnd
      refine ⟨fun q9 => ?_, fun q9 => ?_⟩
      · have c10 := i_eq q9
        have t11 : (0 : Int32).toInt = 0 := by decide
        exact k _ _ (h1)
      · have c12 := i_ne q9
        have t13 : (0 : Int32).toInt = 0 := by decide
        have t14 : (l1 + (1 : Int32)).toInt = l1.toInt + 1 := i_add rfl t8 (by omega)
        exact ih _ (by omega) (l1 + (1 : Int32)) I1 J1 rfl (h1) (by omega) (by omega)
  · have c15 := i_nlt q1
    have t16 : (400 : Int32).toInt = 400 := by decide
    exact k _ _ (h)
theorem tReadCues {S : Nat × (Nat → Int32)} {d : Nat} {x : mX} {I0 : rI0} {J0 : rJ0} {t : Int32} {I : rI0} {J : rJ0} {Q : rI0 → rJ0 → Prop} (h : TQ I0 J0 t I J) (k : ∀ I J, (TQ I0 J0 t I J) → Q I J) : wcV S (d + 10) 2 [.ref 30] x I J Q := by
  have bh := h.bnd
  refine c2_30 ?_
  have t1 : (0 : Int32).toInt = 0 := by decide
  exact tReadCues_10 k _ ((0 : Int32)) (mSet I 15 4 (0 : Int32)) J rfl (TQ.s15 (h) (v := ((0 : Int32))) (by omega)) (by omega) (by omega)
end CC3
end
section
section CC4
theorem zUnlike_5 {S : Nat × (Nat → Int32)} {d : Nat} {x : mX} {I0 : rI0} {J0 : rJ0} {t : Int32} {I : rI0} {J : rJ0} {Q : Int32 → rI0 → rJ0 → Prop} (k : ∀ r, (r.toInt = 0 ∨ r.toInt = 1) → Q r I J) (h : CZ I0 J0 t I J) : ∀ (n : Nat) (l1 : Int32) (l2 : Int32) (l3 : Int64) (l5 : Int32), ((l2.toInt - l5.toInt).toNat = n) → (0 ≤ l1.toInt) → (l2.toInt ≤ 940) → (0 ≤ l5.toInt) → wp S (d + 1) 81 5 [some (.ref 37), some (.int l1), some (.int l2), some (.long l3), none, some (.int l5)] [] (wv x I J) (rI x Q) := by
  refine lpn ?_
  intro n ih
  intro l1 l2 l3 l5 hm e0 e1 e2
  have bh := h.bnd
  refine v81_37_5 ?_
  refine ⟨fun q1 => ?_, fun q1 => ?_⟩
  · have c2 := i_lt q1
    refine ⟨?_, ?_⟩
    · exact i_in (e := (l5)) (A := l5.toInt) rfl (by omega)
    refine zSeat (h) ?_
    intro r1 g1a
    refine ⟨fun q4 => ?_, fun q4 => ?_⟩
    · have c5 := i_eq q4
      have t6 : (0 : Int32).toInt = 0 := by decide
      exact k _ (by omega)
    · have c7 := i_ne q4
      have t8 : (0 : Int32).toInt = 0 := by decide
      refine ⟨?_, ?_⟩
      · exact i_in (e := (l5)) (A := l5.toInt) rfl (by omega)
      refine zBit  ?_
      intro r2
      refine ⟨fun q10 => ?_, fun q10 => ?_⟩
      · have c11 := i_eq q10
        have t12 : (1 : Int32).toInt = 1 := by decide
        exact k _ (by omega)
      · have c13 := i_ne q10
        have t14 : (1 : Int32).toInt = 1 := by decide
        refine ⟨?_, ?_⟩
        · exact i_in (e := (l5)) (A := l5.toInt) rfl (by omega)
        have t16 : (l5 + (1 : Int32)).toInt = l5.toInt + 1 := i_add rfl t14 (by omega)
        exact ih _ (by omega) l1 l2 (l3 ||| ((1 : Int64) <<< ((I 2 l5.toNatClampNeg).toInt64 &&& 63))) (l5 + (1 : Int32)) rfl (by omega) (by omega) (by omega)
  · have c17 := i_nlt q1
    have t18 : (1 : Int32).toInt = 1 := by decide
    exact k _ (by omega)
theorem zUnlike {S : Nat × (Nat → Int32)} {d : Nat} {x : mX} {I0 : rI0} {J0 : rJ0} {t : Int32} {I : rI0} {J : rJ0} {p1 : Int32} {p2 : Int32} {Q : Int32 → rI0 → rJ0 → Prop} (h : CZ I0 J0 t I J) (hp : 0 ≤ p1.toInt ∧ p2.toInt ≤ 940) (k : ∀ r, (r.toInt = 0 ∨ r.toInt = 1) → Q r I J) : wcI S (d + 1) 81 [.ref 37, .int p1, .int p2] x I J Q := by
  have bh := h.bnd
  refine c81_37 ?_
  exact zUnlike_5 k h _ p1 p2 ((0 : Int64)) p1 rfl (by omega) (by omega) (by omega)
theorem zHands {S : Nat × (Nat → Int32)} {d : Nat} {x : mX} {I0 : rI0} {J0 : rJ0} {t : Int32} {I : rI0} {J : rJ0} {p1 : Int32} {Q : Int32 → rI0 → rJ0 → Prop} (h : CZ I0 J0 t I J) (k : ∀ r, (r.toInt = 0 ∨ (r.toInt = 1 ∧ 1 ≤ p1.toInt ∧ p1.toInt ≤ 8)) → Q r I J) : wcI S (d + 2) 80 [.ref 37, .int p1] x I J Q := by
  have bh := h.bnd
  refine c80_37 ?_
  refine ⟨fun q1 => ?_, fun q1 => ?_⟩
  · have c2 := i_lt q1
    have t3 : (1 : Int32).toInt = 1 := by decide
    have t4 : (0 : Int32).toInt = 0 := by decide
    exact k _ (by omega)
  · have c5 := i_nlt q1
    have t6 : (1 : Int32).toInt = 1 := by decide
    refine ⟨fun q7 => ?_, fun q7 => ?_⟩
    · have c8 := i_lt q7
      have t9 : (8 : Int32).toInt = 8 := by decide
      have t10 : (0 : Int32).toInt = 0 := by decide
      exact k _ (by omega)
    · have c11 := i_nlt q7
      have t12 : (8 : Int32).toInt = 8 := by decide
      have t13 : (0 : Int32).toInt = 0 := by decide
      refine zUnlike (h) (by omega) ?_
      intro r1 g1a
      refine ⟨fun q14 => ?_, fun q14 => ?_⟩
      · have c15 := i_eq q14
        exact k _ (by omega)
      · have c16 := i_ne q14
        exact k _ (by omega)
theorem zSeatsOf_5 {S : Nat × (Nat → Int32)} {d : Nat} {x : mX} {I : rI0} {J : rJ0} {Q : Int64 → rI0 → rJ0 → Prop} (k : ∀ r, Q r I J) : ∀ (n : Nat) (l1 : Int32) (l2 : Int32) (l3 : Int64) (l5 : Int32), ((l2.toInt - l5.toInt).toNat = n) → (0 ≤ l5.toInt) → (l2.toInt ≤ 940) → wp S (d + 0) 82 5 [some (.ref 37), some (.int l1), some (.int l2), some (.long l3), none, some (.int l5)] [] (wv x I J) (rJ x Q) := by
  refine lpn ?_
  intro n ih
  intro l1 l2 l3 l5 hm e0 e1
  refine v82_37_5 ?_
  refine ⟨fun q1 => ?_, fun q1 => ?_⟩
  · have c2 := i_lt q1
    refine ⟨fun q3 => ?_, fun q3 => ?_⟩
    · have c4 := i_eq q3
      have t5 := i_and ((l1.toUInt32 >>> (l5.toUInt32 &&& Int32.toUInt32 31)).toInt32) (m := (1 : Int32)) 1 (by decide)
      have t6 : (0 : Int32).toInt = 0 := by decide
      have t7 : (1 : Int32).toInt = 1 := by decide
      have t8 : (l5 + (1 : Int32)).toInt = l5.toInt + 1 := i_add rfl t7 (by omega)
      exact ih _ (by omega) l1 l2 l3 (l5 + (1 : Int32)) rfl (by omega) (by omega)
    · have c9 := i_ne q3
      have t10 := i_and ((l1.toUInt32 >>> (l5.toUInt32 &&& Int32.toUInt32 31)).toInt32) (m := (1 : Int32)) 1 (by decide)
      have t11 : (0 : Int32).toInt = 0 := by decide
      refine ⟨?_, ?_⟩
      · exact i_in (e := (l5)) (A := l5.toInt) rfl (by omega)
      have t13 : (1 : Int32).toInt = 1 := by decide
      have t14 : (l5 + (1 : Int32)).toInt = l5.toInt + 1 := i_add rfl t13 (by omega)
      exact ih _ (by omega) l1 l2 (l3 ||| ((1 : Int64) <<< ((I 2 l5.toNatClampNeg).toInt64 &&& 63))) (l5 + (1 : Int32)) rfl (by omega) (by omega)
  · have c15 := i_nlt q1
    exact k _
theorem zSeatsOf {S : Nat × (Nat → Int32)} {d : Nat} {x : mX} {I : rI0} {J : rJ0} {p1 : Int32} {p2 : Int32} {Q : Int64 → rI0 → rJ0 → Prop} (hp : p2.toInt ≤ 940) (k : ∀ r, Q r I J) : wcJ S (d + 0) 82 [.ref 37, .int p1, .int p2] x I J Q := by
  refine c82_37 ?_
  have t1 : (0 : Int32).toInt = 0 := by decide
  exact zSeatsOf_5 k _ p1 p2 ((0 : Int64)) ((0 : Int32)) rfl (by omega) (by omega)
theorem zPriceOf_5 {S : Nat × (Nat → Int32)} {d : Nat} {x : mX} {I0 : rI0} {J0 : rJ0} {t : Int32} {I : rI0} {J : rJ0} {Q : Int32 → rI0 → rJ0 → Prop} (k : ∀ r, Q r I J) (h : CZ I0 J0 t I J) : ∀ (n : Nat) (l1 : Int32) (l2 : Int32) (l3 : Int32) (l4 : Int32), ((l2.toInt - l4.toInt).toNat = n) → (0 ≤ l4.toInt) → (l2.toInt ≤ 940) → wp S (d + 3) 83 5 [some (.ref 37), some (.int l1), some (.int l2), some (.int l3), some (.int l4)] [] (wv x I J) (rI x Q) := by
  refine lpn ?_
  intro n ih
  intro l1 l2 l3 l4 hm e0 e1
  have bh := h.bnd
  refine v83_37_5 ?_
  refine ⟨fun q1 => ?_, fun q1 => ?_⟩
  · have c2 := i_lt q1
    refine ⟨fun q3 => ?_, fun q3 => ?_⟩
    · have c4 := i_eq q3
      have t5 := i_and ((l1.toUInt32 >>> (l4.toUInt32 &&& Int32.toUInt32 31)).toInt32) (m := (1 : Int32)) 1 (by decide)
      have t6 : (0 : Int32).toInt = 0 := by decide
      have t7 : (1 : Int32).toInt = 1 := by decide
      have t8 : (l4 + (1 : Int32)).toInt = l4.toInt + 1 := i_add rfl t7 (by omega)
      exact ih _ (by omega) l1 l2 l3 (l4 + (1 : Int32)) rfl (by omega) (by omega)
    · have c9 := i_ne q3
      have t10 := i_and ((l1.toUInt32 >>> (l4.toUInt32 &&& Int32.toUInt32 31)).toInt32) (m := (1 : Int32)) 1 (by decide)
      have t11 : (0 : Int32).toInt = 0 := by decide
      refine ⟨?_, ?_⟩
      · exact i_in (e := (l4)) (A := l4.toInt) rfl (by omega)
      refine zPrice (h) ?_
      intro r1
      have t13 : (1 : Int32).toInt = 1 := by decide
      have t14 : (l4 + (1 : Int32)).toInt = l4.toInt + 1 := i_add rfl t13 (by omega)
      exact ih _ (by omega) l1 l2 (l3 + r1) (l4 + (1 : Int32)) rfl (by omega) (by omega)
  · have c15 := i_nlt q1
    exact k _
theorem zPriceOf {S : Nat × (Nat → Int32)} {d : Nat} {x : mX} {I0 : rI0} {J0 : rJ0} {t : Int32} {I : rI0} {J : rJ0} {p1 : Int32} {p2 : Int32} {Q : Int32 → rI0 → rJ0 → Prop} (h : CZ I0 J0 t I J) (hp : p2.toInt ≤ 940) (k : ∀ r, Q r I J) : wcI S (d + 3) 83 [.ref 37, .int p1, .int p2] x I J Q := by
  have bh := h.bnd
  refine c83_37 ?_
  have t1 : (0 : Int32).toInt = 0 := by decide
  exact zPriceOf_5 k h _ p1 p2 ((0 : Int32)) ((0 : Int32)) rfl (by omega) (by omega)
theorem zFact_4 {S : Nat × (Nat → Int32)} {d : Nat} {x : mX} {I : rI0} {J : rJ0} {Q : Int32 → rI0 → rJ0 → Prop} (k : ∀ r, Q r I J) : ∀ (n : Nat) (l1 : Int32) (l2 : Int32) (l3 : Int32), ((9 - l3.toInt).toNat = n) → (2 ≤ l3.toInt) → (l3.toInt ≤ 9) → wp S (d + 0) 90 4 [some (.ref 37), some (.int l1), some (.int l2), some (.int l3)] [] (wv x I J) (rI x Q) := by
  refine lpn ?_
  intro n ih
  intro l1 l2 l3 hm e0 e1
  refine v90_37_4 ?_
  refine ⟨fun q1 => ?_, fun q1 => ?_⟩
  · have c2 := i_lt q1
    exact k _
  · have c3 := i_nlt q1
    refine ⟨fun q4 => ?_, fun q4 => ?_⟩
    · have c5 := i_lt q4
      have t6 : (8 : Int32).toInt = 8 := by decide
      exact k _
    · have c7 := i_nlt q4
      have t8 : (8 : Int32).toInt = 8 := by decide
      have t9 : (1 : Int32).toInt = 1 := by decide
      have t10 : (l3 + (1 : Int32)).toInt = l3.toInt + 1 := i_add rfl t9 (by omega)
      exact ih _ (by omega) l1 (l2 * l3) (l3 + (1 : Int32)) rfl (by omega) (by omega)
theorem zFact {S : Nat × (Nat → Int32)} {d : Nat} {x : mX} {I : rI0} {J : rJ0} {p1 : Int32} {Q : Int32 → rI0 → rJ0 → Prop} (k : ∀ r, Q r I J) : wcI S (d + 0) 90 [.ref 37, .int p1] x I J Q := by
  refine c90_37 ?_
  have t1 : (2 : Int32).toInt = 2 := by decide
  exact zFact_4 k _ p1 ((1 : Int32)) ((2 : Int32)) rfl (by omega) (by omega)
theorem zGcd_8 {S : Nat × (Nat → Int32)} {d : Nat} {x : mX} {I : rI0} {J : rJ0} {Q : Int32 → rI0 → rJ0 → Prop} (k : ∀ r, Q r I J) : ∀ (n : Nat) (l1 : Int32) (l2 : Int32) (l3 : Int32) (l4 : Int32) (l5 : Int32), ((64 - l5.toInt).toNat = n) → (0 ≤ l5.toInt) → (l5.toInt ≤ 64) → wp S (d + 0) 91 8 [some (.ref 37), some (.int l1), some (.int l2), some (.int l3), some (.int l4), some (.int l5), none] [] (wv x I J) (rI x Q) := by
  refine lpn ?_
  intro n ih
  intro l1 l2 l3 l4 l5 hm e0 e1
  refine v91_37_8 ?_
  refine ⟨fun q1 => ?_, fun q1 => ?_⟩
  · have c2 := i_lt q1
    have t3 : (64 : Int32).toInt = 64 := by decide
    refine ⟨fun q4 => ?_, fun q4 => ?_⟩
    · have c5 := i_lt q4
      have t6 : (0 : Int32).toInt = 0 := by decide
      refine ⟨?_, ?_⟩
      · exact i_n0 (e := (l4)) (A := l4.toInt) rfl (by omega)
      have t7 : (1 : Int32).toInt = 1 := by decide
      have t8 : (l5 + (1 : Int32)).toInt = l5.toInt + 1 := i_add rfl t7 (by omega)
      exact ih _ (by omega) l1 l2 l4 (l3 - l3 / l4 * l4) (l5 + (1 : Int32)) rfl (by omega) (by omega)
    · have c9 := i_nlt q4
      have t10 : (0 : Int32).toInt = 0 := by decide
      exact k _
  · have c11 := i_nlt q1
    have t12 : (64 : Int32).toInt = 64 := by decide
    exact k _
theorem zGcd {S : Nat × (Nat → Int32)} {d : Nat} {x : mX} {I : rI0} {J : rJ0} {p1 : Int32} {p2 : Int32} {Q : Int32 → rI0 → rJ0 → Prop} (k : ∀ r, Q r I J) : wcI S (d + 0) 91 [.ref 37, .int p1, .int p2] x I J Q := by
  refine c91_37 ?_
  have t1 : (0 : Int32).toInt = 0 := by decide
  exact zGcd_8 k _ p1 p2 p1 p2 ((0 : Int32)) rfl (by omega) (by omega)
theorem zPart_2 {S : Nat × (Nat → Int32)} {d : Nat} {x : mX} {I : rI0} {J : rJ0} {Q : Int32 → rI0 → rJ0 → Prop} (k : ∀ r, (r.toInt = 0 ∨ r.toInt = 1) → Q r I J) : ∀ (n : Nat) (l1 : Int32) (l2 : Int32) (l3 : Int32), ((l2.toInt - l3.toInt).toNat = n) → (0 ≤ l3.toInt) → (l2.toInt ≤ 256) → wp S (d + 0) 87 2 [some (.ref 37), some (.int l1), some (.int l2), some (.int l3)] [] (wv x I J) (rI x Q) := by
  refine lpn ?_
  intro n ih
  intro l1 l2 l3 hm e0 e1
  refine v87_37_2 ?_
  refine ⟨fun q1 => ?_, fun q1 => ?_⟩
  · have c2 := i_lt q1
    refine ⟨?_, ?_⟩
    · exact i_in (e := (l3)) (A := l3.toInt) rfl (by omega)
    refine ⟨fun q4 => ?_, fun q4 => ?_⟩
    · have t6 : (1 : Int32).toInt = 1 := by decide
      exact k _ (by omega)
    · have t8 : (1 : Int32).toInt = 1 := by decide
      have t9 : (l3 + (1 : Int32)).toInt = l3.toInt + 1 := i_add rfl t8 (by omega)
      exact ih _ (by omega) l1 l2 (l3 + (1 : Int32)) rfl (by omega) (by omega)
  · have c10 := i_nlt q1
    have t11 : (0 : Int32).toInt = 0 := by decide
    exact k _ (by omega)
theorem zPart {S : Nat × (Nat → Int32)} {d : Nat} {x : mX} {I : rI0} {J : rJ0} {p1 : Int32} {p2 : Int32} {Q : Int32 → rI0 → rJ0 → Prop} (hp : p2.toInt ≤ 256) (k : ∀ r, (r.toInt = 0 ∨ r.toInt = 1) → Q r I J) : wcI S (d + 0) 87 [.ref 37, .int p1, .int p2] x I J Q := by
  refine c87_37 ?_
  have t1 : (0 : Int32).toInt = 0 := by decide
  exact zPart_2 k _ p1 p2 ((0 : Int32)) rfl (by omega) (by omega)
theorem zCheap_89 {S : Nat × (Nat → Int32)} {d : Nat} {x : mX} {I0 : rI0} {J0 : rJ0} {t : Int32} {Q : Int32 → rI0 → rJ0 → Prop} {N19 : Nat} (k : ∀ r I J, (CZ I0 J0 t I J) → Q r I J) (K19 : ∀ (l1 : Int32) (l2 : Int32) (l3 : Int32) (l4 : Int32) (l5 : Int32) (I : rI0) (J : rJ0), (CZ I0 J0 t I J) → ((256 - l5.toInt).toNat < N19) → (1 ≤ l1.toInt) → (l1.toInt ≤ 8) → (0 ≤ l5.toInt) → (l5.toInt ≤ 256) → wp S (d + 24) 84 19 [some (.ref 37), some (.int l1), some (.int l2), some (.int l3), some (.int l4), some (.int l5), none, none, none, none] [] (wv x I J) (rI x Q)) : ∀ (l1 : Int32) (l2 : Int32) (l3 : Int32) (l4 : Int32) (l5 : Int32) (l6 : Int64) (l8 : Int32) (s0 : Int32) (I : rI0) (J : rJ0), (CZ I0 J0 t I J) → (1 ≤ l1.toInt) → (l1.toInt ≤ 8) → (0 ≤ l5.toInt) → (l5.toInt < 256) → ((256 - l5.toInt).toNat ≤ N19) → wp S (d + 24) 84 89 [some (.ref 37), some (.int l1), some (.int l2), some (.int l3), some (.int l4), some (.int l5), some (.long l6), none, some (.int l8), none] [.int s0] (wv x I J) (rI x Q) := by
  intro l1 l2 l3 l4 l5 l6 l8 s0 I J h e0 e1 e2 e3 a0
  have bh := h.bnd
  refine v84_37_89 ?_
  refine ⟨fun q1 => ?_, fun q1 => ?_⟩
  · have c2 := i_eq q1
    have t3 : (0 : Int32).toInt = 0 := by decide
    have t4 : (1 : Int32).toInt = 1 := by decide
    have t5 : (l5 + (1 : Int32)).toInt = l5.toInt + 1 := i_add rfl t4 (by omega)
    exact K19 l1 l2 l3 l4 (l5 + (1 : Int32)) I J (h) (by omega) (by omega) (by omega) (by omega) (by omega)
  · have c6 := i_ne q1
    have t7 : (0 : Int32).toInt = 0 := by decide
    refine zHOf (h) ?_
    intro r1 I1 J1 h1 g1a
    have bh1 := h1.bnd
    refine ⟨fun q8 => ?_, fun q8 => ?_⟩
    · have c9 := i_lt q8
      have t10 : (1 : Int32).toInt = 1 := by decide
      have t11 : (l5 + (1 : Int32)).toInt = l5.toInt + 1 := i_add rfl t10 (by omega)
      exact K19 l1 l2 l3 l4 (l5 + (1 : Int32)) I1 J1 (h1) (by omega) (by omega) (by omega) (by omega) (by omega)
    · have c12 := i_nlt q8
      have t13 : (1 : Int32).toInt = 1 := by decide
      have t14 : (l5 + (1 : Int32)).toInt = l5.toInt + 1 := i_add rfl t13 (by omega)
      exact K19 l1 l2 l5 l8 (l5 + (1 : Int32)) I1 J1 (h1) (by omega) (by omega) (by omega) (by omega) (by omega)
theorem zCheap_19 {S : Nat × (Nat → Int32)} {d : Nat} {x : mX} {I0 : rI0} {J0 : rJ0} {t : Int32} {Q : Int32 → rI0 → rJ0 → Prop} (k : ∀ r I J, (CZ I0 J0 t I J) → Q r I J) : ∀ (n : Nat) (l1 : Int32) (l2 : Int32) (l3 : Int32) (l4 : Int32) (l5 : Int32) (I : rI0) (J : rJ0), ((256 - l5.toInt).toNat = n) → (CZ I0 J0 t I J) → (1 ≤ l1.toInt) → (l1.toInt ≤ 8) → (0 ≤ l5.toInt) → (l5.toInt ≤ 256) → wp S (d + 24) 84 19 [some (.ref 37), some (.int l1), some (.int l2), some (.int l3), some (.int l4), some (.int l5), none, none, none, none] [] (wv x I J) (rI x Q) := by
  refine lpn ?_
  intro n ih
  intro l1 l2 l3 l4 l5 I J hm h e0 e1 e2 e3
  have bh := h.bnd
  refine v84_37_19 ?_
  refine ⟨fun q1 => ?_, fun q1 => ?_⟩
  · have c2 := i_lt q1
    try have t3 := i_shl (n := (l1)) (by omega)
    try have zt3 := i_shl7 (n := (l1)) (by omega)
    try have yt3 := i_rng ((1 : Int32) <<< (l1 &&& 31))
    refine zSeatsOf (by omega) ?_
    intro r1
    refine zPriceOf (h) (by omega) ?_
    intro r2
    refine ⟨fun q4 => ?_, fun q4 => ?_⟩
    · have c5 := i_eq q4
      have t6 : (-1 : Int32).toInt = -1 := by decide
      exact zCheap_89 k (fun l1_ l2_ l3_ l4_ l5_ I_ J_ h_ hlt f0_ f1_ f2_ f3_ => ih _ hlt l1_ l2_ l3_ l4_ l5_ I_ J_ rfl h_ f0_ f1_ f2_ f3_) l1 l2 l3 l4 l5 ((J 3 5) ||| r1) r2 ((1 : Int32)) I J (h) (by omega) (by omega) (by omega) (by omega) (by omega)
    · have c7 := i_ne q4
      have t8 : (-1 : Int32).toInt = -1 := by decide
      refine ⟨fun q9 => ?_, fun q9 => ?_⟩
      · have c10 := i_lt q9
        exact zCheap_89 k (fun l1_ l2_ l3_ l4_ l5_ I_ J_ h_ hlt f0_ f1_ f2_ f3_ => ih _ hlt l1_ l2_ l3_ l4_ l5_ I_ J_ rfl h_ f0_ f1_ f2_ f3_) l1 l2 l3 l4 l5 ((J 3 5) ||| r1) r2 ((1 : Int32)) I J (h) (by omega) (by omega) (by omega) (by omega) (by omega)
      · have c11 := i_nlt q9
        refine ⟨fun q12 => ?_, fun q12 => ?_⟩
        · have c13 := i_eq q12
          refine zBc  ?_
          intro r3
          refine zBc  ?_
          intro r4
          refine ⟨fun q14 => ?_, fun q14 => ?_⟩
          · have c15 := i_lt q14
            exact zCheap_89 k (fun l1_ l2_ l3_ l4_ l5_ I_ J_ h_ hlt f0_ f1_ f2_ f3_ => ih _ hlt l1_ l2_ l3_ l4_ l5_ I_ J_ rfl h_ f0_ f1_ f2_ f3_) l1 l2 l3 l4 l5 ((J 3 5) ||| r1) r2 ((1 : Int32)) I J (h) (by omega) (by omega) (by omega) (by omega) (by omega)
          · have c16 := i_nlt q14
            exact zCheap_89 k (fun l1_ l2_ l3_ l4_ l5_ I_ J_ h_ hlt f0_ f1_ f2_ f3_ => ih _ hlt l1_ l2_ l3_ l4_ l5_ I_ J_ rfl h_ f0_ f1_ f2_ f3_) l1 l2 l3 l4 l5 ((J 3 5) ||| r1) r2 ((0 : Int32)) I J (h) (by omega) (by omega) (by omega) (by omega) (by omega)
        · have c17 := i_ne q12
          exact zCheap_89 k (fun l1_ l2_ l3_ l4_ l5_ I_ J_ h_ hlt f0_ f1_ f2_ f3_ => ih _ hlt l1_ l2_ l3_ l4_ l5_ I_ J_ rfl h_ f0_ f1_ f2_ f3_) l1 l2 l3 l4 l5 ((J 3 5) ||| r1) r2 ((0 : Int32)) I J (h) (by omega) (by omega) (by omega) (by omega) (by omega)
  · have c18 := i_nlt q1
    try have t19 := i_shl (n := (l1)) (by omega)
    try have zt19 := i_shl7 (n := (l1)) (by omega)
    try have yt19 := i_rng ((1 : Int32) <<< (l1 &&& 31))
    refine ⟨fun q20 => ?_, fun q20 => ?_⟩
    · have c21 := i_eq q20
      have t22 : (-1 : Int32).toInt = -1 := by decide
      exact k _ _ _ (h)
    · have c23 := i_ne q20
      have t24 : (-1 : Int32).toInt = -1 := by decide
      exact k _ _ _ (CZ.si (n := 37) (k := 8) (h) (by omega))
theorem zCheap {S : Nat × (Nat → Int32)} {d : Nat} {x : mX} {I0 : rI0} {J0 : rJ0} {t : Int32} {I : rI0} {J : rJ0} {p1 : Int32} {Q : Int32 → rI0 → rJ0 → Prop} (h : CZ I0 J0 t I J) (hp : 1 ≤ p1.toInt ∧ p1.toInt ≤ 8) (k : ∀ r I J, (CZ I0 J0 t I J) → Q r I J) : wcI S (d + 24) 84 [.ref 37, .int p1] x I J Q := by
  have bh := h.bnd
  refine c84_37 ?_
  have t1 : (0 : Int32).toInt = 0 := by decide
  exact zCheap_19 k _ p1 (I 4 2) ((-1 : Int32)) ((-1 : Int32)) ((0 : Int32)) I J rfl (h) (by omega) (by omega) (by omega) (by omega)
theorem zHush_46 {S : Nat × (Nat → Int32)} {d : Nat} {x : mX} {I0 : rI0} {J0 : rJ0} {t : Int32} {Q : Int32 → rI0 → rJ0 → Prop} {N16 : Nat} (k : ∀ r I J, (CZ I0 J0 t I J) → Q r I J) (K16 : ∀ (l1 : Int32) (l2 : Int32) (l3 : Int32) (l4 : Int32) (I : rI0) (J : rJ0), (CZ I0 J0 t I J) → ((256 - l4.toInt).toNat < N16) → (1 ≤ l1.toInt) → (l1.toInt ≤ 8) → (0 ≤ l4.toInt) → (l4.toInt ≤ 256) → wp S (d + 24) 85 16 [some (.ref 37), some (.int l1), some (.int l2), some (.int l3), some (.int l4), none, none, none] [] (wv x I J) (rI x Q)) : ∀ (l1 : Int32) (l2 : Int32) (l3 : Int32) (l4 : Int32) (s0 : Int32) (I : rI0) (J : rJ0), (CZ I0 J0 t I J) → (1 ≤ l1.toInt) → (l1.toInt ≤ 8) → (0 ≤ l4.toInt) → (l4.toInt < 256) → ((256 - l4.toInt).toNat ≤ N16) → wp S (d + 24) 85 46 [some (.ref 37), some (.int l1), some (.int l2), some (.int l3), some (.int l4), none, none, none] [.int s0] (wv x I J) (rI x Q) := by
  intro l1 l2 l3 l4 s0 I J h e0 e1 e2 e3 a0
  have bh := h.bnd
  refine v85_37_46 ?_
  refine zSeatsOf (by omega) ?_
  intro r1
  refine ⟨fun q1 => ?_, fun q1 => ?_⟩
  · have c2 := i_eq q1
    have t3 : (0 : Int32).toInt = 0 := by decide
    have t4 : (1 : Int32).toInt = 1 := by decide
    have t5 : (l4 + (1 : Int32)).toInt = l4.toInt + 1 := i_add rfl t4 (by omega)
    exact K16 l1 l2 l3 (l4 + (1 : Int32)) I J (h) (by omega) (by omega) (by omega) (by omega) (by omega)
  · have c6 := i_ne q1
    have t7 : (0 : Int32).toInt = 0 := by decide
    refine zHOf (h) ?_
    intro r2 I2 J2 h2 g2a
    have bh2 := h2.bnd
    refine ⟨fun q8 => ?_, fun q8 => ?_⟩
    · have c9 := i_lt q8
      have t10 : (1 : Int32).toInt = 1 := by decide
      have t11 : (l4 + (1 : Int32)).toInt = l4.toInt + 1 := i_add rfl t10 (by omega)
      exact K16 l1 l2 l4 (l4 + (1 : Int32)) I2 J2 (h2) (by omega) (by omega) (by omega) (by omega) (by omega)
    · have c12 := i_nlt q8
      have t13 : (1 : Int32).toInt = 1 := by decide
      have t14 : (l4 + (1 : Int32)).toInt = l4.toInt + 1 := i_add rfl t13 (by omega)
      exact K16 l1 l2 l3 (l4 + (1 : Int32)) I2 J2 (h2) (by omega) (by omega) (by omega) (by omega) (by omega)
theorem zHush_16 {S : Nat × (Nat → Int32)} {d : Nat} {x : mX} {I0 : rI0} {J0 : rJ0} {t : Int32} {Q : Int32 → rI0 → rJ0 → Prop} (k : ∀ r I J, (CZ I0 J0 t I J) → Q r I J) : ∀ (n : Nat) (l1 : Int32) (l2 : Int32) (l3 : Int32) (l4 : Int32) (I : rI0) (J : rJ0), ((256 - l4.toInt).toNat = n) → (CZ I0 J0 t I J) → (1 ≤ l1.toInt) → (l1.toInt ≤ 8) → (0 ≤ l4.toInt) → (l4.toInt ≤ 256) → wp S (d + 24) 85 16 [some (.ref 37), some (.int l1), some (.int l2), some (.int l3), some (.int l4), none, none, none] [] (wv x I J) (rI x Q) := by
  refine lpn ?_
  intro n ih
  intro l1 l2 l3 l4 I J hm h e0 e1 e2 e3
  have bh := h.bnd
  refine v85_37_16 ?_
  refine ⟨fun q1 => ?_, fun q1 => ?_⟩
  · have c2 := i_lt q1
    try have t3 := i_shl (n := (l1)) (by omega)
    try have zt3 := i_shl7 (n := (l1)) (by omega)
    try have yt3 := i_rng ((1 : Int32) <<< (l1 &&& 31))
    refine ⟨fun q4 => ?_, fun q4 => ?_⟩
    · have c5 := i_eq q4
      have t6 : (-1 : Int32).toInt = -1 := by decide
      exact zHush_46 k (fun l1_ l2_ l3_ l4_ I_ J_ h_ hlt f0_ f1_ f2_ f3_ => ih _ hlt l1_ l2_ l3_ l4_ I_ J_ rfl h_ f0_ f1_ f2_ f3_) l1 l2 l3 l4 ((1 : Int32)) I J (h) (by omega) (by omega) (by omega) (by omega) (by omega)
    · have c7 := i_ne q4
      have t8 : (-1 : Int32).toInt = -1 := by decide
      refine zBc  ?_
      intro r1
      refine zBc  ?_
      intro r2
      refine ⟨fun q9 => ?_, fun q9 => ?_⟩
      · have c10 := i_lt q9
        exact zHush_46 k (fun l1_ l2_ l3_ l4_ I_ J_ h_ hlt f0_ f1_ f2_ f3_ => ih _ hlt l1_ l2_ l3_ l4_ I_ J_ rfl h_ f0_ f1_ f2_ f3_) l1 l2 l3 l4 ((1 : Int32)) I J (h) (by omega) (by omega) (by omega) (by omega) (by omega)
      · have c11 := i_nlt q9
        exact zHush_46 k (fun l1_ l2_ l3_ l4_ I_ J_ h_ hlt f0_ f1_ f2_ f3_ => ih _ hlt l1_ l2_ l3_ l4_ I_ J_ rfl h_ f0_ f1_ f2_ f3_) l1 l2 l3 l4 ((0 : Int32)) I J (h) (by omega) (by omega) (by omega) (by omega) (by omega)
  · have c12 := i_nlt q1
    try have t13 := i_shl (n := (l1)) (by omega)
    try have zt13 := i_shl7 (n := (l1)) (by omega)
    try have yt13 := i_rng ((1 : Int32) <<< (l1 &&& 31))
    exact k _ _ _ (h)
theorem zHush {S : Nat × (Nat → Int32)} {d : Nat} {x : mX} {I0 : rI0} {J0 : rJ0} {t : Int32} {I : rI0} {J : rJ0} {p1 : Int32} {Q : Int32 → rI0 → rJ0 → Prop} (h : CZ I0 J0 t I J) (hp : 1 ≤ p1.toInt ∧ p1.toInt ≤ 8) (k : ∀ r I J, (CZ I0 J0 t I J) → Q r I J) : wcI S (d + 24) 85 [.ref 37, .int p1] x I J Q := by
  have bh := h.bnd
  refine c85_37 ?_
  have t1 : (0 : Int32).toInt = 0 := by decide
  exact zHush_16 k _ p1 (I 4 2) ((-1 : Int32)) ((0 : Int32)) I J rfl (h) (by omega) (by omega) (by omega) (by omega)
theorem zCoal_16 {S : Nat × (Nat → Int32)} {d : Nat} {x : mX} {I0 : rI0} {J0 : rJ0} {t : Int32} {Q : Int32 → rI0 → rJ0 → Prop} (k : ∀ r I J, (CZ I0 J0 t I J) → (r.toInt ≤ 256) → Q r I J) : ∀ (n : Nat) (l1 : Int32) (l2 : Int32) (l3 : Int32) (l4 : Int32) (I : rI0) (J : rJ0), ((256 - l4.toInt).toNat = n) → (CZ I0 J0 t I J) → (1 ≤ l1.toInt) → (l1.toInt ≤ 8) → (0 ≤ l4.toInt) → (l4.toInt ≤ 256) → (0 ≤ l3.toInt) → (l3.toInt ≤ l4.toInt) → wp S (d + 24) 86 16 [some (.ref 37), some (.int l1), some (.int l2), some (.int l3), some (.int l4), none, none] [] (wv x I J) (rI x Q) := by
  refine lpn ?_
  intro n ih
  intro l1 l2 l3 l4 I J hm h e0 e1 e2 e3 e4 e5
  have bh := h.bnd
  refine v86_37_16 ?_
  refine ⟨fun q1 => ?_, fun q1 => ?_⟩
  · have c2 := i_lt q1
    try have t3 := i_shl (n := (l1)) (by omega)
    try have zt3 := i_shl7 (n := (l1)) (by omega)
    try have yt3 := i_rng ((1 : Int32) <<< (l1 &&& 31))
    refine zPart (by omega) ?_
    intro r1 g1a
    refine ⟨fun q4 => ?_, fun q4 => ?_⟩
    · have c5 := i_eq q4
      have t6 : (0 : Int32).toInt = 0 := by decide
      refine zSeatsOf (by omega) ?_
      intro r2
      refine zHOf (h) ?_
      intro r3 I3 J3 h3 g3a
      have bh3 := h3.bnd
      refine ⟨fun q7 => ?_, fun q7 => ?_⟩
      · have c8 := i_lt q7
        have t9 : (1 : Int32).toInt = 1 := by decide
        have t10 : (l4 + (1 : Int32)).toInt = l4.toInt + 1 := i_add rfl t9 (by omega)
        exact ih _ (by omega) l1 l2 l3 (l4 + (1 : Int32)) I3 J3 rfl (h3) (by omega) (by omega) (by omega) (by omega) (by omega) (by omega)
      · have c11 := i_nlt q7
        refine ⟨?_, ?_⟩
        · exact i_in (e := (l3)) (A := l3.toInt) rfl (by omega)
        have t13 : (1 : Int32).toInt = 1 := by decide
        have t14 : (l3 + (1 : Int32)).toInt = l3.toInt + 1 := i_add rfl t13 (by omega)
        have t15 : (l4 + (1 : Int32)).toInt = l4.toInt + 1 := i_add rfl t13 (by omega)
        exact ih _ (by omega) l1 l2 (l3 + (1 : Int32)) (l4 + (1 : Int32)) (mSet I3 39 l3.toNatClampNeg l4) J3 rfl (CZ.si (n := 39) (k := l3.toNatClampNeg) (h3) (by omega)) (by omega) (by omega) (by omega) (by omega) (by omega) (by omega)
    · have c16 := i_ne q4
      have t17 : (0 : Int32).toInt = 0 := by decide
      have t18 : (1 : Int32).toInt = 1 := by decide
      have t19 : (l4 + (1 : Int32)).toInt = l4.toInt + 1 := i_add rfl t18 (by omega)
      exact ih _ (by omega) l1 l2 l3 (l4 + (1 : Int32)) I J rfl (h) (by omega) (by omega) (by omega) (by omega) (by omega) (by omega)
  · have c20 := i_nlt q1
    try have t21 := i_shl (n := (l1)) (by omega)
    try have zt21 := i_shl7 (n := (l1)) (by omega)
    try have yt21 := i_rng ((1 : Int32) <<< (l1 &&& 31))
    exact k _ _ _ (h) (by omega)
theorem zCoal {S : Nat × (Nat → Int32)} {d : Nat} {x : mX} {I0 : rI0} {J0 : rJ0} {t : Int32} {I : rI0} {J : rJ0} {p1 : Int32} {Q : Int32 → rI0 → rJ0 → Prop} (h : CZ I0 J0 t I J) (hp : 1 ≤ p1.toInt ∧ p1.toInt ≤ 8) (k : ∀ r I J, (CZ I0 J0 t I J) → (r.toInt ≤ 256) → Q r I J) : wcI S (d + 24) 86 [.ref 37, .int p1] x I J Q := by
  have bh := h.bnd
  refine c86_37 ?_
  have t1 : (0 : Int32).toInt = 0 := by decide
  exact zCoal_16 k _ p1 (I 4 2) ((0 : Int32)) ((0 : Int32)) I J rfl (h) (by omega) (by omega) (by omega) (by omega) (by omega) (by omega)
end CC4
end
