section CC3
theorem tReadSeat {S : Nat × (Nat → Int32)} {d : Nat} {x : mX} {I0 : rI0} {J0 : rJ0} {t : Int32} {I : rI0} {J : rJ0} {p1 : Int32} {Q : Int32 → rI0 → rJ0 → Prop} (h : TQ I0 J0 t I J) (hp : 0 ≤ p1.toInt ∧ p1.toInt < 30) (k : ∀ r I J, (TQ I0 J0 t I J) → (r.toInt = 0 ∨ r.toInt = 1) → Q r I J) : wcI S (d + 2) 4 [.ref 30, .int p1] x I J Q := by
  have bh := h.bnd
  refine c4_30 ?_
  refine tTake (h) ?_
  intro r1 I1 J1 h1 g1a
  have bh1 := h1.bnd
  refine ⟨fun q1 => ?_, fun q1 => ?_⟩
  · have c2 := i_eq q1
    have t3 : (0 : Int32).toInt = 0 := by decide
    exact k _ _ _ (h1) (by omega)
  · have c4 := i_ne q1
    have t5 : (0 : Int32).toInt = 0 := by decide
    refine tWithin (h1) ?_
    intro r2 I2 J2 h2 g2a
    have bh2 := h2.bnd
    refine ⟨fun q6 => ?_, fun q6 => ?_⟩
    · have c7 := i_eq q6
      exact k _ _ _ (h2) (by omega)
    · have c8 := i_ne q6
      refine tSeat  ?_
      intro r3
      refine ⟨fun q9 => ?_, fun q9 => ?_⟩
      · have c10 := i_eq q9
        refine tFail (h2) ?_
        intro r4 I4 J4 h4 g4a
        have bh4 := h4.bnd
        refine ⟨i_b01 (by omega), ?_⟩
        exact k _ _ _ (h4) (by omega)
      · have c11 := i_ne q9
        refine ⟨?_, ?_⟩
        · exact i_in (e := (p1)) (A := p1.toInt) rfl (by omega)
        refine tRead (TQ.si (n := 26) (k := p1.toNatClampNeg) (h2) (by omega) (by decide)) ?_
        intro I5 J5 h5
        have bh5 := h5.bnd
        have t13 : (1 : Int32).toInt = 1 := by decide
        exact k _ _ _ (h5) (by omega)
theorem tReadCue_71 {S : Nat × (Nat → Int32)} {d : Nat} {x : mX} {I0 : rI0} {J0 : rJ0} {t : Int32} {Q : Int32 → rI0 → rJ0 → Prop} (k : ∀ r I J, (TQ I0 J0 t I J) → (r.toInt = 0 ∨ r.toInt = 1) → Q r I J) : ∀ (l1 : Int32) (s0 : Int32) (I : rI0) (J : rJ0), (TQ I0 J0 t I J) → (0 ≤ l1.toInt) → (l1.toInt < 30) → wp S (d + 9) 3 71 [some (.ref 30), some (.int l1), none, none] [.int s0] (wv x I J) (rI x Q) := by
  intro l1 s0 I J h e0 e1
  have bh := h.bnd
  refine v3_30_71 ?_
  refine tTake (h) ?_
  intro r1 I1 J1 h1 g1a
  have bh1 := h1.bnd
  refine ⟨fun q1 => ?_, fun q1 => ?_⟩
  · have c2 := i_eq q1
    have t3 : (0 : Int32).toInt = 0 := by decide
    exact k _ _ _ (h1) (by omega)
  · have c4 := i_ne q1
    have t5 : (0 : Int32).toInt = 0 := by decide
    refine ⟨?_, ?_⟩
    · exact i_in (e := (l1)) (A := l1.toInt) rfl (by omega)
    refine tDeed (TQ.si (n := 24) (k := l1.toNatClampNeg) (h1) (by omega) (by decide)) ?_
    intro r2
    refine ⟨fun q7 => ?_, fun q7 => ?_⟩
    · have c8 := i_eq q7
      have t9 : (-1 : Int32).toInt = -1 := by decide
      refine tFail (TQ.si (n := 24) (k := l1.toNatClampNeg) (h1) (by omega) (by decide)) ?_
      intro r3 I3 J3 h3 g3a
      have bh3 := h3.bnd
      refine ⟨i_b01 (by omega), ?_⟩
      exact k _ _ _ (h3) (by omega)
    · have c10 := i_ne q7
      have t11 : (-1 : Int32).toInt = -1 := by decide
      refine ⟨?_, ?_⟩
      · exact i_in (e := (l1)) (A := l1.toInt) rfl (by omega)
      refine ⟨?_, ?_⟩
      · exact i_in (e := (l1)) (A := l1.toInt) rfl (by omega)
      refine tRead (TQ.si (n := 26) (k := l1.toNatClampNeg) (TQ.si (n := 25) (k := l1.toNatClampNeg) (TQ.si (n := 24) (k := l1.toNatClampNeg) (h1) (by omega) (by decide)) (by omega) (by decide)) (by omega) (by decide)) ?_
      intro I4 J4 h4
      have bh4 := h4.bnd
      refine ⟨fun q14 => ?_, fun q14 => ?_⟩
      · have c15 := i_eq q14
        have t16 : (3 : Int32).toInt = 3 := by decide
        have t17 : (1 : Int32).toInt = 1 := by decide
        have t18 : (l1 + (1 : Int32)).toInt = l1.toInt + 1 := i_add rfl t17 (by omega)
        refine tPass (TQ.s15 (h4) (v := (l1 + (1 : Int32))) (by omega)) ?_
        intro r5 I5 J5 h5 g5a
        have bh5 := h5.bnd
        refine ⟨i_b01 (by omega), ?_⟩
        exact k _ _ _ (h5) (by omega)
      · have c19 := i_ne q14
        have t20 : (3 : Int32).toInt = 3 := by decide
        refine tReadSeat (h4) (by omega) ?_
        intro r6 I6 J6 h6 g6a
        have bh6 := h6.bnd
        refine ⟨fun q21 => ?_, fun q21 => ?_⟩
        · have c22 := i_eq q21
          exact k _ _ _ (h6) (by omega)
        · have c23 := i_ne q21
          have t24 : (1 : Int32).toInt = 1 := by decide
          have t25 : (l1 + (1 : Int32)).toInt = l1.toInt + 1 := i_add rfl t24 (by omega)
          refine tPass (TQ.s15 (h6) (v := (l1 + (1 : Int32))) (by omega)) ?_
          intro r7 I7 J7 h7 g7a
          have bh7 := h7.bnd
          refine ⟨i_b01 (by omega), ?_⟩
          exact k _ _ _ (h7) (by omega)
theorem tReadCue {S : Nat × (Nat → Int32)} {d : Nat} {x : mX} {I0 : rI0} {J0 : rJ0} {t : Int32} {I : rI0} {J : rJ0} {Q : Int32 → rI0 → rJ0 → Prop} (h : TQ I0 J0 t I J) (k : ∀ r I J, (TQ I0 J0 t I J) → (r.toInt = 0 ∨ r.toInt = 1) → Q r I J) : wcI S (d + 9) 3 [.ref 30] x I J Q := by
  have bh := h.bnd
  refine c3_30 ?_
  refine tAt (h) ?_
  intro r1
  refine ⟨fun q1 => ?_, fun q1 => ?_⟩
  · have c2 := i_eq q1
    have t3 : (-1 : Int32).toInt = -1 := by decide
    refine tFail (h) ?_
    intro r2 I2 J2 h2 g2a
    have bh2 := h2.bnd
    refine ⟨i_b01 (by omega), ?_⟩
    exact k _ _ _ (h2) (by omega)
  · have c4 := i_ne q1
    have t5 : (-1 : Int32).toInt = -1 := by decide
    refine ⟨fun q6 => ?_, fun q6 => ?_⟩
    · have c7 := i_lt q6
      have t8 : (30 : Int32).toInt = 30 := by decide
      refine tRead (h) ?_
      intro I3 J3 h3
      have bh3 := h3.bnd
      refine ⟨fun q9 => ?_, fun q9 => ?_⟩
      · have c10 := i_lt q9
        have t11 : (0 : Int32).toInt = 0 := by decide
        have t12 : (1 : Int32).toInt = 1 := by decide
        have t13 : ((I 15 4) - (1 : Int32)).toInt = (I 15 4).toInt - 1 := i_sub rfl t12 (by omega)
        refine ⟨?_, ?_⟩
        · exact i_in (e := ((I 15 4) - (1 : Int32))) (A := ((I 15 4).toInt - 1)) t13 (by omega)
        exact tReadCue_71 k (I 15 4) (I3 24 (((I 15 4) - (1 : Int32)).toNatClampNeg)) I3 J3 (h3) (by omega) (by omega)
      · have c15 := i_nlt q9
        have t16 : (0 : Int32).toInt = 0 := by decide
        exact tReadCue_71 k (I 15 4) ((0 : Int32)) I3 J3 (h3) (by omega) (by omega)
    · have c17 := i_nlt q6
      have t18 : (30 : Int32).toInt = 30 := by decide
      refine tFail (h) ?_
      intro r4 I4 J4 h4 g4a
      have bh4 := h4.bnd
      refine ⟨i_b01 (by omega), ?_⟩
      exact k _ _ _ (h4) (by omega)
theorem tReadCues_10 {S : Nat × (Nat → Int32)} {d : Nat} {x : mX} {I0 : rI0} {J0 : rJ0} {t : Int32} {Q : rI0 → rJ0 → Prop} (k : ∀ I J, (TQ I0 J0 t I J) → Q I J) : ∀ (n : Nat) (l1 : Int32) (I : rI0) (J : rJ0), ((400 - l1.toInt).toNat = n) → (TQ I0 J0 t I J) → (0 ≤ l1.toInt) → (l1.toInt ≤ 400) → wp S (d + 10) 2 10 [some (.ref 30), some (.int l1)] [] (wv x I J) (rV x Q) := by
  refine lpn ?_
  intro n ih
  intro l1 I J hm h e0 e1
  have bh := h.bnd
  refine v2_30_10 ?_
  refine ⟨fun q1 => ?_, fun q1 => ?_⟩
  · have c2 := i_lt q1
    have t3 : (400 : Int32).toInt = 400 := by decide
    refine ⟨fun q4 => ?_, fun q4 => ?_⟩
    · have c5 := i_eq q4
      have t6 : (1 : Int32).toInt = 1 := by decide
      exact k _ _ (h)
    · have c7 := i_ne q4
      have t8 : (1 : Int32).toInt = 1 := by decide
      refine tReadCue (h) ?_
      intro r1 I1 J1 h1 g1a
      have bh1 := h1.bnd
      refine ⟨fun q9 => ?_, fun q9 => ?_⟩
      · have c10 := i_eq q9
        have t11 : (0 : Int32).toInt = 0 := by decide
        exact k _ _ (h1)
      · have c12 := i_ne q9
        have t13 : (0 : Int32).toInt = 0 := by decide
        have t14 : (l1 + (1 : Int32)).toInt = l1.toInt + 1 := i_add rfl t8 (by omega)
        exact ih _ (by omega) (l1 + (1 : Int32)) I1 J1 rfl (h1) (by omega) (by omega)
  · have c15 := i_nlt q1
    have t16 : (400 : Int32).toInt = 400 := by decide
    exact k _ _ (h)
theorem tReadCues {S : Nat × (Nat → Int32)} {d : Nat} {x : mX} {I0 : rI0} {J0 : rJ0} {t : Int32} {I : rI0} {J : rJ0} {Q : rI0 → rJ0 → Prop} (h : TQ I0 J0 t I J) (k : ∀ I J, (TQ I0 J0 t I J) → Q I J) : wcV S (d + 10) 2 [.ref 30] x I J Q := by
  have bh := h.bnd
  refine c2_30 ?_
  have t1 : (0 : Int32).toInt = 0 := by decide
  exact tReadCues_10 k _ ((0 : Int32)) (mSet I 15 4 (0 : Int32)) J rfl (TQ.s15 (h) (v := ((0 : Int32))) (by omega)) (by omega) (by omega)
end CC3
