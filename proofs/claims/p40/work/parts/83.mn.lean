section MN1
theorem mLawLv_61 {S : Nat × (Nat → Int32)} {d : Nat} {x : mX} {I0 : rI0} {J0 : rJ0} {R C : Int} {G : Int} {Q : Int32 → rI0 → rJ0 → Prop} (k : ∀ r I J, (MZ I0 J0 R C I J) → ((I 43 42).toInt = G) → Q r I J) : ∀ (l1 : Int32) (l2 : Int64) (l4 : Int64) (l6 : Int32) (l7 : Int32) (l8 : Int32) (I : rI0) (J : rJ0), (MZ I0 J0 R C I J) → (0 ≤ l1.toInt) → (l1.toInt < 64) → (86 ≤ l8.toInt) → (l8.toInt ≤ 506) → ((l8.toInt - 86) % 84 = 0) → ((I 43 42).toInt = G) → wp S (d + 2) 198 61 [some (.ref 43), some (.int l1), some (.long l2), none, some (.long l4), none, some (.int l6), some (.int l7), some (.int l8)] [] (wv x I J) (rI x Q) := by
  intro l1 l2 l4 l6 l7 l8 I J h e0 e1 e2 e3 e4 e5
  have bh := h.bnd
  refine v198_43_61 ?_
  have t1 : (42 : Int32).toInt = 42 := by decide
  have t2 : (l8 + (42 : Int32)).toInt = l8.toInt + 42 := i_add rfl t1 (by omega)
  refine ⟨?_, ?_⟩
  · exact i_in (e := (l8 + (42 : Int32))) (A := (l8.toInt + 42)) t2 (by omega)
  refine ⟨fun q4 => ?_, fun q4 => ?_⟩
  · have c5 := i_lt q4
    have t6 : (0 : Int32).toInt = 0 := by decide
    refine mIsLaw (h) (by omega) ?_
    intro r1 I1 J1 h1 g1a g1b
    have bh1 := h1.bnd
    have y1 := congrArg Int32.toInt (congrFun (g1b.1 43 (by decide)) 42)
    refine ⟨fun q7 => ?_, fun q7 => ?_⟩
    · have c8 := i_eq q7
      exact k _ _ _ (h1) (by omega)
    · have c9 := i_ne q7
      refine ⟨fun q10 => ?_, fun q10 => ?_⟩
      · have t12 : (1 : Int32).toInt = 1 := by decide
        have t13 : (l6 - (1 : Int32)).toInt = l6.toInt - 1 := i_sub rfl t12 (by omega)
        exact k _ _ _ (h1) (by omega)
      · exact k _ _ _ (h1) (by omega)
  · have c15 := i_nlt q4
    have t16 : (0 : Int32).toInt = 0 := by decide
    exact k _ _ _ (h) (by omega)
theorem mLawLv {S : Nat × (Nat → Int32)} {d : Nat} {x : mX} {I0 : rI0} {J0 : rJ0} {R C : Int} {G : Int} {I : rI0} {J : rJ0} {p1 : Int32} {p2 : Int64} {p3 : Int64} {p4 : Int32} {p5 : Int32} {Q : Int32 → rI0 → rJ0 → Prop} (h : MZ I0 J0 R C I J) (hp : 0 ≤ p1.toInt ∧ p1.toInt < 64 ∧ 1 ≤ (I 45 ((6 : Int32) + p1).toNatClampNeg).toInt) (hg : (I 43 42).toInt = G) (k : ∀ r I J, (MZ I0 J0 R C I J) → ((I 43 42).toInt = G) → Q r I J) : wcI S (d + 2) 198 [.ref 43, .int p1, .long p2, .long p3, .int p4, .int p5] x I J Q := by
  have bh := h.bnd
  refine c198_43 ?_
  have t1 : (6 : Int32).toInt = 6 := by decide
  have t2 : ((6 : Int32) + p1).toInt = 6 + p1.toInt := i_add t1 rfl (by omega)
  refine ⟨?_, ?_⟩
  · exact i_in (e := ((6 : Int32) + p1)) (A := (6 + p1.toInt)) t2 (by omega)
  have cw4 := i_cl ((6 : Int32) + p1) (by omega)
  have w4 := MZ.kd h (e := ((6 : Int32) + p1).toNatClampNeg) (by omega)
  have t5 : (86 : Int32).toInt = 86 := by decide
  have t6 : (84 : Int32).toInt = 84 := by decide
  have t7 : (1 : Int32).toInt = 1 := by decide
  have t8 : ((I 45 (((6 : Int32) + p1).toNatClampNeg)) - (1 : Int32)).toInt = (I 45 (((6 : Int32) + p1).toNatClampNeg)).toInt - 1 := i_sub rfl t7 (by omega)
  have t9 : ((84 : Int32) * ((I 45 (((6 : Int32) + p1).toNatClampNeg)) - (1 : Int32))).toInt = 84 * ((I 45 (((6 : Int32) + p1).toNatClampNeg)).toInt - 1) := i_mul t6 t8 (by omega)
  have t10 : ((86 : Int32) + ((84 : Int32) * ((I 45 (((6 : Int32) + p1).toNatClampNeg)) - (1 : Int32)))).toInt = 86 + (84 * ((I 45 (((6 : Int32) + p1).toNatClampNeg)).toInt - 1)) := i_add t5 t9 (by omega)
  refine ⟨?_, ?_⟩
  · exact i_in (e := ((86 : Int32) + ((84 : Int32) * ((I 45 (((6 : Int32) + p1).toNatClampNeg)) - (1 : Int32))))) (A := (86 + (84 * ((I 45 (((6 : Int32) + p1).toNatClampNeg)).toInt - 1)))) t10 (by omega)
  refine ⟨fun q12 => ?_, fun q12 => ?_⟩
  · have c13 := i_lt q12
    have t14 : (0 : Int32).toInt = 0 := by decide
    refine mIsLaw (h) (by omega) ?_
    intro r1 I1 J1 h1 g1a g1b
    have bh1 := h1.bnd
    have y1 := congrArg Int32.toInt (congrFun (g1b.1 43 (by decide)) 42)
    refine ⟨fun q15 => ?_, fun q15 => ?_⟩
    · have c16 := i_eq q15
      exact mLawLv_61 k p1 p2 p3 p4 p5 ((86 : Int32) + ((84 : Int32) * ((I 45 (((6 : Int32) + p1).toNatClampNeg)) - (1 : Int32)))) I1 J1 (h1) (by omega) (by omega) (by omega) (by omega) (by omega) (by omega)
    · have c17 := i_ne q15
      refine ⟨fun q18 => ?_, fun q18 => ?_⟩
      · have t20 : (p4 + (1 : Int32)).toInt = p4.toInt + 1 := i_add rfl t7 (by omega)
        exact k _ _ _ (h1) (by omega)
      · have t22 : (2 : Int32).toInt = 2 := by decide
        exact k _ _ _ (h1) (by omega)
  · have c23 := i_nlt q12
    have t24 : (0 : Int32).toInt = 0 := by decide
    exact mLawLv_61 k p1 p2 p3 p4 p5 ((86 : Int32) + ((84 : Int32) * ((I 45 (((6 : Int32) + p1).toNatClampNeg)) - (1 : Int32)))) I J (h) (by omega) (by omega) (by omega) (by omega) (by omega) (by omega)
theorem mBegin {S : Nat × (Nat → Int32)} {d : Nat} {x : mX} {I0 : rI0} {J0 : rJ0} {R C : Int} {I : rI0} {J : rJ0} {p1 : Int64} {p2 : Int64} {Q : rI0 → rJ0 → Prop} (h : MZ I0 J0 R C I J) (k : ∀ I J, (MZ I0 J0 R C I J) → ((I 43 42).toInt = 0) → Q I J) : wcV S (d + 4) 199 [.ref 43, .long p1, .long p2] x I J Q := by
  have bh := h.bnd
  refine c199_43 ?_
  refine mLay (h) ?_
  intro I1 J1 h1
  have bh1 := h1.bnd
  have t1 : (0 : Int32).toInt = 0 := by decide
  exact k _ _ (MZ.sj (n := 43) (k := 41) (MZ.sj (n := 43) (k := 40) (MZ.sj (n := 43) (k := 39) (MZ.sj (n := 43) (k := 38) (MZ.sj (n := 43) (k := 37) (MZ.sj (n := 43) (k := 36) (MZ.s43 (MZ.s42 (h1) (v := ((0 : Int32))) (by omega)) (v := ((0 : Int32))) (by omega)) (by omega)) (by omega)) (by omega)) (by omega)) (by omega)) (by omega)) (by omega)
theorem mMoment_478 {S : Nat × (Nat → Int32)} {d : Nat} {x : mX} {I0 : rI0} {J0 : rJ0} {R C : Int} {G : Int} {Q : rI0 → rJ0 → Prop} {N260 : Nat} {N202 : Nat} (k : ∀ I J, (MZ I0 J0 R C I J) → ((I 43 42).toInt = G + 1) → Q I J) (K260 : ∀ (l1 : Int32) (l2 : Int32) (l3 : Int64) (l5 : Int64) (l7 : Int64) (l9 : Int64) (l11 : Int64) (l13 : Int64) (l15 : Int32) (l16 : Int32) (l17 : Int32) (I : rI0) (J : rJ0), (MZ I0 J0 R C I J) → ((64 - l17.toInt).toNat < N260) → (l1.toInt = G) → (0 ≤ G) → (G ≤ 600) → ((I 43 42).toInt = G) → (0 ≤ l15.toInt) → (l15.toInt < R) → (0 ≤ l17.toInt) → (l17.toInt ≤ 64) → ((8 - l15.toInt).toNat ≤ N202) → wp S (d + 3) 200 260 [some (.ref 43), some (.int l1), some (.int l2), some (.long l3), none, some (.long l5), none, some (.long l7), none, some (.long l9), none, some (.long l11), none, some (.long l13), none, some (.int l15), some (.int l16), some (.int l17), none, none, none, none, none] [] (wv x I J) (rV x Q)) : ∀ (l1 : Int32) (l2 : Int32) (l3 : Int64) (l5 : Int64) (l7 : Int64) (l9 : Int64) (l11 : Int64) (l13 : Int64) (l15 : Int32) (l16 : Int32) (l17 : Int32) (l18 : Int64) (l20 : Int32) (l21 : Int32) (l22 : Int32) (s0 : Int64) (s1 : Int64) (I : rI0) (J : rJ0), (MZ I0 J0 R C I J) → (l1.toInt = G) → (0 ≤ G) → (G ≤ 600) → ((I 43 42).toInt = G) → (0 ≤ l15.toInt) → (l15.toInt < R) → (0 ≤ l17.toInt) → (l17.toInt < 64) → ((64 - l17.toInt).toNat ≤ N260) → ((8 - l15.toInt).toNat ≤ N202) → wp S (d + 3) 200 478 [some (.ref 43), some (.int l1), some (.int l2), some (.long l3), none, some (.long l5), none, some (.long l7), none, some (.long l9), none, some (.long l11), none, some (.long l13), none, some (.int l15), some (.int l16), some (.int l17), some (.long l18), none, some (.int l20), some (.int l21), some (.int l22)] [.long s1, .long s0] (wv x I J) (rV x Q) := by
  intro l1 l2 l3 l5 l7 l9 l11 l13 l15 l16 l17 l18 l20 l21 l22 s0 s1 I J h e0 e1 e2 e3 e4 e5 e6 e7 a0 a1
  have bh := h.bnd
  refine v200_43_478 ?_
  refine ⟨fun q1 => ?_, fun q1 => ?_⟩
  · have t3 : (1 : Int32).toInt = 1 := by decide
    have t4 : (l17 + (1 : Int32)).toInt = l17.toInt + 1 := i_add rfl t3 (by omega)
    exact K260 l1 l2 l3 l5 l7 l9 (s0 ||| s1) (l13 ||| l18) l15 l16 (l17 + (1 : Int32)) I J (h) (by omega) (by omega) (by omega) (by omega) (by omega) (by omega) (by omega) (by omega) (by omega) (by omega)
  · have t6 : (1 : Int32).toInt = 1 := by decide
    have t7 : (l17 + (1 : Int32)).toInt = l17.toInt + 1 := i_add rfl t6 (by omega)
    exact K260 l1 l2 l3 l5 l7 l9 (s0 ||| s1) (l13 ||| (0 : Int64)) l15 l16 (l17 + (1 : Int32)) I J (h) (by omega) (by omega) (by omega) (by omega) (by omega) (by omega) (by omega) (by omega) (by omega) (by omega)
theorem mMoment_442 {S : Nat × (Nat → Int32)} {d : Nat} {x : mX} {I0 : rI0} {J0 : rJ0} {R C : Int} {G : Int} {Q : rI0 → rJ0 → Prop} {N260 : Nat} {N202 : Nat} (k : ∀ I J, (MZ I0 J0 R C I J) → ((I 43 42).toInt = G + 1) → Q I J) (K260 : ∀ (l1 : Int32) (l2 : Int32) (l3 : Int64) (l5 : Int64) (l7 : Int64) (l9 : Int64) (l11 : Int64) (l13 : Int64) (l15 : Int32) (l16 : Int32) (l17 : Int32) (I : rI0) (J : rJ0), (MZ I0 J0 R C I J) → ((64 - l17.toInt).toNat < N260) → (l1.toInt = G) → (0 ≤ G) → (G ≤ 600) → ((I 43 42).toInt = G) → (0 ≤ l15.toInt) → (l15.toInt < R) → (0 ≤ l17.toInt) → (l17.toInt ≤ 64) → ((8 - l15.toInt).toNat ≤ N202) → wp S (d + 3) 200 260 [some (.ref 43), some (.int l1), some (.int l2), some (.long l3), none, some (.long l5), none, some (.long l7), none, some (.long l9), none, some (.long l11), none, some (.long l13), none, some (.int l15), some (.int l16), some (.int l17), none, none, none, none, none] [] (wv x I J) (rV x Q)) : ∀ (l1 : Int32) (l2 : Int32) (l3 : Int64) (l5 : Int64) (l7 : Int64) (l9 : Int64) (l11 : Int64) (l13 : Int64) (l15 : Int32) (l16 : Int32) (l17 : Int32) (l18 : Int64) (l20 : Int32) (l21 : Int32) (l22 : Int32) (s0 : Int64) (s1 : Int64) (I : rI0) (J : rJ0), (MZ I0 J0 R C I J) → (l1.toInt = G) → (0 ≤ G) → (G ≤ 600) → ((I 43 42).toInt = G) → (0 ≤ l15.toInt) → (l15.toInt < R) → (0 ≤ l17.toInt) → (l17.toInt < 64) → ((64 - l17.toInt).toNat ≤ N260) → ((8 - l15.toInt).toNat ≤ N202) → wp S (d + 3) 200 442 [some (.ref 43), some (.int l1), some (.int l2), some (.long l3), none, some (.long l5), none, some (.long l7), none, some (.long l9), none, some (.long l11), none, some (.long l13), none, some (.int l15), some (.int l16), some (.int l17), some (.long l18), none, some (.int l20), some (.int l21), some (.int l22)] [.long s1, .long s0] (wv x I J) (rV x Q) := by
  intro l1 l2 l3 l5 l7 l9 l11 l13 l15 l16 l17 l18 l20 l21 l22 s0 s1 I J h e0 e1 e2 e3 e4 e5 e6 e7 a0 a1
  have bh := h.bnd
  refine v200_43_442 ?_
  refine ⟨fun q1 => ?_, fun q1 => ?_⟩
  · refine ⟨fun q3 => ?_, fun q3 => ?_⟩
    · exact mMoment_478 k K260 l1 l2 l3 l5 (s0 ||| s1) (l9 ||| l18) l11 l13 l15 l16 l17 l18 l20 l21 l22 l11 l18 I J (h) (by omega) (by omega) (by omega) (by omega) (by omega) (by omega) (by omega) (by omega) (by omega) (by omega)
    · exact mMoment_478 k K260 l1 l2 l3 l5 (s0 ||| s1) (l9 ||| l18) l11 l13 l15 l16 l17 l18 l20 l21 l22 l11 ((0 : Int64)) I J (h) (by omega) (by omega) (by omega) (by omega) (by omega) (by omega) (by omega) (by omega) (by omega) (by omega)
  · refine ⟨fun q7 => ?_, fun q7 => ?_⟩
    · exact mMoment_478 k K260 l1 l2 l3 l5 (s0 ||| s1) (l9 ||| (0 : Int64)) l11 l13 l15 l16 l17 l18 l20 l21 l22 l11 l18 I J (h) (by omega) (by omega) (by omega) (by omega) (by omega) (by omega) (by omega) (by omega) (by omega) (by omega)
    · exact mMoment_478 k K260 l1 l2 l3 l5 (s0 ||| s1) (l9 ||| (0 : Int64)) l11 l13 l15 l16 l17 l18 l20 l21 l22 l11 ((0 : Int64)) I J (h) (by omega) (by omega) (by omega) (by omega) (by omega) (by omega) (by omega) (by omega) (by omega) (by omega)
theorem mMoment_390 {S : Nat × (Nat → Int32)} {d : Nat} {x : mX} {I0 : rI0} {J0 : rJ0} {R C : Int} {G : Int} {Q : rI0 → rJ0 → Prop} {N260 : Nat} {N202 : Nat} (k : ∀ I J, (MZ I0 J0 R C I J) → ((I 43 42).toInt = G + 1) → Q I J) (K260 : ∀ (l1 : Int32) (l2 : Int32) (l3 : Int64) (l5 : Int64) (l7 : Int64) (l9 : Int64) (l11 : Int64) (l13 : Int64) (l15 : Int32) (l16 : Int32) (l17 : Int32) (I : rI0) (J : rJ0), (MZ I0 J0 R C I J) → ((64 - l17.toInt).toNat < N260) → (l1.toInt = G) → (0 ≤ G) → (G ≤ 600) → ((I 43 42).toInt = G) → (0 ≤ l15.toInt) → (l15.toInt < R) → (0 ≤ l17.toInt) → (l17.toInt ≤ 64) → ((8 - l15.toInt).toNat ≤ N202) → wp S (d + 3) 200 260 [some (.ref 43), some (.int l1), some (.int l2), some (.long l3), none, some (.long l5), none, some (.long l7), none, some (.long l9), none, some (.long l11), none, some (.long l13), none, some (.int l15), some (.int l16), some (.int l17), none, none, none, none, none] [] (wv x I J) (rV x Q)) : ∀ (l1 : Int32) (l2 : Int32) (l3 : Int64) (l5 : Int64) (l7 : Int64) (l9 : Int64) (l11 : Int64) (l13 : Int64) (l15 : Int32) (l16 : Int32) (l17 : Int32) (l18 : Int64) (l20 : Int32) (l21 : Int32) (I : rI0) (J : rJ0), (MZ I0 J0 R C I J) → (l1.toInt = G) → (0 ≤ G) → (G ≤ 600) → ((I 43 42).toInt = G) → (0 ≤ l15.toInt) → (l15.toInt < R) → (0 ≤ l17.toInt) → (l17.toInt < 64) → ((64 - l17.toInt).toNat ≤ N260) → ((8 - l15.toInt).toNat ≤ N202) → wp S (d + 3) 200 390 [some (.ref 43), some (.int l1), some (.int l2), some (.long l3), none, some (.long l5), none, some (.long l7), none, some (.long l9), none, some (.long l11), none, some (.long l13), none, some (.int l15), some (.int l16), some (.int l17), some (.long l18), none, some (.int l20), some (.int l21), none] [] (wv x I J) (rV x Q) := by
  intro l1 l2 l3 l5 l7 l9 l11 l13 l15 l16 l17 l18 l20 l21 I J h e0 e1 e2 e3 e4 e5 e6 e7 a0 a1
  have bh := h.bnd
  refine v200_43_390 ?_
  refine ⟨fun q1 => ?_, fun q1 => ?_⟩
  · have c2 := i_eq q1
    have t3 : (0 : Int32).toInt = 0 := by decide
    refine ⟨fun q4 => ?_, fun q4 => ?_⟩
    · exact mMoment_442 k K260 l1 l2 l3 l5 l7 l9 l11 l13 l15 l16 l17 l18 l20 l21 ((0 : Int32)) l7 l18 I J (h) (by omega) (by omega) (by omega) (by omega) (by omega) (by omega) (by omega) (by omega) (by omega) (by omega)
    · exact mMoment_442 k K260 l1 l2 l3 l5 l7 l9 l11 l13 l15 l16 l17 l18 l20 l21 ((0 : Int32)) l7 ((0 : Int64)) I J (h) (by omega) (by omega) (by omega) (by omega) (by omega) (by omega) (by omega) (by omega) (by omega) (by omega)
  · have c7 := i_ne q1
    have t8 : (0 : Int32).toInt = 0 := by decide
    refine ⟨fun q9 => ?_, fun q9 => ?_⟩
    · refine mHeldOf  ?_
      intro r1
      refine ⟨fun q11 => ?_, fun q11 => ?_⟩
      · have c12 := i_lt q11
        have t13 : (3 : Int32).toInt = 3 := by decide
        refine mHeldOf  ?_
        intro r2
        refine ⟨fun q14 => ?_, fun q14 => ?_⟩
        · exact mMoment_442 k K260 l1 l2 l3 l5 l7 l9 l11 l13 l15 l16 l17 l18 l20 l21 (r2 + (1 : Int32)) l7 l18 I J (h) (by omega) (by omega) (by omega) (by omega) (by omega) (by omega) (by omega) (by omega) (by omega) (by omega)
        · exact mMoment_442 k K260 l1 l2 l3 l5 l7 l9 l11 l13 l15 l16 l17 l18 l20 l21 (r2 + (1 : Int32)) l7 ((0 : Int64)) I J (h) (by omega) (by omega) (by omega) (by omega) (by omega) (by omega) (by omega) (by omega) (by omega) (by omega)
      · have c17 := i_nlt q11
        have t18 : (3 : Int32).toInt = 3 := by decide
        refine ⟨fun q19 => ?_, fun q19 => ?_⟩
        · exact mMoment_442 k K260 l1 l2 l3 l5 l7 l9 l11 l13 l15 l16 l17 l18 l20 l21 ((3 : Int32)) l7 l18 I J (h) (by omega) (by omega) (by omega) (by omega) (by omega) (by omega) (by omega) (by omega) (by omega) (by omega)
        · exact mMoment_442 k K260 l1 l2 l3 l5 l7 l9 l11 l13 l15 l16 l17 l18 l20 l21 ((3 : Int32)) l7 ((0 : Int64)) I J (h) (by omega) (by omega) (by omega) (by omega) (by omega) (by omega) (by omega) (by omega) (by omega) (by omega)
    · refine ⟨fun q23 => ?_, fun q23 => ?_⟩
      · exact mMoment_442 k K260 l1 l2 l3 l5 l7 l9 l11 l13 l15 l16 l17 l18 l20 l21 ((0 : Int32)) l7 l18 I J (h) (by omega) (by omega) (by omega) (by omega) (by omega) (by omega) (by omega) (by omega) (by omega) (by omega)
      · exact mMoment_442 k K260 l1 l2 l3 l5 l7 l9 l11 l13 l15 l16 l17 l18 l20 l21 ((0 : Int32)) l7 ((0 : Int64)) I J (h) (by omega) (by omega) (by omega) (by omega) (by omega) (by omega) (by omega) (by omega) (by omega) (by omega)
theorem mMoment_357 {S : Nat × (Nat → Int32)} {d : Nat} {x : mX} {I0 : rI0} {J0 : rJ0} {R C : Int} {G : Int} {Q : rI0 → rJ0 → Prop} {N260 : Nat} {N202 : Nat} (k : ∀ I J, (MZ I0 J0 R C I J) → ((I 43 42).toInt = G + 1) → Q I J) (K260 : ∀ (l1 : Int32) (l2 : Int32) (l3 : Int64) (l5 : Int64) (l7 : Int64) (l9 : Int64) (l11 : Int64) (l13 : Int64) (l15 : Int32) (l16 : Int32) (l17 : Int32) (I : rI0) (J : rJ0), (MZ I0 J0 R C I J) → ((64 - l17.toInt).toNat < N260) → (l1.toInt = G) → (0 ≤ G) → (G ≤ 600) → ((I 43 42).toInt = G) → (0 ≤ l15.toInt) → (l15.toInt < R) → (0 ≤ l17.toInt) → (l17.toInt ≤ 64) → ((8 - l15.toInt).toNat ≤ N202) → wp S (d + 3) 200 260 [some (.ref 43), some (.int l1), some (.int l2), some (.long l3), none, some (.long l5), none, some (.long l7), none, some (.long l9), none, some (.long l11), none, some (.long l13), none, some (.int l15), some (.int l16), some (.int l17), none, none, none, none, none] [] (wv x I J) (rV x Q)) : ∀ (l1 : Int32) (l2 : Int32) (l3 : Int64) (l5 : Int64) (l7 : Int64) (l9 : Int64) (l11 : Int64) (l13 : Int64) (l15 : Int32) (l16 : Int32) (l17 : Int32) (l18 : Int64) (l20 : Int32) (I : rI0) (J : rJ0), (MZ I0 J0 R C I J) → (l1.toInt = G) → (0 ≤ G) → (G ≤ 600) → ((I 43 42).toInt = G) → (0 ≤ l15.toInt) → (l15.toInt < R) → (0 ≤ l17.toInt) → (l17.toInt < 64) → (1 ≤ (I 45 ((6 : Int32) + l17).toNatClampNeg).toInt) → ((64 - l17.toInt).toNat ≤ N260) → ((8 - l15.toInt).toNat ≤ N202) → wp S (d + 3) 200 357 [some (.ref 43), some (.int l1), some (.int l2), some (.long l3), none, some (.long l5), none, some (.long l7), none, some (.long l9), none, some (.long l11), none, some (.long l13), none, some (.int l15), some (.int l16), some (.int l17), some (.long l18), none, some (.int l20), none, none] [] (wv x I J) (rV x Q) := by
  intro l1 l2 l3 l5 l7 l9 l11 l13 l15 l16 l17 l18 l20 I J h e0 e1 e2 e3 e4 e5 e6 e7 e8 a0 a1
  have bh := h.bnd
  refine v200_43_357 ?_
  refine ⟨fun q1 => ?_, fun q1 => ?_⟩
  · have c2 := i_eq q1
    have t3 : (0 : Int32).toInt = 0 := by decide
    refine ⟨fun q4 => ?_, fun q4 => ?_⟩
    · have c5 := i_eq q4
      exact mMoment_390 k K260 l1 l2 l3 l5 l7 l9 l11 l13 l15 l16 l17 l18 l20 ((0 : Int32)) I J (h) (by omega) (by omega) (by omega) (by omega) (by omega) (by omega) (by omega) (by omega) (by omega) (by omega)
    · have c6 := i_ne q4
      refine mHeldOf  ?_
      intro r1
      refine mLawLv (h) (by omega) rfl ?_
      intro r2 I2 J2 h2 g2a
      have bh2 := h2.bnd
      exact mMoment_390 k K260 l1 l2 l3 l5 l7 l9 l11 l13 l15 l16 l17 l18 l20 r2 I2 J2 (h2) (by omega) (by omega) (by omega) (by omega) (by omega) (by omega) (by omega) (by omega) (by omega) (by omega)
  · have c7 := i_ne q1
    have t8 : (0 : Int32).toInt = 0 := by decide
    exact mMoment_390 k K260 l1 l2 l3 l5 l7 l9 l11 l13 l15 l16 l17 l18 l20 ((0 : Int32)) I J (h) (by omega) (by omega) (by omega) (by omega) (by omega) (by omega) (by omega) (by omega) (by omega) (by omega)
theorem mMoment_260 {S : Nat × (Nat → Int32)} {d : Nat} {x : mX} {I0 : rI0} {J0 : rJ0} {R C : Int} {G : Int} {Q : rI0 → rJ0 → Prop} {N202 : Nat} (k : ∀ I J, (MZ I0 J0 R C I J) → ((I 43 42).toInt = G + 1) → Q I J) (K548 : ∀ (l1 : Int32) (l2 : Int32) (l3 : Int64) (l5 : Int64) (l7 : Int64) (l9 : Int64) (l11 : Int64) (l13 : Int64) (l15 : Int32) (l16 : Int32) (l17 : Int32) (s0 : Int64) (I : rI0) (J : rJ0), (MZ I0 J0 R C I J) → (l1.toInt = G) → (0 ≤ G) → (G ≤ 600) → ((I 43 42).toInt = G) → (0 ≤ l15.toInt) → (l15.toInt < R) → ((8 - l15.toInt).toNat ≤ N202) → wp S (d + 3) 200 548 [some (.ref 43), some (.int l1), some (.int l2), some (.long l3), none, some (.long l5), none, some (.long l7), none, some (.long l9), none, some (.long l11), none, some (.long l13), none, some (.int l15), some (.int l16), some (.int l17), none, none, none, none, none] [.long s0] (wv x I J) (rV x Q)) (K202 : ∀ (l1 : Int32) (l2 : Int32) (l3 : Int64) (l5 : Int64) (l7 : Int64) (l9 : Int64) (l11 : Int64) (l13 : Int64) (l15 : Int32) (I : rI0) (J : rJ0), (MZ I0 J0 R C I J) → ((8 - l15.toInt).toNat < N202) → (l1.toInt = G) → (0 ≤ G) → (G ≤ 600) → ((I 43 42).toInt = G) → (0 ≤ l15.toInt) → (l15.toInt ≤ 8) → wp S (d + 3) 200 202 [some (.ref 43), some (.int l1), some (.int l2), some (.long l3), none, some (.long l5), none, some (.long l7), none, some (.long l9), none, some (.long l11), none, some (.long l13), none, some (.int l15), none, none, none, none, none, none, none] [] (wv x I J) (rV x Q)) : ∀ (n : Nat) (l1 : Int32) (l2 : Int32) (l3 : Int64) (l5 : Int64) (l7 : Int64) (l9 : Int64) (l11 : Int64) (l13 : Int64) (l15 : Int32) (l16 : Int32) (l17 : Int32) (I : rI0) (J : rJ0), ((64 - l17.toInt).toNat = n) → (MZ I0 J0 R C I J) → (l1.toInt = G) → (0 ≤ G) → (G ≤ 600) → ((I 43 42).toInt = G) → (0 ≤ l15.toInt) → (l15.toInt < R) → (0 ≤ l17.toInt) → (l17.toInt ≤ 64) → ((8 - l15.toInt).toNat ≤ N202) → wp S (d + 3) 200 260 [some (.ref 43), some (.int l1), some (.int l2), some (.long l3), none, some (.long l5), none, some (.long l7), none, some (.long l9), none, some (.long l11), none, some (.long l13), none, some (.int l15), some (.int l16), some (.int l17), none, none, none, none, none] [] (wv x I J) (rV x Q) := by
  refine lpn ?_
  intro n ih
  intro l1 l2 l3 l5 l7 l9 l11 l13 l15 l16 l17 I J hm h e0 e1 e2 e3 e4 e5 e6 e7 a0
  have bh := h.bnd
  refine v200_43_260 ?_
  have t1 : (1 : Int32).toInt = 1 := by decide
  refine ⟨?_, ?_⟩
  · exact i_in (e := (1 : Int32)) (A := 1) t1 (by omega)
  have w3 : (I 45 ((1 : Int32).toNatClampNeg)).toInt = (I 45 1).toInt := rfl
  refine ⟨fun q4 => ?_, fun q4 => ?_⟩
  · have c5 := i_lt q4
    have t6 : (l15 + (1 : Int32)).toInt = l15.toInt + 1 := i_add rfl t1 (by omega)
    have ut7 : 0 ≤ (I 45 ((1 : Int32).toNatClampNeg)).toInt * (l15.toInt + 1) ∧ (I 45 ((1 : Int32).toNatClampNeg)).toInt * (l15.toInt + 1) ≤ 64 := i_mb (by omega) (by omega)
    try have wt7 : (I 45 ((1 : Int32).toNatClampNeg)).toInt * (l15.toInt + 1) ≤ 56 := i_m7 (by omega) (by omega)
    have vt7 := i_mp (A := (I 45 ((1 : Int32).toNatClampNeg)).toInt) (B := (l15.toInt + 1)) (by omega) (by omega)
    have t7 : ((I 45 ((1 : Int32).toNatClampNeg)) * (l15 + (1 : Int32))).toInt = (I 45 ((1 : Int32).toNatClampNeg)).toInt * (l15.toInt + 1) := i_mul rfl t6 (by omega)
    have t8 : (6 : Int32).toInt = 6 := by decide
    have t9 : ((6 : Int32) + l17).toInt = 6 + l17.toInt := i_add t8 rfl (by omega)
    refine ⟨?_, ?_⟩
    · exact i_in (e := ((6 : Int32) + l17)) (A := (6 + l17.toInt)) t9 (by omega)
    have cw11 := i_cl ((6 : Int32) + l17) (by omega)
    have w11 := MZ.kd h (e := ((6 : Int32) + l17).toNatClampNeg) (by omega)
    refine ⟨fun q12 => ?_, fun q12 => ?_⟩
    · have c13 := i_eq q12
      have t14 : (0 : Int32).toInt = 0 := by decide
      have t15 : (l17 + (1 : Int32)).toInt = l17.toInt + 1 := i_add rfl t1 (by omega)
      exact ih _ (by omega) l1 l2 l3 l5 l7 l9 l11 l13 l15 l16 (l17 + (1 : Int32)) I J rfl (h) (by omega) (by omega) (by omega) (by omega) (by omega) (by omega) (by omega) (by omega) (by omega)
    · have c16 := i_ne q12
      have t17 : (0 : Int32).toInt = 0 := by decide
      refine mLevel  ?_
      intro r1
      refine ⟨fun q18 => ?_, fun q18 => ?_⟩
      · have c19 := i_eq q18
        refine ⟨fun q20 => ?_, fun q20 => ?_⟩
        · refine ⟨fun q22 => ?_, fun q22 => ?_⟩
          · exact mMoment_357 k (fun l1_ l2_ l3_ l5_ l7_ l9_ l11_ l13_ l15_ l16_ l17_ I_ J_ h_ hlt f0_ f1_ f2_ f3_ f4_ f5_ f6_ f7_ f8_ => ih _ hlt l1_ l2_ l3_ l5_ l7_ l9_ l11_ l13_ l15_ l16_ l17_ I_ J_ rfl h_ f0_ f1_ f2_ f3_ f4_ f5_ f6_ f7_ f8_) l1 l2 l3 l5 l7 l9 l11 l13 l15 l16 l17 ((1 : Int64) <<< (l17.toInt64 &&& 63)) r1 I J (h) (by omega) (by omega) (by omega) (by omega) (by omega) (by omega) (by omega) (by omega) (by omega) (by omega) (by omega)
          · have t25 : (4 : Int32).toInt = 4 := by decide
            refine ⟨?_, ?_⟩
            · exact i_in (e := (4 : Int32)) (A := 4) t25 (by omega)
            have w27 : (I 45 ((4 : Int32).toNatClampNeg)).toInt = (I 45 4).toInt := rfl
            refine ⟨fun q28 => ?_, fun q28 => ?_⟩
            · have c29 := i_lt q28
              exact mMoment_357 k (fun l1_ l2_ l3_ l5_ l7_ l9_ l11_ l13_ l15_ l16_ l17_ I_ J_ h_ hlt f0_ f1_ f2_ f3_ f4_ f5_ f6_ f7_ f8_ => ih _ hlt l1_ l2_ l3_ l5_ l7_ l9_ l11_ l13_ l15_ l16_ l17_ I_ J_ rfl h_ f0_ f1_ f2_ f3_ f4_ f5_ f6_ f7_ f8_) l1 l2 l3 l5 l7 l9 l11 l13 l15 l16 l17 ((1 : Int64) <<< (l17.toInt64 &&& 63)) r1 I J (h) (by omega) (by omega) (by omega) (by omega) (by omega) (by omega) (by omega) (by omega) (by omega) (by omega) (by omega)
            · have c30 := i_nlt q28
              exact mMoment_390 k (fun l1_ l2_ l3_ l5_ l7_ l9_ l11_ l13_ l15_ l16_ l17_ I_ J_ h_ hlt f0_ f1_ f2_ f3_ f4_ f5_ f6_ f7_ f8_ => ih _ hlt l1_ l2_ l3_ l5_ l7_ l9_ l11_ l13_ l15_ l16_ l17_ I_ J_ rfl h_ f0_ f1_ f2_ f3_ f4_ f5_ f6_ f7_ f8_) l1 l2 l3 l5 l7 l9 l11 l13 l15 l16 l17 ((1 : Int64) <<< (l17.toInt64 &&& 63)) r1 ((2 : Int32)) I J (h) (by omega) (by omega) (by omega) (by omega) (by omega) (by omega) (by omega) (by omega) (by omega) (by omega)
        · exact mMoment_390 k (fun l1_ l2_ l3_ l5_ l7_ l9_ l11_ l13_ l15_ l16_ l17_ I_ J_ h_ hlt f0_ f1_ f2_ f3_ f4_ f5_ f6_ f7_ f8_ => ih _ hlt l1_ l2_ l3_ l5_ l7_ l9_ l11_ l13_ l15_ l16_ l17_ I_ J_ rfl h_ f0_ f1_ f2_ f3_ f4_ f5_ f6_ f7_ f8_) l1 l2 l3 l5 l7 l9 l11 l13 l15 l16 l17 ((1 : Int64) <<< (l17.toInt64 &&& 63)) r1 ((0 : Int32)) I J (h) (by omega) (by omega) (by omega) (by omega) (by omega) (by omega) (by omega) (by omega) (by omega) (by omega)
      · have c32 := i_ne q18
        exact mMoment_390 k (fun l1_ l2_ l3_ l5_ l7_ l9_ l11_ l13_ l15_ l16_ l17_ I_ J_ h_ hlt f0_ f1_ f2_ f3_ f4_ f5_ f6_ f7_ f8_ => ih _ hlt l1_ l2_ l3_ l5_ l7_ l9_ l11_ l13_ l15_ l16_ l17_ I_ J_ rfl h_ f0_ f1_ f2_ f3_ f4_ f5_ f6_ f7_ f8_) l1 l2 l3 l5 l7 l9 l11 l13 l15 l16 l17 ((1 : Int64) <<< (l17.toInt64 &&& 63)) r1 ((0 : Int32)) I J (h) (by omega) (by omega) (by omega) (by omega) (by omega) (by omega) (by omega) (by omega) (by omega) (by omega)
  · have c33 := i_nlt q4
    have t34 : (l15 + (1 : Int32)).toInt = l15.toInt + 1 := i_add rfl t1 (by omega)
    have ut35 : 0 ≤ (I 45 ((1 : Int32).toNatClampNeg)).toInt * (l15.toInt + 1) ∧ (I 45 ((1 : Int32).toNatClampNeg)).toInt * (l15.toInt + 1) ≤ 64 := i_mb (by omega) (by omega)
    try have wt35 : (I 45 ((1 : Int32).toNatClampNeg)).toInt * (l15.toInt + 1) ≤ 56 := i_m7 (by omega) (by omega)
    have vt35 := i_mp (A := (I 45 ((1 : Int32).toNatClampNeg)).toInt) (B := (l15.toInt + 1)) (by omega) (by omega)
    have t35 : ((I 45 ((1 : Int32).toNatClampNeg)) * (l15 + (1 : Int32))).toInt = (I 45 ((1 : Int32).toNatClampNeg)).toInt * (l15.toInt + 1) := i_mul rfl t34 (by omega)
    have t36 : (5 : Int32).toInt = 5 := by decide
    refine ⟨?_, ?_⟩
    · exact i_in (e := (5 : Int32)) (A := 5) t36 (by omega)
    have w38 : (I 45 ((5 : Int32).toNatClampNeg)).toInt = (I 45 5).toInt := rfl
    refine ⟨fun q39 => ?_, fun q39 => ?_⟩
    · have c40 := i_eq q39
      have t41 : (0 : Int32).toInt = 0 := by decide
      exact K202 l1 l2 l3 l5 l7 l9 l11 l13 (l15 + (1 : Int32)) I J (h) (by omega) (by omega) (by omega) (by omega) (by omega) (by omega) (by omega)
    · have c42 := i_ne q39
      have t43 : (0 : Int32).toInt = 0 := by decide
      refine ⟨?_, ?_⟩
      · exact i_in (e := (1 : Int32)) (A := 1) t1 (by omega)
      refine ⟨fun q45 => ?_, fun q45 => ?_⟩
      · have c46 := i_eq q45
        have t47 : (64 : Int32).toInt = 64 := by decide
        exact K548 l1 l2 l3 l5 l7 l9 l11 l13 l15 l16 ((I 45 ((1 : Int32).toNatClampNeg)) * (l15 + (1 : Int32))) ((-1 : Int64)) I J (h) (by omega) (by omega) (by omega) (by omega) (by omega) (by omega) (by omega)
      · have c48 := i_ne q45
        have t49 : (64 : Int32).toInt = 64 := by decide
        exact K548 l1 l2 l3 l5 l7 l9 l11 l13 l15 l16 ((I 45 ((1 : Int32).toNatClampNeg)) * (l15 + (1 : Int32))) (((1 : Int64) <<< (((I 45 ((1 : Int32).toNatClampNeg)) * (l15 + (1 : Int32))).toInt64 &&& 63)) - (1 : Int64)) I J (h) (by omega) (by omega) (by omega) (by omega) (by omega) (by omega) (by omega)
theorem mMoment_548 {S : Nat × (Nat → Int32)} {d : Nat} {x : mX} {I0 : rI0} {J0 : rJ0} {R C : Int} {G : Int} {Q : rI0 → rJ0 → Prop} {N202 : Nat} (k : ∀ I J, (MZ I0 J0 R C I J) → ((I 43 42).toInt = G + 1) → Q I J) (K202 : ∀ (l1 : Int32) (l2 : Int32) (l3 : Int64) (l5 : Int64) (l7 : Int64) (l9 : Int64) (l11 : Int64) (l13 : Int64) (l15 : Int32) (I : rI0) (J : rJ0), (MZ I0 J0 R C I J) → ((8 - l15.toInt).toNat < N202) → (l1.toInt = G) → (0 ≤ G) → (G ≤ 600) → ((I 43 42).toInt = G) → (0 ≤ l15.toInt) → (l15.toInt ≤ 8) → wp S (d + 3) 200 202 [some (.ref 43), some (.int l1), some (.int l2), some (.long l3), none, some (.long l5), none, some (.long l7), none, some (.long l9), none, some (.long l11), none, some (.long l13), none, some (.int l15), none, none, none, none, none, none, none] [] (wv x I J) (rV x Q)) : ∀ (l1 : Int32) (l2 : Int32) (l3 : Int64) (l5 : Int64) (l7 : Int64) (l9 : Int64) (l11 : Int64) (l13 : Int64) (l15 : Int32) (l16 : Int32) (l17 : Int32) (s0 : Int64) (I : rI0) (J : rJ0), (MZ I0 J0 R C I J) → (l1.toInt = G) → (0 ≤ G) → (G ≤ 600) → ((I 43 42).toInt = G) → (0 ≤ l15.toInt) → (l15.toInt < R) → ((8 - l15.toInt).toNat ≤ N202) → wp S (d + 3) 200 548 [some (.ref 43), some (.int l1), some (.int l2), some (.long l3), none, some (.long l5), none, some (.long l7), none, some (.long l9), none, some (.long l11), none, some (.long l13), none, some (.int l15), some (.int l16), some (.int l17), none, none, none, none, none] [.long s0] (wv x I J) (rV x Q) := by
  intro l1 l2 l3 l5 l7 l9 l11 l13 l15 l16 l17 s0 I J h e0 e1 e2 e3 e4 e5 a0
  have bh := h.bnd
  refine v200_43_548 ?_
  have t1 : (1 : Int32).toInt = 1 := by decide
  have t2 : (l15 + (1 : Int32)).toInt = l15.toInt + 1 := i_add rfl t1 (by omega)
  exact K202 l1 l2 ((l7 &&& s0) ||| ((J 43 38) &&& (s0 ^^^ (-1 : Int64)))) ((l9 &&& s0) ||| ((J 43 39) &&& (s0 ^^^ (-1 : Int64)))) l7 l9 l11 l13 (l15 + (1 : Int32)) I J (h) (by omega) (by omega) (by omega) (by omega) (by omega) (by omega) (by omega)
theorem mMoment_202 {S : Nat × (Nat → Int32)} {d : Nat} {x : mX} {I0 : rI0} {J0 : rJ0} {R C : Int} {G : Int} {Q : rI0 → rJ0 → Prop} (k : ∀ I J, (MZ I0 J0 R C I J) → ((I 43 42).toInt = G + 1) → Q I J) : ∀ (n : Nat) (l1 : Int32) (l2 : Int32) (l3 : Int64) (l5 : Int64) (l7 : Int64) (l9 : Int64) (l11 : Int64) (l13 : Int64) (l15 : Int32) (I : rI0) (J : rJ0), ((8 - l15.toInt).toNat = n) → (MZ I0 J0 R C I J) → (l1.toInt = G) → (0 ≤ G) → (G ≤ 600) → ((I 43 42).toInt = G) → (0 ≤ l15.toInt) → (l15.toInt ≤ 8) → wp S (d + 3) 200 202 [some (.ref 43), some (.int l1), some (.int l2), some (.long l3), none, some (.long l5), none, some (.long l7), none, some (.long l9), none, some (.long l11), none, some (.long l13), none, some (.int l15), none, none, none, none, none, none, none] [] (wv x I J) (rV x Q) := by
  refine lpn ?_
  intro n ih
  intro l1 l2 l3 l5 l7 l9 l11 l13 l15 I J hm h e0 e1 e2 e3 e4 e5
  have bh := h.bnd
  refine v200_43_202 ?_
  have t1 : (0 : Int32).toInt = 0 := by decide
  refine ⟨?_, ?_⟩
  · exact i_in (e := (0 : Int32)) (A := 0) t1 (by omega)
  have w3 : (I 45 ((0 : Int32).toNatClampNeg)).toInt = (I 45 0).toInt := rfl
  refine ⟨fun q4 => ?_, fun q4 => ?_⟩
  · have c5 := i_lt q4
    have t6 : (78 : Int32).toInt = 78 := by decide
    have t7 : ((78 : Int32) + l15).toInt = 78 + l15.toInt := i_add t6 rfl (by omega)
    refine ⟨?_, ?_⟩
    · exact i_in (e := ((78 : Int32) + l15)) (A := (78 + l15.toInt)) t7 (by omega)
    refine ⟨fun q9 => ?_, fun q9 => ?_⟩
    · have c10 := i_lt q9
      refine ⟨?_, ?_⟩
      · exact i_in (e := ((78 : Int32) + l15)) (A := (78 + l15.toInt)) t7 (by omega)
      refine ⟨fun q12 => ?_, fun q12 => ?_⟩
      · have c13 := i_lt q12
        have t14 : (1 : Int32).toInt = 1 := by decide
        have t15 : ((I 45 (((78 : Int32) + l15).toNatClampNeg)) - (1 : Int32)).toInt = (I 45 (((78 : Int32) + l15).toNatClampNeg)).toInt - 1 := i_sub rfl t14 (by omega)
        refine ⟨?_, ?_⟩
        · exact i_in (e := (1 : Int32)) (A := 1) t14 (by omega)
        have w17 : (I 45 ((1 : Int32).toNatClampNeg)).toInt = (I 45 1).toInt := rfl
        have ut18 : 0 ≤ (I 45 ((1 : Int32).toNatClampNeg)).toInt * l15.toInt ∧ (I 45 ((1 : Int32).toNatClampNeg)).toInt * l15.toInt ≤ 64 := i_mb (by omega) (by omega)
        try have wt18 : (I 45 ((1 : Int32).toNatClampNeg)).toInt * l15.toInt ≤ 56 := i_m7 (by omega) (by omega)
        have vt18 := i_mp (A := (I 45 ((1 : Int32).toNatClampNeg)).toInt) (B := l15.toInt) (by omega) (by omega)
        have t18 : ((I 45 ((1 : Int32).toNatClampNeg)) * l15).toInt = (I 45 ((1 : Int32).toNatClampNeg)).toInt * l15.toInt := i_mul rfl rfl (by omega)
        exact mMoment_260 k K548 (fun l1_ l2_ l3_ l5_ l7_ l9_ l11_ l13_ l15_ I_ J_ h_ hlt f0_ f1_ f2_ f3_ f4_ f5_ => ih _ hlt l1_ l2_ l3_ l5_ l7_ l9_ l11_ l13_ l15_ I_ J_ rfl h_ f0_ f1_ f2_ f3_ f4_ f5_) _ l1 l2 l3 l5 l7 l9 l11 l13 l15 ((0 : Int32)) ((I 45 ((1 : Int32).toNatClampNeg)) * l15) I J rfl (h) (by omega) (by omega) (by omega) (by omega) (by omega) (by omega) (by omega) (by omega) (by omega)
      · have c19 := i_nlt q12
        have t20 : (1 : Int32).toInt = 1 := by decide
        have t21 : ((I 45 (((78 : Int32) + l15).toNatClampNeg)) - (1 : Int32)).toInt = (I 45 (((78 : Int32) + l15).toNatClampNeg)).toInt - 1 := i_sub rfl t20 (by omega)
        refine ⟨?_, ?_⟩
        · exact i_in (e := (1 : Int32)) (A := 1) t20 (by omega)
        have w23 : (I 45 ((1 : Int32).toNatClampNeg)).toInt = (I 45 1).toInt := rfl
        have ut24 : 0 ≤ (I 45 ((1 : Int32).toNatClampNeg)).toInt * l15.toInt ∧ (I 45 ((1 : Int32).toNatClampNeg)).toInt * l15.toInt ≤ 64 := i_mb (by omega) (by omega)
        try have wt24 : (I 45 ((1 : Int32).toNatClampNeg)).toInt * l15.toInt ≤ 56 := i_m7 (by omega) (by omega)
        have vt24 := i_mp (A := (I 45 ((1 : Int32).toNatClampNeg)).toInt) (B := l15.toInt) (by omega) (by omega)
        have t24 : ((I 45 ((1 : Int32).toNatClampNeg)) * l15).toInt = (I 45 ((1 : Int32).toNatClampNeg)).toInt * l15.toInt := i_mul rfl rfl (by omega)
        exact mMoment_260 k K548 (fun l1_ l2_ l3_ l5_ l7_ l9_ l11_ l13_ l15_ I_ J_ h_ hlt f0_ f1_ f2_ f3_ f4_ f5_ => ih _ hlt l1_ l2_ l3_ l5_ l7_ l9_ l11_ l13_ l15_ I_ J_ rfl h_ f0_ f1_ f2_ f3_ f4_ f5_) _ l1 l2 l3 l5 l7 l9 l11 l13 l15 ((1 : Int32)) ((I 45 ((1 : Int32).toNatClampNeg)) * l15) I J rfl (h) (by omega) (by omega) (by omega) (by omega) (by omega) (by omega) (by omega) (by omega) (by omega)
    · have c25 := i_nlt q9
      have t26 : (1 : Int32).toInt = 1 := by decide
      refine ⟨?_, ?_⟩
      · exact i_in (e := (1 : Int32)) (A := 1) t26 (by omega)
      have w28 : (I 45 ((1 : Int32).toNatClampNeg)).toInt = (I 45 1).toInt := rfl
      have ut29 : 0 ≤ (I 45 ((1 : Int32).toNatClampNeg)).toInt * l15.toInt ∧ (I 45 ((1 : Int32).toNatClampNeg)).toInt * l15.toInt ≤ 64 := i_mb (by omega) (by omega)
      try have wt29 : (I 45 ((1 : Int32).toNatClampNeg)).toInt * l15.toInt ≤ 56 := i_m7 (by omega) (by omega)
      have vt29 := i_mp (A := (I 45 ((1 : Int32).toNatClampNeg)).toInt) (B := l15.toInt) (by omega) (by omega)
      have t29 : ((I 45 ((1 : Int32).toNatClampNeg)) * l15).toInt = (I 45 ((1 : Int32).toNatClampNeg)).toInt * l15.toInt := i_mul rfl rfl (by omega)
      exact mMoment_260 k K548 (fun l1_ l2_ l3_ l5_ l7_ l9_ l11_ l13_ l15_ I_ J_ h_ hlt f0_ f1_ f2_ f3_ f4_ f5_ => ih _ hlt l1_ l2_ l3_ l5_ l7_ l9_ l11_ l13_ l15_ I_ J_ rfl h_ f0_ f1_ f2_ f3_ f4_ f5_) _ l1 l2 l3 l5 l7 l9 l11 l13 l15 ((0 : Int32)) ((I 45 ((1 : Int32).toNatClampNeg)) * l15) I J rfl (h) (by omega) (by omega) (by omega) (by omega) (by omega) (by omega) (by omega) (by omega) (by omega)
  · have c30 := i_nlt q4
    refine ⟨?_, ?_⟩
    · exact i_in (e := (l1)) (A := l1.toInt) rfl (by omega)
    refine ⟨?_, ?_⟩
    · exact i_in (e := (l1)) (A := l1.toInt) rfl (by omega)
    refine ⟨?_, ?_⟩
    · exact i_in (e := (l1)) (A := l1.toInt) rfl (by omega)
    refine ⟨?_, ?_⟩
    · exact i_in (e := (l1)) (A := l1.toInt) rfl (by omega)
    have t35 : (1 : Int32).toInt = 1 := by decide
    have t36 : ((I 43 42) + (1 : Int32)).toInt = (I 43 42).toInt + 1 := i_add rfl t35 (by omega)
    exact k _ _ (MZ.sj (n := 55) (k := l1.toNatClampNeg) (MZ.sj (n := 54) (k := l1.toNatClampNeg) (MZ.sj (n := 53) (k := l1.toNatClampNeg) (MZ.sj (n := 52) (k := l1.toNatClampNeg) (MZ.sj (n := 43) (k := 41) (MZ.sj (n := 43) (k := 40) (MZ.sj (n := 43) (k := 39) (MZ.sj (n := 43) (k := 38) (MZ.s42 (h) (v := ((I 43 42) + (1 : Int32))) (by omega)) (by omega)) (by omega)) (by omega)) (by omega)) (by omega)) (by omega)) (by omega)) (by omega)) (by omega)
theorem mMoment_176 {S : Nat × (Nat → Int32)} {d : Nat} {x : mX} {I0 : rI0} {J0 : rJ0} {R C : Int} {G : Int} {Q : rI0 → rJ0 → Prop} (k : ∀ I J, (MZ I0 J0 R C I J) → ((I 43 42).toInt = G + 1) → Q I J) : ∀ (l1 : Int32) (l2 : Int32) (I : rI0) (J : rJ0), (MZ I0 J0 R C I J) → (l1.toInt = G) → (0 ≤ G) → (G ≤ 600) → ((I 43 42).toInt = G) → wp S (d + 3) 200 176 [some (.ref 43), some (.int l1), some (.int l2), none, none, none, none, none, none, none, none, none, none, none, none, none, none, none, none, none, none, none, none] [] (wv x I J) (rV x Q) := by
  intro l1 l2 I J h e0 e1 e2 e3
  have bh := h.bnd
  refine v200_43_176 ?_
  have t1 : (0 : Int32).toInt = 0 := by decide
  exact mMoment_202 k _ l1 l2 (J 43 38) (J 43 39) ((0 : Int64)) ((0 : Int64)) ((0 : Int64)) ((0 : Int64)) ((0 : Int32)) I J rfl (h) (by omega) (by omega) (by omega) (by omega) (by omega) (by omega)
theorem mMoment_130 {S : Nat × (Nat → Int32)} {d : Nat} {x : mX} {I0 : rI0} {J0 : rJ0} {R C : Int} {G : Int} {Q : rI0 → rJ0 → Prop} {N7 : Nat} (k : ∀ I J, (MZ I0 J0 R C I J) → ((I 43 42).toInt = G + 1) → Q I J) (K7 : ∀ (l1 : Int32) (l2 : Int32) (I : rI0) (J : rJ0), (MZ I0 J0 R C I J) → ((30 - (I 43 43).toInt).toNat < N7) → (l1.toInt = G) → (0 ≤ G) → (G ≤ 600) → ((I 43 42).toInt = G) → wp S (d + 3) 200 7 [some (.ref 43), some (.int l1), some (.int l2), none, none, none, none, none, none, none, none, none, none, none, none, none, none, none, none, none, none, none, none] [] (wv x I J) (rV x Q)) : ∀ (l1 : Int32) (l2 : Int32) (l3 : Int32) (l4 : Int64) (s1 : Int64) (I : rI0) (J : rJ0), (MZ I0 J0 R C I J) → (l1.toInt = G) → (0 ≤ G) → (G ≤ 600) → ((I 43 42).toInt = G) → ((I 43 43).toInt < 30) → ((30 - (I 43 43).toInt).toNat ≤ N7) → wp S (d + 3) 200 130 [some (.ref 43), some (.int l1), some (.int l2), some (.int l3), some (.long l4), none, none, none, none, none, none, none, none, none, none, none, none, none, none, none, none, none, none] [.long s1, .ref 43] (wv x I J) (rV x Q) := by
  intro l1 l2 l3 l4 s1 I J h e0 e1 e2 e3 e4 a0
  have bh := h.bnd
  refine v200_43_130 ?_
  refine ⟨fun q1 => ?_, fun q1 => ?_⟩
  · have t3 : (1 : Int32).toInt = 1 := by decide
    have t4 : ((I 43 43) + (1 : Int32)).toInt = (I 43 43).toInt + 1 := i_add rfl t3 (by omega)
    have z5 : ((mSet I 43 43 ((I 43 43) + (1 : Int32))) 43 42).toInt = (I 43 42).toInt := rfl
    have z6 : ((mSet I 43 43 ((I 43 43) + (1 : Int32))) 43 43).toInt = ((I 43 43) + (1 : Int32)).toInt := rfl
    exact K7 l1 l2 (mSet I 43 43 ((I 43 43) + (1 : Int32))) (mSet (mSet J 43 36 s1) 43 37 ((J 43 37) ||| l4)) (MZ.sj (n := 43) (k := 37) (MZ.sj (n := 43) (k := 36) (MZ.s43 (h) (v := ((I 43 43) + (1 : Int32))) (by omega)) (by omega)) (by omega)) (by omega) (by omega) (by omega) (by omega) (by omega)
  · have t8 : (1 : Int32).toInt = 1 := by decide
    have t9 : ((I 43 43) + (1 : Int32)).toInt = (I 43 43).toInt + 1 := i_add rfl t8 (by omega)
    have z10 : ((mSet I 43 43 ((I 43 43) + (1 : Int32))) 43 42).toInt = (I 43 42).toInt := rfl
    have z11 : ((mSet I 43 43 ((I 43 43) + (1 : Int32))) 43 43).toInt = ((I 43 43) + (1 : Int32)).toInt := rfl
    exact K7 l1 l2 (mSet I 43 43 ((I 43 43) + (1 : Int32))) (mSet (mSet J 43 36 s1) 43 37 ((J 43 37) &&& (l4 ^^^ (-1 : Int64)))) (MZ.sj (n := 43) (k := 37) (MZ.sj (n := 43) (k := 36) (MZ.s43 (h) (v := ((I 43 43) + (1 : Int32))) (by omega)) (by omega)) (by omega)) (by omega) (by omega) (by omega) (by omega) (by omega)
theorem mMoment_103 {S : Nat × (Nat → Int32)} {d : Nat} {x : mX} {I0 : rI0} {J0 : rJ0} {R C : Int} {G : Int} {Q : rI0 → rJ0 → Prop} {N7 : Nat} (k : ∀ I J, (MZ I0 J0 R C I J) → ((I 43 42).toInt = G + 1) → Q I J) (K7 : ∀ (l1 : Int32) (l2 : Int32) (I : rI0) (J : rJ0), (MZ I0 J0 R C I J) → ((30 - (I 43 43).toInt).toNat < N7) → (l1.toInt = G) → (0 ≤ G) → (G ≤ 600) → ((I 43 42).toInt = G) → wp S (d + 3) 200 7 [some (.ref 43), some (.int l1), some (.int l2), none, none, none, none, none, none, none, none, none, none, none, none, none, none, none, none, none, none, none, none] [] (wv x I J) (rV x Q)) : ∀ (l1 : Int32) (l2 : Int32) (l3 : Int32) (l4 : Int64) (s0 : Int32) (I : rI0) (J : rJ0), (MZ I0 J0 R C I J) → (l1.toInt = G) → (0 ≤ G) → (G ≤ 600) → ((I 43 42).toInt = G) → ((I 43 43).toInt < 30) → ((30 - (I 43 43).toInt).toNat ≤ N7) → wp S (d + 3) 200 103 [some (.ref 43), some (.int l1), some (.int l2), some (.int l3), some (.long l4), none, none, none, none, none, none, none, none, none, none, none, none, none, none, none, none, none, none] [.int s0] (wv x I J) (rV x Q) := by
  intro l1 l2 l3 l4 s0 I J h e0 e1 e2 e3 e4 a0
  have bh := h.bnd
  refine v200_43_103 ?_
  refine ⟨fun q1 => ?_, fun q1 => ?_⟩
  · exact mMoment_130 k K7 l1 s0 l3 l4 ((J 43 36) ||| l4) I J (h) (by omega) (by omega) (by omega) (by omega) (by omega) (by omega)
  · exact mMoment_130 k K7 l1 s0 l3 l4 ((J 43 36) &&& (l4 ^^^ (-1 : Int64))) I J (h) (by omega) (by omega) (by omega) (by omega) (by omega) (by omega)
theorem mMoment_7 {S : Nat × (Nat → Int32)} {d : Nat} {x : mX} {I0 : rI0} {J0 : rJ0} {R C : Int} {G : Int} {Q : rI0 → rJ0 → Prop} (k : ∀ I J, (MZ I0 J0 R C I J) → ((I 43 42).toInt = G + 1) → Q I J) : ∀ (n : Nat) (l1 : Int32) (l2 : Int32) (I : rI0) (J : rJ0), ((30 - (I 43 43).toInt).toNat = n) → (MZ I0 J0 R C I J) → (l1.toInt = G) → (0 ≤ G) → (G ≤ 600) → ((I 43 42).toInt = G) → wp S (d + 3) 200 7 [some (.ref 43), some (.int l1), some (.int l2), none, none, none, none, none, none, none, none, none, none, none, none, none, none, none, none, none, none, none, none] [] (wv x I J) (rV x Q) := by
  refine lpn ?_
  intro n ih
  intro l1 l2 I J hm h e0 e1 e2 e3
  have bh := h.bnd
  refine v200_43_7 ?_
  have t1 : (590 : Int32).toInt = 590 := by decide
  refine ⟨?_, ?_⟩
  · exact i_in (e := (590 : Int32)) (A := 590) t1 (by omega)
  have w3 : (I 45 ((590 : Int32).toNatClampNeg)).toInt = (I 45 590).toInt := rfl
  refine ⟨fun q4 => ?_, fun q4 => ?_⟩
  · have c5 := i_lt q4
    have t6 : (591 : Int32).toInt = 591 := by decide
    have t7 : (3 : Int32).toInt = 3 := by decide
    have t8 : ((3 : Int32) * (I 43 43)).toInt = 3 * (I 43 43).toInt := i_mul t7 rfl (by omega)
    have t9 : ((591 : Int32) + ((3 : Int32) * (I 43 43))).toInt = 591 + (3 * (I 43 43).toInt) := i_add t6 t8 (by omega)
    refine ⟨?_, ?_⟩
    · exact i_in (e := ((591 : Int32) + ((3 : Int32) * (I 43 43)))) (A := (591 + (3 * (I 43 43).toInt))) t9 (by omega)
    refine ⟨fun q11 => ?_, fun q11 => ?_⟩
    · have c12 := i_eq q11
      have t13 : (1 : Int32).toInt = 1 := by decide
      have t14 : (((591 : Int32) + ((3 : Int32) * (I 43 43))) + (1 : Int32)).toInt = (591 + (3 * (I 43 43).toInt)) + 1 := i_add t9 t13 (by omega)
      refine ⟨?_, ?_⟩
      · exact i_in (e := (((591 : Int32) + ((3 : Int32) * (I 43 43))) + (1 : Int32))) (A := ((591 + (3 * (I 43 43).toInt)) + 1)) t14 (by omega)
      refine ⟨fun q16 => ?_, fun q16 => ?_⟩
      · have c17 := i_eq q16
        refine ⟨fun q18 => ?_, fun q18 => ?_⟩
        · have c19 := i_eq q18
          have t20 : (0 : Int32).toInt = 0 := by decide
          refine ⟨fun q21 => ?_, fun q21 => ?_⟩
          · have c22 := i_eq q21
            exact mMoment_103 k (fun l1_ l2_ I_ J_ h_ hlt f0_ f1_ f2_ f3_ => ih _ hlt l1_ l2_ I_ J_ rfl h_ f0_ f1_ f2_ f3_) l1 l2 (I 45 ((((591 : Int32) + ((3 : Int32) * (I 43 43))) + (1 : Int32)).toNatClampNeg)) ((0 : Int64)) ((1 : Int32)) I J (h) (by omega) (by omega) (by omega) (by omega) (by omega) (by omega)
          · have c23 := i_ne q21
            exact mMoment_103 k (fun l1_ l2_ I_ J_ h_ hlt f0_ f1_ f2_ f3_ => ih _ hlt l1_ l2_ I_ J_ rfl h_ f0_ f1_ f2_ f3_) l1 l2 (I 45 ((((591 : Int32) + ((3 : Int32) * (I 43 43))) + (1 : Int32)).toNatClampNeg)) ((0 : Int64)) ((0 : Int32)) I J (h) (by omega) (by omega) (by omega) (by omega) (by omega) (by omega)
        · have c24 := i_ne q18
          have t25 : (0 : Int32).toInt = 0 := by decide
          exact mMoment_103 k (fun l1_ l2_ I_ J_ h_ hlt f0_ f1_ f2_ f3_ => ih _ hlt l1_ l2_ I_ J_ rfl h_ f0_ f1_ f2_ f3_) l1 l2 (I 45 ((((591 : Int32) + ((3 : Int32) * (I 43 43))) + (1 : Int32)).toNatClampNeg)) ((0 : Int64)) ((1 : Int32)) I J (h) (by omega) (by omega) (by omega) (by omega) (by omega) (by omega)
      · have c26 := i_ne q16
        have t27 : (2 : Int32).toInt = 2 := by decide
        have t28 : (((591 : Int32) + ((3 : Int32) * (I 43 43))) + (2 : Int32)).toInt = (591 + (3 * (I 43 43).toInt)) + 2 := i_add t9 t27 (by omega)
        refine ⟨?_, ?_⟩
        · exact i_in (e := (((591 : Int32) + ((3 : Int32) * (I 43 43))) + (2 : Int32))) (A := ((591 + (3 * (I 43 43).toInt)) + 2)) t28 (by omega)
        refine ⟨fun q30 => ?_, fun q30 => ?_⟩
        · have c31 := i_eq q30
          have t32 : (0 : Int32).toInt = 0 := by decide
          refine ⟨fun q33 => ?_, fun q33 => ?_⟩
          · have c34 := i_eq q33
            exact mMoment_103 k (fun l1_ l2_ I_ J_ h_ hlt f0_ f1_ f2_ f3_ => ih _ hlt l1_ l2_ I_ J_ rfl h_ f0_ f1_ f2_ f3_) l1 l2 (I 45 ((((591 : Int32) + ((3 : Int32) * (I 43 43))) + (1 : Int32)).toNatClampNeg)) ((1 : Int64) <<< ((I 45 ((((591 : Int32) + ((3 : Int32) * (I 43 43))) + (2 : Int32)).toNatClampNeg)).toInt64 &&& 63)) ((1 : Int32)) I J (h) (by omega) (by omega) (by omega) (by omega) (by omega) (by omega)
          · have c35 := i_ne q33
            exact mMoment_103 k (fun l1_ l2_ I_ J_ h_ hlt f0_ f1_ f2_ f3_ => ih _ hlt l1_ l2_ I_ J_ rfl h_ f0_ f1_ f2_ f3_) l1 l2 (I 45 ((((591 : Int32) + ((3 : Int32) * (I 43 43))) + (1 : Int32)).toNatClampNeg)) ((1 : Int64) <<< ((I 45 ((((591 : Int32) + ((3 : Int32) * (I 43 43))) + (2 : Int32)).toNatClampNeg)).toInt64 &&& 63)) ((0 : Int32)) I J (h) (by omega) (by omega) (by omega) (by omega) (by omega) (by omega)
        · have c36 := i_ne q30
          have t37 : (0 : Int32).toInt = 0 := by decide
          exact mMoment_103 k (fun l1_ l2_ I_ J_ h_ hlt f0_ f1_ f2_ f3_ => ih _ hlt l1_ l2_ I_ J_ rfl h_ f0_ f1_ f2_ f3_) l1 l2 (I 45 ((((591 : Int32) + ((3 : Int32) * (I 43 43))) + (1 : Int32)).toNatClampNeg)) ((1 : Int64) <<< ((I 45 ((((591 : Int32) + ((3 : Int32) * (I 43 43))) + (2 : Int32)).toNatClampNeg)).toInt64 &&& 63)) ((1 : Int32)) I J (h) (by omega) (by omega) (by omega) (by omega) (by omega) (by omega)
    · have c38 := i_ne q11
      exact mMoment_176 k l1 l2 I J (h) (by omega) (by omega) (by omega) (by omega)
  · have c39 := i_nlt q4
    exact mMoment_176 k l1 l2 I J (h) (by omega) (by omega) (by omega) (by omega)
theorem mMoment {S : Nat × (Nat → Int32)} {d : Nat} {x : mX} {I0 : rI0} {J0 : rJ0} {R C : Int} {G : Int} {I : rI0} {J : rJ0} {Q : rI0 → rJ0 → Prop} (h : MZ I0 J0 R C I J) (hp : (I 43 42).toInt = G ∧ G ≤ 600) (k : ∀ I J, (MZ I0 J0 R C I J) → ((I 43 42).toInt = G + 1) → Q I J) : wcV S (d + 3) 200 [.ref 43] x I J Q := by
  have bh := h.bnd
  refine c200_43 ?_
  exact mMoment_7 k _ (I 43 42) ((0 : Int32)) I J rfl (h) (by omega) (by omega) (by omega) (by omega)
theorem mNight_12 {S : Nat × (Nat → Int32)} {d : Nat} {x : mX} {I0 : rI0} {J0 : rJ0} {R C : Int} {Q : rI0 → rJ0 → Prop} (k : ∀ I J, (MZ I0 J0 R C I J) → Q I J) : ∀ (n : Nat) (l1 : Int32) (I : rI0) (J : rJ0), ((601 - (I 43 42).toInt).toNat = n) → (MZ I0 J0 R C I J) → (l1.toInt ≤ 600) → wp S (d + 5) 201 12 [some (.ref 43), some (.int l1)] [] (wv x I J) (rV x Q) := by
  refine lpn ?_
  intro n ih
  intro l1 I J hm h e0
  have bh := h.bnd
  refine v201_43_12 ?_
  refine ⟨fun q1 => ?_, fun q1 => ?_⟩
  · have c2 := i_lt q1
    exact k _ _ (h)
  · have c3 := i_nlt q1
    refine mMoment (h) ⟨rfl, by omega⟩ ?_
    intro I1 J1 h1 g1a
    have bh1 := h1.bnd
    exact ih _ (by omega) l1 I1 J1 rfl (h1) (by omega)
theorem mNight {S : Nat × (Nat → Int32)} {d : Nat} {x : mX} {I0 : rI0} {J0 : rJ0} {R C : Int} {I : rI0} {J : rJ0} {p1 : Int32} {Q : rI0 → rJ0 → Prop} (h : MZ I0 J0 R C I J) (hp : p1.toInt ≤ 600) (k : ∀ I J, (MZ I0 J0 R C I J) → Q I J) : wcV S (d + 5) 201 [.ref 43, .int p1] x I J Q := by
  have bh := h.bnd
  refine c201_43 ?_
  refine mBegin (h) ?_
  intro I1 J1 h1 g1a
  have bh1 := h1.bnd
  exact mNight_12 k _ p1 I1 J1 rfl (h1) (by omega)
theorem mHeight_11 {S : Nat × (Nat → Int32)} {d : Nat} {x : mX} {I0 : rI0} {J0 : rJ0} {R C : Int} {Q : Int32 → rI0 → rJ0 → Prop} (k : ∀ r I J, (MZ I0 J0 R C I J) → Q r I J) : ∀ (n : Nat) (l1 : Int64) (l3 : Int64) (I : rI0) (J : rJ0), ((601 - (I 43 42).toInt).toNat = n) → (MZ I0 J0 R C I J) → wp S (d + 5) 202 11 [some (.ref 43), some (.long l1), none, some (.long l3), none, none] [] (wv x I J) (rI x Q) := by
  refine lpn ?_
  intro n ih
  intro l1 l3 I J hm h
  have bh := h.bnd
  refine v202_43_11 ?_
  refine ⟨fun q1 => ?_, fun q1 => ?_⟩
  · have c2 := i_lt q1
    have t3 : (60 : Int32).toInt = 60 := by decide
    have t4 : (3 : Int32).toInt = 3 := by decide
    refine ⟨?_, ?_⟩
    · exact i_in (e := (3 : Int32)) (A := 3) t4 (by omega)
    have w6 : (I 45 ((3 : Int32).toNatClampNeg)).toInt = (I 45 3).toInt := rfl
    refine ⟨fun q7 => ?_, fun q7 => ?_⟩
    · exact k _ _ _ (MZ.si (n := 43) (k := 45) (h) (by omega))
    · exact k _ _ _ (MZ.si (n := 43) (k := 45) (h) (by omega))
  · have c10 := i_nlt q1
    have t11 : (60 : Int32).toInt = 60 := by decide
    refine mMoment (h) ⟨rfl, by omega⟩ ?_
    intro I1 J1 h1 g1a
    have bh1 := h1.bnd
    refine mBits  ?_
    intro r2 g2a
    refine ⟨fun q12 => ?_, fun q12 => ?_⟩
    · have z14 : ((mSet I1 43 44 r2) 43 42).toInt = (I1 43 42).toInt := rfl
      exact ih _ (by omega) l1 l3 (mSet I1 43 44 r2) J1 rfl (MZ.si (n := 43) (k := 44) (h1) (by omega))
    · have z16 : ((mSet I1 43 44 (I1 43 44)) 43 42).toInt = (I1 43 42).toInt := rfl
      exact ih _ (by omega) l1 l3 (mSet I1 43 44 (I1 43 44)) J1 rfl (MZ.si (n := 43) (k := 44) (h1) (by omega))
theorem mHeight {S : Nat × (Nat → Int32)} {d : Nat} {x : mX} {I0 : rI0} {J0 : rJ0} {R C : Int} {I : rI0} {J : rJ0} {p1 : Int64} {p2 : Int64} {Q : Int32 → rI0 → rJ0 → Prop} (h : MZ I0 J0 R C I J) (k : ∀ r I J, (MZ I0 J0 R C I J) → Q r I J) : wcI S (d + 5) 202 [.ref 43, .long p1, .long p2] x I J Q := by
  have bh := h.bnd
  refine c202_43 ?_
  refine mBegin (h) ?_
  intro I1 J1 h1 g1a
  have bh1 := h1.bnd
  have z1 : ((mSet I1 43 44 (0 : Int32)) 43 42).toInt = (I1 43 42).toInt := rfl
  exact mHeight_11 k _ p1 p2 (mSet I1 43 44 (0 : Int32)) J1 rfl (MZ.si (n := 43) (k := 44) (h1) (by omega))
end MN1
