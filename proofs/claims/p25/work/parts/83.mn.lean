section MN1
theorem mLawLv_61 {S : Nat × (Nat → Int32)} {d : Nat} {x : mX} {I0 : rI0} {J0 : rJ0} {Tl : Int32 × Option Int32} {R C K A : Int} {g : Nat → Int32} {G : Int} {Q : Int32 → rI0 → rJ0 → Prop} (k : ∀ r I J, (Mk_ I0 J0 Tl R C K A g I J) → ((I 43 42).toInt = G) → Q r I J) : ∀ (l1 : Int32) (l2 : Int64) (l4 : Int64) (l6 : Int32) (l7 : Int32) (l8 : Int32) (I : rI0) (J : rJ0), (Mk_ I0 J0 Tl R C K A g I J) → (0 ≤ l1.toInt) → (l1.toInt < 64) → (86 ≤ l8.toInt) → (l8.toInt ≤ 506) → ((l8.toInt - 86) % 84 = 0) → ((I 43 42).toInt = G) → wp S (d + 2) 198 61 [some (.ref 43), some (.int l1), some (.long l2), none, some (.long l4), none, some (.int l6), some (.int l7), some (.int l8)] [] (wv x I J) (rI x Q) := by
  intro l1 l2 l4 l6 l7 l8 I J h e0 e1 e2 e3 e4 e5
  have bh := h.bnd
  refine v198_43_61 ?_
  have t1 : TI (42 : Int32) (42) := show (42 : Int32).toInt = 42 by decide
  have t2 : TI (l8 + (42 : Int32)) (l8.toInt + 42) := ti_add ti_r t1 (by omega)
  refine ⟨?_, ?_⟩
  · exact jj_in (e := (l8 + (42 : Int32))) (A := (l8.toInt + 42)) t2 (by omega)
  have t3 : TI (0 : Int32) (0) := show (0 : Int32).toInt = 0 by decide
  refine ⟨fun q4 => ?_, fun q4 => ?_⟩
  · have c5 := j_lt q4 t3 (ti_r (e := (I 45 ((l8 + (42 : Int32)).toNatClampNeg))))
    refine kIsLaw (h) (by (try simp only [t2.o, true_or, or_true, true_and, and_true]); first | done | omega) ?_
    intro r1 I1 J1 h1 g1a g1b
    try simp only [t2.o] at g1a g1b
    have bh1 := h1.bnd
    have y1 := congrArg Int32.toInt (congrFun (g1b.1 43 (by decide)) 42)
    refine ⟨fun q6 => ?_, fun q6 => ?_⟩
    · have c7 := j_eq q6 (ti_r (e := r1)) t3
      exact k _ _ _ (h1) (by omega)
    · have c8 := j_ne q6 (ti_r (e := r1)) t3
      refine ⟨fun q9 => ?_, fun q9 => ?_⟩
      · exact k _ _ _ (h1) (by omega)
      · exact k _ _ _ (h1) (by (try simp only [t3.o, true_or, or_true, true_and, and_true]); first | done | omega)
  · have c10 := j_nlt q4 t3 (ti_r (e := (I 45 ((l8 + (42 : Int32)).toNatClampNeg))))
    exact k _ _ _ (h) (by omega)
theorem mLawLv {S : Nat × (Nat → Int32)} {d : Nat} {x : mX} {I0 : rI0} {J0 : rJ0} {Tl : Int32 × Option Int32} {R C K A : Int} {g : Nat → Int32} {G : Int} {I : rI0} {J : rJ0} {p1 : Int32} {p2 : Int64} {p3 : Int64} {p4 : Int32} {p5 : Int32} {Q : Int32 → rI0 → rJ0 → Prop} (h : Mk_ I0 J0 Tl R C K A g I J) (hp : 0 ≤ p1.toInt ∧ p1.toInt < 64 ∧ 1 ≤ (I 45 ((6 : Int32) + p1).toNatClampNeg).toInt) (hg : (I 43 42).toInt = G) (k : ∀ r I J, (Mk_ I0 J0 Tl R C K A g I J) → ((I 43 42).toInt = G) → Q r I J) : wcI S (d + 2) 198 [.ref 43, .int p1, .long p2, .long p3, .int p4, .int p5] x I J Q := by
  have bh := h.bnd
  refine c198_43 ?_
  have t1 : TI (6 : Int32) (6) := show (6 : Int32).toInt = 6 by decide
  have t2 : TI ((6 : Int32) + p1) (6 + p1.toInt) := ti_add t1 ti_r (by omega)
  refine ⟨?_, ?_⟩
  · exact jj_in (e := ((6 : Int32) + p1)) (A := (6 + p1.toInt)) t2 (by omega)
  have w3 := Mz_.kt h.1 (e := ((6 : Int32) + p1)) (A := (6 + p1.toInt)) t2 (by omega)
  have t4 : TI (86 : Int32) (86) := show (86 : Int32).toInt = 86 by decide
  have t5 : TI (84 : Int32) (84) := show (84 : Int32).toInt = 84 by decide
  have t6 : TI (1 : Int32) (1) := show (1 : Int32).toInt = 1 by decide
  have t7 : TI ((I 45 (((6 : Int32) + p1).toNatClampNeg)) - (1 : Int32)) ((I 45 (((6 : Int32) + p1).toNatClampNeg)).toInt - 1) := ti_sub ti_r t6 (by omega)
  have t8 : TI ((84 : Int32) * ((I 45 (((6 : Int32) + p1).toNatClampNeg)) - (1 : Int32))) (84 * ((I 45 (((6 : Int32) + p1).toNatClampNeg)).toInt - 1)) := ti_mul t5 t7 (by omega)
  have t9 : TI ((86 : Int32) + ((84 : Int32) * ((I 45 (((6 : Int32) + p1).toNatClampNeg)) - (1 : Int32)))) (86 + (84 * ((I 45 (((6 : Int32) + p1).toNatClampNeg)).toInt - 1))) := ti_add t4 t8 (by omega)
  refine ⟨?_, ?_⟩
  · exact jj_in (e := ((86 : Int32) + ((84 : Int32) * ((I 45 (((6 : Int32) + p1).toNatClampNeg)) - (1 : Int32))))) (A := (86 + (84 * ((I 45 (((6 : Int32) + p1).toNatClampNeg)).toInt - 1)))) t9 (by omega)
  have t10 : TI (0 : Int32) (0) := show (0 : Int32).toInt = 0 by decide
  refine ⟨fun q11 => ?_, fun q11 => ?_⟩
  · have c12 := j_lt q11 t10 (ti_r (e := (I 45 (((86 : Int32) + ((84 : Int32) * ((I 45 (((6 : Int32) + p1).toNatClampNeg)) - (1 : Int32)))).toNatClampNeg))))
    refine kIsLaw (h) (by (try simp only [t9.o, true_or, or_true, true_and, and_true]); first | done | omega) ?_
    intro r1 I1 J1 h1 g1a g1b
    try simp only [t9.o] at g1a g1b
    have bh1 := h1.bnd
    have y1 := congrArg Int32.toInt (congrFun (g1b.1 43 (by decide)) 42)
    refine ⟨fun q13 => ?_, fun q13 => ?_⟩
    · have c14 := j_eq q13 (ti_r (e := r1)) t10
      exact mLawLv_61 k p1 p2 p3 p4 p5 ((86 : Int32) + ((84 : Int32) * ((I 45 (((6 : Int32) + p1).toNatClampNeg)) - (1 : Int32)))) I1 J1 (h1) (by (try simp only [t9.o, true_or, or_true, true_and, and_true]); first | done | omega) (by (try simp only [t9.o, true_or, or_true, true_and, and_true]); first | done | omega) (by (try simp only [t9.o, true_or, or_true, true_and, and_true]); first | done | omega) (by (try simp only [t9.o, true_or, or_true, true_and, and_true]); first | done | omega) (by (try simp only [t9.o, true_or, or_true, true_and, and_true]); first | done | omega) (by (try simp only [t9.o, true_or, or_true, true_and, and_true]); first | done | omega)
    · have c15 := j_ne q13 (ti_r (e := r1)) t10
      refine ⟨fun q16 => ?_, fun q16 => ?_⟩
      · exact k _ _ _ (h1) (by omega)
      · have t17 : TI (2 : Int32) (2) := show (2 : Int32).toInt = 2 by decide
        exact k _ _ _ (h1) (by (try simp only [t17.o, true_or, or_true, true_and, and_true]); first | done | omega)
  · have c18 := j_nlt q11 t10 (ti_r (e := (I 45 (((86 : Int32) + ((84 : Int32) * ((I 45 (((6 : Int32) + p1).toNatClampNeg)) - (1 : Int32)))).toNatClampNeg))))
    exact mLawLv_61 k p1 p2 p3 p4 p5 ((86 : Int32) + ((84 : Int32) * ((I 45 (((6 : Int32) + p1).toNatClampNeg)) - (1 : Int32)))) I J (h) (by (try simp only [t9.o, true_or, or_true, true_and, and_true]); first | done | omega) (by (try simp only [t9.o, true_or, or_true, true_and, and_true]); first | done | omega) (by (try simp only [t9.o, true_or, or_true, true_and, and_true]); first | done | omega) (by (try simp only [t9.o, true_or, or_true, true_and, and_true]); first | done | omega) (by (try simp only [t9.o, true_or, or_true, true_and, and_true]); first | done | omega) (by (try simp only [t9.o, true_or, or_true, true_and, and_true]); first | done | omega)
theorem kBegin {S : Nat × (Nat → Int32)} {d : Nat} {x : mX} {I0 : rI0} {J0 : rJ0} {Tl : Int32 × Option Int32} {R C K A : Int} {g : Nat → Int32} {I : rI0} {J : rJ0} {p1 : Int64} {p2 : Int64} {Q : rI0 → rJ0 → Prop} (h : Mk_ I0 J0 Tl R C K A g I J) (k : ∀ I J, (Mk_ I0 J0 Tl R C K A g I J) → ((I 43 42).toInt = 0) → Q I J) : wcV S (d + 4) 199 [.ref 43, .long p1, .long p2] x I J Q := by
  have bh := h.bnd
  refine c199_43 ?_
  refine mLay (h) ?_
  intro I1 J1 h1
  have bh1 := h1.bnd
  have t1 : TI (0 : Int32) (0) := show (0 : Int32).toInt = 0 by decide
  have z2 : TI ((mSet (mSet I1 43 42 (0 : Int32)) 43 43 (0 : Int32)) 43 42) 0 := (t1 : TI (0 : Int32) 0)
  exact k _ _ (Mk_.sj (n := 43) (k := 41) (Mk_.sj (n := 43) (k := 40) (Mk_.sj (n := 43) (k := 39) (Mk_.sj (n := 43) (k := 38) (Mk_.sj (n := 43) (k := 37) (Mk_.sj (n := 43) (k := 36) (Mk_.s43 (Mk_.s42 (h1) (v := ((0 : Int32))) (by (try simp only [t1.o, true_or, or_true, true_and, and_true]); first | done | omega)) (v := ((0 : Int32))) (by (try simp only [t1.o, true_or, or_true, true_and, and_true]); first | done | omega)) (by decide)) (by decide)) (by decide)) (by decide)) (by decide)) (by decide)) (by (try simp only [z2.o, true_or, or_true, true_and, and_true]); first | done | omega)
theorem kMoment_548 {S : Nat × (Nat → Int32)} {d : Nat} {x : mX} {I0 : rI0} {J0 : rJ0} {Tl : Int32 × Option Int32} {R C K A : Int} {g : Nat → Int32} {G : Int} {Q : rI0 → rJ0 → Prop} {N202 : Nat} (k : ∀ I J, (Mk_ I0 J0 Tl R C K A g I J) → ((I 43 42).toInt = G + 1) → Q I J) (K202 : ∀ (l1 : Int32) (l2 : Int32) (l3 : Int64) (l5 : Int64) (l7 : Int64) (l9 : Int64) (l11 : Int64) (l13 : Int64) (l15 : Int32) (I : rI0) (J : rJ0), (Mk_ I0 J0 Tl R C K A g I J) → ((8 - l15.toInt).toNat < N202) → (l1.toInt = G) → (0 ≤ G) → (G ≤ 600) → ((I 43 42).toInt = G) → (0 ≤ l15.toInt) → (l15.toInt ≤ 8) → wp S (d + 3) 200 202 [some (.ref 43), some (.int l1), some (.int l2), some (.long l3), none, some (.long l5), none, some (.long l7), none, some (.long l9), none, some (.long l11), none, some (.long l13), none, some (.int l15), none, none, none, none, none, none, none] [] (wv x I J) (rV x Q)) : ∀ (l1 : Int32) (l2 : Int32) (l3 : Int64) (l5 : Int64) (l7 : Int64) (l9 : Int64) (l11 : Int64) (l13 : Int64) (l15 : Int32) (l16 : Int32) (l17 : Int32) (s0 : Int64) (I : rI0) (J : rJ0), (Mk_ I0 J0 Tl R C K A g I J) → (l1.toInt = G) → (0 ≤ G) → (G ≤ 600) → ((I 43 42).toInt = G) → (0 ≤ l15.toInt) → (l15.toInt < R) → (Nle (8 - l15.toInt).toNat N202) → wp S (d + 3) 200 548 [some (.ref 43), some (.int l1), some (.int l2), some (.long l3), none, some (.long l5), none, some (.long l7), none, some (.long l9), none, some (.long l11), none, some (.long l13), none, some (.int l15), some (.int l16), some (.int l17), none, none, none, none, none] [.long s0] (wv x I J) (rV x Q) := by
  intro l1 l2 l3 l5 l7 l9 l11 l13 l15 l16 l17 s0 I J h e0 e1 e2 e3 e4 e5 a0
  have bh := h.bnd
  refine v200_43_548 ?_
  have t1 : TI (1 : Int32) (1) := show (1 : Int32).toInt = 1 by decide
  have t2 : TI (l15 + (1 : Int32)) (l15.toInt + 1) := ti_add ti_r t1 (by omega)
  exact K202 l1 l2 ((l7 &&& s0) ||| ((J 43 38) &&& (s0 ^^^ (-1 : Int64)))) ((l9 &&& s0) ||| ((J 43 39) &&& (s0 ^^^ (-1 : Int64)))) l7 l9 l11 l13 (l15 + (1 : Int32)) I J (h) (mlt a0 (by (try simp only [t2.o, true_or, or_true, true_and, and_true]); first | done | omega) (by omega)) (by (try simp only [t2.o, true_or, or_true, true_and, and_true]); first | done | omega) (by (try simp only [t2.o, true_or, or_true, true_and, and_true]); first | done | omega) (by (try simp only [t2.o, true_or, or_true, true_and, and_true]); first | done | omega) (by (try simp only [t2.o, true_or, or_true, true_and, and_true]); first | done | omega) (by (try simp only [t2.o, true_or, or_true, true_and, and_true]); first | done | omega) (by (try simp only [t2.o, true_or, or_true, true_and, and_true]); first | done | omega)
theorem kMoment_478 {S : Nat × (Nat → Int32)} {d : Nat} {x : mX} {I0 : rI0} {J0 : rJ0} {Tl : Int32 × Option Int32} {R C K A : Int} {g : Nat → Int32} {G : Int} {Q : rI0 → rJ0 → Prop} {N260 : Nat} {N202 : Nat} (k : ∀ I J, (Mk_ I0 J0 Tl R C K A g I J) → ((I 43 42).toInt = G + 1) → Q I J) (K260 : ∀ (l1 : Int32) (l2 : Int32) (l3 : Int64) (l5 : Int64) (l7 : Int64) (l9 : Int64) (l11 : Int64) (l13 : Int64) (l15 : Int32) (l16 : Int32) (l17 : Int32) (I : rI0) (J : rJ0), (Mk_ I0 J0 Tl R C K A g I J) → ((64 - l17.toInt).toNat < N260) → (l1.toInt = G) → (0 ≤ G) → (G ≤ 600) → ((I 43 42).toInt = G) → (0 ≤ l15.toInt) → (l15.toInt < R) → (0 ≤ l17.toInt) → (l17.toInt ≤ 64) → (Nle (8 - l15.toInt).toNat N202) → wp S (d + 3) 200 260 [some (.ref 43), some (.int l1), some (.int l2), some (.long l3), none, some (.long l5), none, some (.long l7), none, some (.long l9), none, some (.long l11), none, some (.long l13), none, some (.int l15), some (.int l16), some (.int l17), none, none, none, none, none] [] (wv x I J) (rV x Q)) : ∀ (l1 : Int32) (l2 : Int32) (l3 : Int64) (l5 : Int64) (l7 : Int64) (l9 : Int64) (l11 : Int64) (l13 : Int64) (l15 : Int32) (l16 : Int32) (l17 : Int32) (l18 : Int64) (l20 : Int32) (l21 : Int32) (l22 : Int32) (s0 : Int64) (s1 : Int64) (I : rI0) (J : rJ0), (Mk_ I0 J0 Tl R C K A g I J) → (l1.toInt = G) → (0 ≤ G) → (G ≤ 600) → ((I 43 42).toInt = G) → (0 ≤ l15.toInt) → (l15.toInt < R) → (0 ≤ l17.toInt) → (l17.toInt < 64) → (Nle (64 - l17.toInt).toNat N260) → (Nle (8 - l15.toInt).toNat N202) → wp S (d + 3) 200 478 [some (.ref 43), some (.int l1), some (.int l2), some (.long l3), none, some (.long l5), none, some (.long l7), none, some (.long l9), none, some (.long l11), none, some (.long l13), none, some (.int l15), some (.int l16), some (.int l17), some (.long l18), none, some (.int l20), some (.int l21), some (.int l22)] [.long s1, .long s0] (wv x I J) (rV x Q) := by
  intro l1 l2 l3 l5 l7 l9 l11 l13 l15 l16 l17 l18 l20 l21 l22 s0 s1 I J h e0 e1 e2 e3 e4 e5 e6 e7 a0 a1
  have bh := h.bnd
  refine v200_43_478 ?_
  refine ⟨fun q1 => ?_, fun q1 => ?_⟩
  · have t2 : TI (1 : Int32) (1) := show (1 : Int32).toInt = 1 by decide
    have t3 : TI (l17 + (1 : Int32)) (l17.toInt + 1) := ti_add ti_r t2 (by omega)
    exact K260 l1 l2 l3 l5 l7 l9 (s0 ||| s1) (l13 ||| l18) l15 l16 (l17 + (1 : Int32)) I J (h) (mlt a0 (by (try simp only [t3.o, true_or, or_true, true_and, and_true]); first | done | omega) (by omega)) (by (try simp only [t3.o, true_or, or_true, true_and, and_true]); first | done | omega) (by (try simp only [t3.o, true_or, or_true, true_and, and_true]); first | done | omega) (by (try simp only [t3.o, true_or, or_true, true_and, and_true]); first | done | omega) (by (try simp only [t3.o, true_or, or_true, true_and, and_true]); first | done | omega) (by (try simp only [t3.o, true_or, or_true, true_and, and_true]); first | done | omega) (by (try simp only [t3.o, true_or, or_true, true_and, and_true]); first | done | omega) (by (try simp only [t3.o, true_or, or_true, true_and, and_true]); first | done | omega) (by (try simp only [t3.o, true_or, or_true, true_and, and_true]); first | done | omega) (mle a1 (by (try simp only [t3.o, true_or, or_true, true_and, and_true]); first | done | omega))
  · have t4 : TI (1 : Int32) (1) := show (1 : Int32).toInt = 1 by decide
    have t5 : TI (l17 + (1 : Int32)) (l17.toInt + 1) := ti_add ti_r t4 (by omega)
    exact K260 l1 l2 l3 l5 l7 l9 (s0 ||| s1) (l13 ||| (0 : Int64)) l15 l16 (l17 + (1 : Int32)) I J (h) (mlt a0 (by (try simp only [t5.o, true_or, or_true, true_and, and_true]); first | done | omega) (by omega)) (by (try simp only [t5.o, true_or, or_true, true_and, and_true]); first | done | omega) (by (try simp only [t5.o, true_or, or_true, true_and, and_true]); first | done | omega) (by (try simp only [t5.o, true_or, or_true, true_and, and_true]); first | done | omega) (by (try simp only [t5.o, true_or, or_true, true_and, and_true]); first | done | omega) (by (try simp only [t5.o, true_or, or_true, true_and, and_true]); first | done | omega) (by (try simp only [t5.o, true_or, or_true, true_and, and_true]); first | done | omega) (by (try simp only [t5.o, true_or, or_true, true_and, and_true]); first | done | omega) (by (try simp only [t5.o, true_or, or_true, true_and, and_true]); first | done | omega) (mle a1 (by (try simp only [t5.o, true_or, or_true, true_and, and_true]); first | done | omega))
theorem kMoment_442 {S : Nat × (Nat → Int32)} {d : Nat} {x : mX} {I0 : rI0} {J0 : rJ0} {Tl : Int32 × Option Int32} {R C K A : Int} {g : Nat → Int32} {G : Int} {Q : rI0 → rJ0 → Prop} {N260 : Nat} {N202 : Nat} (k : ∀ I J, (Mk_ I0 J0 Tl R C K A g I J) → ((I 43 42).toInt = G + 1) → Q I J) (K260 : ∀ (l1 : Int32) (l2 : Int32) (l3 : Int64) (l5 : Int64) (l7 : Int64) (l9 : Int64) (l11 : Int64) (l13 : Int64) (l15 : Int32) (l16 : Int32) (l17 : Int32) (I : rI0) (J : rJ0), (Mk_ I0 J0 Tl R C K A g I J) → ((64 - l17.toInt).toNat < N260) → (l1.toInt = G) → (0 ≤ G) → (G ≤ 600) → ((I 43 42).toInt = G) → (0 ≤ l15.toInt) → (l15.toInt < R) → (0 ≤ l17.toInt) → (l17.toInt ≤ 64) → (Nle (8 - l15.toInt).toNat N202) → wp S (d + 3) 200 260 [some (.ref 43), some (.int l1), some (.int l2), some (.long l3), none, some (.long l5), none, some (.long l7), none, some (.long l9), none, some (.long l11), none, some (.long l13), none, some (.int l15), some (.int l16), some (.int l17), none, none, none, none, none] [] (wv x I J) (rV x Q)) : ∀ (l1 : Int32) (l2 : Int32) (l3 : Int64) (l5 : Int64) (l7 : Int64) (l9 : Int64) (l11 : Int64) (l13 : Int64) (l15 : Int32) (l16 : Int32) (l17 : Int32) (l18 : Int64) (l20 : Int32) (l21 : Int32) (l22 : Int32) (s0 : Int64) (s1 : Int64) (I : rI0) (J : rJ0), (Mk_ I0 J0 Tl R C K A g I J) → (l1.toInt = G) → (0 ≤ G) → (G ≤ 600) → ((I 43 42).toInt = G) → (0 ≤ l15.toInt) → (l15.toInt < R) → (0 ≤ l17.toInt) → (l17.toInt < 64) → (Nle (64 - l17.toInt).toNat N260) → (Nle (8 - l15.toInt).toNat N202) → wp S (d + 3) 200 442 [some (.ref 43), some (.int l1), some (.int l2), some (.long l3), none, some (.long l5), none, some (.long l7), none, some (.long l9), none, some (.long l11), none, some (.long l13), none, some (.int l15), some (.int l16), some (.int l17), some (.long l18), none, some (.int l20), some (.int l21), some (.int l22)] [.long s1, .long s0] (wv x I J) (rV x Q) := by
  intro l1 l2 l3 l5 l7 l9 l11 l13 l15 l16 l17 l18 l20 l21 l22 s0 s1 I J h e0 e1 e2 e3 e4 e5 e6 e7 a0 a1
  have bh := h.bnd
  refine v200_43_442 ?_
  refine ⟨fun q1 => ?_, fun q1 => ?_⟩
  · refine ⟨fun q2 => ?_, fun q2 => ?_⟩
    · exact kMoment_478 k K260 l1 l2 l3 l5 (s0 ||| s1) (l9 ||| l18) l11 l13 l15 l16 l17 l18 l20 l21 l22 l11 l18 I J (h) (by omega) (by omega) (by omega) (by omega) (by omega) (by omega) (by omega) (by omega) (mle a0 (by omega)) (mle a1 (by omega))
    · exact kMoment_478 k K260 l1 l2 l3 l5 (s0 ||| s1) (l9 ||| l18) l11 l13 l15 l16 l17 l18 l20 l21 l22 l11 ((0 : Int64)) I J (h) (by omega) (by omega) (by omega) (by omega) (by omega) (by omega) (by omega) (by omega) (mle a0 (by omega)) (mle a1 (by omega))
  · refine ⟨fun q3 => ?_, fun q3 => ?_⟩
    · exact kMoment_478 k K260 l1 l2 l3 l5 (s0 ||| s1) (l9 ||| (0 : Int64)) l11 l13 l15 l16 l17 l18 l20 l21 l22 l11 l18 I J (h) (by omega) (by omega) (by omega) (by omega) (by omega) (by omega) (by omega) (by omega) (mle a0 (by omega)) (mle a1 (by omega))
    · exact kMoment_478 k K260 l1 l2 l3 l5 (s0 ||| s1) (l9 ||| (0 : Int64)) l11 l13 l15 l16 l17 l18 l20 l21 l22 l11 ((0 : Int64)) I J (h) (by omega) (by omega) (by omega) (by omega) (by omega) (by omega) (by omega) (by omega) (mle a0 (by omega)) (mle a1 (by omega))
theorem kMoment_390 {S : Nat × (Nat → Int32)} {d : Nat} {x : mX} {I0 : rI0} {J0 : rJ0} {Tl : Int32 × Option Int32} {R C K A : Int} {g : Nat → Int32} {G : Int} {Q : rI0 → rJ0 → Prop} {N260 : Nat} {N202 : Nat} (k : ∀ I J, (Mk_ I0 J0 Tl R C K A g I J) → ((I 43 42).toInt = G + 1) → Q I J) (K260 : ∀ (l1 : Int32) (l2 : Int32) (l3 : Int64) (l5 : Int64) (l7 : Int64) (l9 : Int64) (l11 : Int64) (l13 : Int64) (l15 : Int32) (l16 : Int32) (l17 : Int32) (I : rI0) (J : rJ0), (Mk_ I0 J0 Tl R C K A g I J) → ((64 - l17.toInt).toNat < N260) → (l1.toInt = G) → (0 ≤ G) → (G ≤ 600) → ((I 43 42).toInt = G) → (0 ≤ l15.toInt) → (l15.toInt < R) → (0 ≤ l17.toInt) → (l17.toInt ≤ 64) → (Nle (8 - l15.toInt).toNat N202) → wp S (d + 3) 200 260 [some (.ref 43), some (.int l1), some (.int l2), some (.long l3), none, some (.long l5), none, some (.long l7), none, some (.long l9), none, some (.long l11), none, some (.long l13), none, some (.int l15), some (.int l16), some (.int l17), none, none, none, none, none] [] (wv x I J) (rV x Q)) : ∀ (l1 : Int32) (l2 : Int32) (l3 : Int64) (l5 : Int64) (l7 : Int64) (l9 : Int64) (l11 : Int64) (l13 : Int64) (l15 : Int32) (l16 : Int32) (l17 : Int32) (l18 : Int64) (l20 : Int32) (l21 : Int32) (I : rI0) (J : rJ0), (Mk_ I0 J0 Tl R C K A g I J) → (l1.toInt = G) → (0 ≤ G) → (G ≤ 600) → ((I 43 42).toInt = G) → (0 ≤ l15.toInt) → (l15.toInt < R) → (0 ≤ l17.toInt) → (l17.toInt < 64) → (Nle (64 - l17.toInt).toNat N260) → (Nle (8 - l15.toInt).toNat N202) → wp S (d + 3) 200 390 [some (.ref 43), some (.int l1), some (.int l2), some (.long l3), none, some (.long l5), none, some (.long l7), none, some (.long l9), none, some (.long l11), none, some (.long l13), none, some (.int l15), some (.int l16), some (.int l17), some (.long l18), none, some (.int l20), some (.int l21), none] [] (wv x I J) (rV x Q) := by
  intro l1 l2 l3 l5 l7 l9 l11 l13 l15 l16 l17 l18 l20 l21 I J h e0 e1 e2 e3 e4 e5 e6 e7 a0 a1
  have bh := h.bnd
  refine v200_43_390 ?_
  have t1 : TI (0 : Int32) (0) := show (0 : Int32).toInt = 0 by decide
  refine ⟨fun q2 => ?_, fun q2 => ?_⟩
  · have c3 := j_eq q2 (ti_r (e := l1)) t1
    refine ⟨fun q4 => ?_, fun q4 => ?_⟩
    · exact kMoment_442 k K260 l1 l2 l3 l5 l7 l9 l11 l13 l15 l16 l17 l18 l20 l21 ((0 : Int32)) l7 l18 I J (h) (by omega) (by omega) (by omega) (by omega) (by omega) (by omega) (by omega) (by omega) (mle a0 (by omega)) (mle a1 (by omega))
    · exact kMoment_442 k K260 l1 l2 l3 l5 l7 l9 l11 l13 l15 l16 l17 l18 l20 l21 ((0 : Int32)) l7 ((0 : Int64)) I J (h) (by omega) (by omega) (by omega) (by omega) (by omega) (by omega) (by omega) (by omega) (mle a0 (by omega)) (mle a1 (by omega))
  · have c5 := j_ne q2 (ti_r (e := l1)) t1
    refine ⟨fun q6 => ?_, fun q6 => ?_⟩
    · refine mHeldOf  ?_
      intro r1
      have t7 : TI (3 : Int32) (3) := show (3 : Int32).toInt = 3 by decide
      refine ⟨fun q8 => ?_, fun q8 => ?_⟩
      · have c9 := j_lt q8 (ti_r (e := r1)) t7
        refine mHeldOf  ?_
        intro r2
        refine ⟨fun q10 => ?_, fun q10 => ?_⟩
        · exact kMoment_442 k K260 l1 l2 l3 l5 l7 l9 l11 l13 l15 l16 l17 l18 l20 l21 (r2 + (1 : Int32)) l7 l18 I J (h) (by omega) (by omega) (by omega) (by omega) (by omega) (by omega) (by omega) (by omega) (mle a0 (by omega)) (mle a1 (by omega))
        · exact kMoment_442 k K260 l1 l2 l3 l5 l7 l9 l11 l13 l15 l16 l17 l18 l20 l21 (r2 + (1 : Int32)) l7 ((0 : Int64)) I J (h) (by omega) (by omega) (by omega) (by omega) (by omega) (by omega) (by omega) (by omega) (mle a0 (by omega)) (mle a1 (by omega))
      · have c11 := j_nlt q8 (ti_r (e := r1)) t7
        refine ⟨fun q12 => ?_, fun q12 => ?_⟩
        · exact kMoment_442 k K260 l1 l2 l3 l5 l7 l9 l11 l13 l15 l16 l17 l18 l20 l21 ((3 : Int32)) l7 l18 I J (h) (by omega) (by omega) (by omega) (by omega) (by omega) (by omega) (by omega) (by omega) (mle a0 (by omega)) (mle a1 (by omega))
        · exact kMoment_442 k K260 l1 l2 l3 l5 l7 l9 l11 l13 l15 l16 l17 l18 l20 l21 ((3 : Int32)) l7 ((0 : Int64)) I J (h) (by omega) (by omega) (by omega) (by omega) (by omega) (by omega) (by omega) (by omega) (mle a0 (by omega)) (mle a1 (by omega))
    · refine ⟨fun q13 => ?_, fun q13 => ?_⟩
      · exact kMoment_442 k K260 l1 l2 l3 l5 l7 l9 l11 l13 l15 l16 l17 l18 l20 l21 ((0 : Int32)) l7 l18 I J (h) (by omega) (by omega) (by omega) (by omega) (by omega) (by omega) (by omega) (by omega) (mle a0 (by omega)) (mle a1 (by omega))
      · exact kMoment_442 k K260 l1 l2 l3 l5 l7 l9 l11 l13 l15 l16 l17 l18 l20 l21 ((0 : Int32)) l7 ((0 : Int64)) I J (h) (by omega) (by omega) (by omega) (by omega) (by omega) (by omega) (by omega) (by omega) (mle a0 (by omega)) (mle a1 (by omega))
theorem kMoment_357 {S : Nat × (Nat → Int32)} {d : Nat} {x : mX} {I0 : rI0} {J0 : rJ0} {Tl : Int32 × Option Int32} {R C K A : Int} {g : Nat → Int32} {G : Int} {Q : rI0 → rJ0 → Prop} {N260 : Nat} {N202 : Nat} (k : ∀ I J, (Mk_ I0 J0 Tl R C K A g I J) → ((I 43 42).toInt = G + 1) → Q I J) (K260 : ∀ (l1 : Int32) (l2 : Int32) (l3 : Int64) (l5 : Int64) (l7 : Int64) (l9 : Int64) (l11 : Int64) (l13 : Int64) (l15 : Int32) (l16 : Int32) (l17 : Int32) (I : rI0) (J : rJ0), (Mk_ I0 J0 Tl R C K A g I J) → ((64 - l17.toInt).toNat < N260) → (l1.toInt = G) → (0 ≤ G) → (G ≤ 600) → ((I 43 42).toInt = G) → (0 ≤ l15.toInt) → (l15.toInt < R) → (0 ≤ l17.toInt) → (l17.toInt ≤ 64) → (Nle (8 - l15.toInt).toNat N202) → wp S (d + 3) 200 260 [some (.ref 43), some (.int l1), some (.int l2), some (.long l3), none, some (.long l5), none, some (.long l7), none, some (.long l9), none, some (.long l11), none, some (.long l13), none, some (.int l15), some (.int l16), some (.int l17), none, none, none, none, none] [] (wv x I J) (rV x Q)) : ∀ (l1 : Int32) (l2 : Int32) (l3 : Int64) (l5 : Int64) (l7 : Int64) (l9 : Int64) (l11 : Int64) (l13 : Int64) (l15 : Int32) (l16 : Int32) (l17 : Int32) (l18 : Int64) (l20 : Int32) (I : rI0) (J : rJ0), (Mk_ I0 J0 Tl R C K A g I J) → (l1.toInt = G) → (0 ≤ G) → (G ≤ 600) → ((I 43 42).toInt = G) → (0 ≤ l15.toInt) → (l15.toInt < R) → (0 ≤ l17.toInt) → (l17.toInt < 64) → (1 ≤ (I 45 ((6 : Int32) + l17).toNatClampNeg).toInt) → (Nle (64 - l17.toInt).toNat N260) → (Nle (8 - l15.toInt).toNat N202) → wp S (d + 3) 200 357 [some (.ref 43), some (.int l1), some (.int l2), some (.long l3), none, some (.long l5), none, some (.long l7), none, some (.long l9), none, some (.long l11), none, some (.long l13), none, some (.int l15), some (.int l16), some (.int l17), some (.long l18), none, some (.int l20), none, none] [] (wv x I J) (rV x Q) := by
  intro l1 l2 l3 l5 l7 l9 l11 l13 l15 l16 l17 l18 l20 I J h e0 e1 e2 e3 e4 e5 e6 e7 e8 a0 a1
  have bh := h.bnd
  refine v200_43_357 ?_
  have t1 : TI (0 : Int32) (0) := show (0 : Int32).toInt = 0 by decide
  refine ⟨fun q2 => ?_, fun q2 => ?_⟩
  · have c3 := j_eq q2 (ti_r (e := l2)) t1
    refine ⟨fun q4 => ?_, fun q4 => ?_⟩
    · have c5 := j_eq q4 (ti_r (e := l1)) t1
      exact kMoment_390 k K260 l1 l2 l3 l5 l7 l9 l11 l13 l15 l16 l17 l18 l20 ((0 : Int32)) I J (h) (by omega) (by omega) (by omega) (by omega) (by omega) (by omega) (by omega) (by omega) (mle a0 (by omega)) (mle a1 (by omega))
    · have c6 := j_ne q4 (ti_r (e := l1)) t1
      refine mHeldOf  ?_
      intro r1
      refine mLawLv (h) (by omega) rfl ?_
      intro r2 I2 J2 h2 g2a
      have bh2 := h2.bnd
      exact kMoment_390 k K260 l1 l2 l3 l5 l7 l9 l11 l13 l15 l16 l17 l18 l20 r2 I2 J2 (h2) (by omega) (by omega) (by omega) (by omega) (by omega) (by omega) (by omega) (by omega) (mle a0 (by omega)) (mle a1 (by omega))
  · have c7 := j_ne q2 (ti_r (e := l2)) t1
    exact kMoment_390 k K260 l1 l2 l3 l5 l7 l9 l11 l13 l15 l16 l17 l18 l20 ((0 : Int32)) I J (h) (by omega) (by omega) (by omega) (by omega) (by omega) (by omega) (by omega) (by omega) (mle a0 (by omega)) (mle a1 (by omega))
theorem kMoment_260 {S : Nat × (Nat → Int32)} {d : Nat} {x : mX} {I0 : rI0} {J0 : rJ0} {Tl : Int32 × Option Int32} {R C K A : Int} {g : Nat → Int32} {G : Int} {Q : rI0 → rJ0 → Prop} {N202 : Nat} (k : ∀ I J, (Mk_ I0 J0 Tl R C K A g I J) → ((I 43 42).toInt = G + 1) → Q I J) (K202 : ∀ (l1 : Int32) (l2 : Int32) (l3 : Int64) (l5 : Int64) (l7 : Int64) (l9 : Int64) (l11 : Int64) (l13 : Int64) (l15 : Int32) (I : rI0) (J : rJ0), (Mk_ I0 J0 Tl R C K A g I J) → ((8 - l15.toInt).toNat < N202) → (l1.toInt = G) → (0 ≤ G) → (G ≤ 600) → ((I 43 42).toInt = G) → (0 ≤ l15.toInt) → (l15.toInt ≤ 8) → wp S (d + 3) 200 202 [some (.ref 43), some (.int l1), some (.int l2), some (.long l3), none, some (.long l5), none, some (.long l7), none, some (.long l9), none, some (.long l11), none, some (.long l13), none, some (.int l15), none, none, none, none, none, none, none] [] (wv x I J) (rV x Q)) : ∀ (n : Nat) (l1 : Int32) (l2 : Int32) (l3 : Int64) (l5 : Int64) (l7 : Int64) (l9 : Int64) (l11 : Int64) (l13 : Int64) (l15 : Int32) (l16 : Int32) (l17 : Int32) (I : rI0) (J : rJ0), (Neq (64 - l17.toInt).toNat n) → (Mk_ I0 J0 Tl R C K A g I J) → (l1.toInt = G) → (0 ≤ G) → (G ≤ 600) → ((I 43 42).toInt = G) → (0 ≤ l15.toInt) → (l15.toInt < R) → (0 ≤ l17.toInt) → (l17.toInt ≤ 64) → (Nle (8 - l15.toInt).toNat N202) → wp S (d + 3) 200 260 [some (.ref 43), some (.int l1), some (.int l2), some (.long l3), none, some (.long l5), none, some (.long l7), none, some (.long l9), none, some (.long l11), none, some (.long l13), none, some (.int l15), some (.int l16), some (.int l17), none, none, none, none, none] [] (wv x I J) (rV x Q) := by
  refine lpn ?_
  intro n ih
  intro l1 l2 l3 l5 l7 l9 l11 l13 l15 l16 l17 I J hm h e0 e1 e2 e3 e4 e5 e6 e7 a0
  have bh := h.bnd
  refine v200_43_260 ?_
  have t1 : TI (1 : Int32) (1) := show (1 : Int32).toInt = 1 by decide
  refine ⟨?_, ?_⟩
  · exact jj_in (e := (1 : Int32)) (A := 1) t1 (by omega)
  have t2 : TI (I 45 ((1 : Int32).toNatClampNeg)) (I 45 1).toInt := ti_r (e := I 45 1)
  have t3 : TI (l15 + (1 : Int32)) (l15.toInt + 1) := ti_add ti_r t1 (by omega)
  have ut4 : 0 ≤ (I 45 1).toInt * (l15.toInt + 1) ∧ (I 45 1).toInt * (l15.toInt + 1) ≤ 64 := i_mb (by omega) (by omega)
  have vt4 := i_mp (A := (I 45 1).toInt) (B := (l15.toInt + 1)) (by omega) (by omega)
  have t4 : TI ((I 45 ((1 : Int32).toNatClampNeg)) * (l15 + (1 : Int32))) ((I 45 1).toInt * (l15.toInt + 1)) := ti_mul t2 t3 (by omega)
  refine ⟨fun q5 => ?_, fun q5 => ?_⟩
  · have c6 := j_lt q5 (ti_r (e := l17)) t4
    have t7 : TI (6 : Int32) (6) := show (6 : Int32).toInt = 6 by decide
    have t8 : TI ((6 : Int32) + l17) (6 + l17.toInt) := ti_add t7 ti_r (by omega)
    refine ⟨?_, ?_⟩
    · exact jj_in (e := ((6 : Int32) + l17)) (A := (6 + l17.toInt)) t8 (by omega)
    have w9 := Mz_.kt h.1 (e := ((6 : Int32) + l17)) (A := (6 + l17.toInt)) t8 (by omega)
    have t10 : TI (0 : Int32) (0) := show (0 : Int32).toInt = 0 by decide
    refine ⟨fun q11 => ?_, fun q11 => ?_⟩
    · have c12 := j_eq q11 (ti_r (e := (I 45 (((6 : Int32) + l17).toNatClampNeg)))) t10
      have t13 : TI (l17 + (1 : Int32)) (l17.toInt + 1) := ti_add ti_r t1 (by omega)
      exact ih _ (mih hm (by (try simp only [t13.o, true_or, or_true, true_and, and_true]); first | done | omega) (by omega)) l1 l2 l3 l5 l7 l9 l11 l13 l15 l16 (l17 + (1 : Int32)) I J rfl (h) (by (try simp only [t13.o, true_or, or_true, true_and, and_true]); first | done | omega) (by (try simp only [t13.o, true_or, or_true, true_and, and_true]); first | done | omega) (by (try simp only [t13.o, true_or, or_true, true_and, and_true]); first | done | omega) (by (try simp only [t13.o, true_or, or_true, true_and, and_true]); first | done | omega) (by (try simp only [t13.o, true_or, or_true, true_and, and_true]); first | done | omega) (by (try simp only [t13.o, true_or, or_true, true_and, and_true]); first | done | omega) (by (try simp only [t13.o, true_or, or_true, true_and, and_true]); first | done | omega) (by (try simp only [t13.o, true_or, or_true, true_and, and_true]); first | done | omega) (mle a0 (by (try simp only [t13.o, true_or, or_true, true_and, and_true]); first | done | omega))
    · have c14 := j_ne q11 (ti_r (e := (I 45 (((6 : Int32) + l17).toNatClampNeg)))) t10
      refine mLevel  ?_
      intro r1
      refine ⟨fun q15 => ?_, fun q15 => ?_⟩
      · have c16 := j_eq q15 (ti_r (e := l16)) t10
        refine ⟨fun q17 => ?_, fun q17 => ?_⟩
        · refine ⟨fun q18 => ?_, fun q18 => ?_⟩
          · exact kMoment_357 k (fun l1_ l2_ l3_ l5_ l7_ l9_ l11_ l13_ l15_ l16_ l17_ I_ J_ h_ hlt f0_ f1_ f2_ f3_ f4_ f5_ f6_ f7_ f8_ => ih _ hlt l1_ l2_ l3_ l5_ l7_ l9_ l11_ l13_ l15_ l16_ l17_ I_ J_ rfl h_ f0_ f1_ f2_ f3_ f4_ f5_ f6_ f7_ f8_) l1 l2 l3 l5 l7 l9 l11 l13 l15 l16 l17 ((1 : Int64) <<< (l17.toInt64 &&& 63)) r1 I J (h) (by omega) (by omega) (by omega) (by omega) (by omega) (by omega) (by omega) (by omega) (by omega) (mleq hm (by omega)) (mle a0 (by omega))
          · have t19 : TI (4 : Int32) (4) := show (4 : Int32).toInt = 4 by decide
            refine ⟨?_, ?_⟩
            · exact jj_in (e := (4 : Int32)) (A := 4) t19 (by omega)
            have t20 : TI (I 45 ((4 : Int32).toNatClampNeg)) (I 45 4).toInt := ti_r (e := I 45 4)
            refine ⟨fun q21 => ?_, fun q21 => ?_⟩
            · have c22 := j_lt q21 t20 (ti_r (e := l1))
              exact kMoment_357 k (fun l1_ l2_ l3_ l5_ l7_ l9_ l11_ l13_ l15_ l16_ l17_ I_ J_ h_ hlt f0_ f1_ f2_ f3_ f4_ f5_ f6_ f7_ f8_ => ih _ hlt l1_ l2_ l3_ l5_ l7_ l9_ l11_ l13_ l15_ l16_ l17_ I_ J_ rfl h_ f0_ f1_ f2_ f3_ f4_ f5_ f6_ f7_ f8_) l1 l2 l3 l5 l7 l9 l11 l13 l15 l16 l17 ((1 : Int64) <<< (l17.toInt64 &&& 63)) r1 I J (h) (by omega) (by omega) (by omega) (by omega) (by omega) (by omega) (by omega) (by omega) (by omega) (mleq hm (by omega)) (mle a0 (by omega))
            · have c23 := j_nlt q21 t20 (ti_r (e := l1))
              exact kMoment_390 k (fun l1_ l2_ l3_ l5_ l7_ l9_ l11_ l13_ l15_ l16_ l17_ I_ J_ h_ hlt f0_ f1_ f2_ f3_ f4_ f5_ f6_ f7_ f8_ => ih _ hlt l1_ l2_ l3_ l5_ l7_ l9_ l11_ l13_ l15_ l16_ l17_ I_ J_ rfl h_ f0_ f1_ f2_ f3_ f4_ f5_ f6_ f7_ f8_) l1 l2 l3 l5 l7 l9 l11 l13 l15 l16 l17 ((1 : Int64) <<< (l17.toInt64 &&& 63)) r1 ((2 : Int32)) I J (h) (by omega) (by omega) (by omega) (by omega) (by omega) (by omega) (by omega) (by omega) (mleq hm (by omega)) (mle a0 (by omega))
        · exact kMoment_390 k (fun l1_ l2_ l3_ l5_ l7_ l9_ l11_ l13_ l15_ l16_ l17_ I_ J_ h_ hlt f0_ f1_ f2_ f3_ f4_ f5_ f6_ f7_ f8_ => ih _ hlt l1_ l2_ l3_ l5_ l7_ l9_ l11_ l13_ l15_ l16_ l17_ I_ J_ rfl h_ f0_ f1_ f2_ f3_ f4_ f5_ f6_ f7_ f8_) l1 l2 l3 l5 l7 l9 l11 l13 l15 l16 l17 ((1 : Int64) <<< (l17.toInt64 &&& 63)) r1 ((0 : Int32)) I J (h) (by omega) (by omega) (by omega) (by omega) (by omega) (by omega) (by omega) (by omega) (mleq hm (by omega)) (mle a0 (by omega))
      · have c24 := j_ne q15 (ti_r (e := l16)) t10
        exact kMoment_390 k (fun l1_ l2_ l3_ l5_ l7_ l9_ l11_ l13_ l15_ l16_ l17_ I_ J_ h_ hlt f0_ f1_ f2_ f3_ f4_ f5_ f6_ f7_ f8_ => ih _ hlt l1_ l2_ l3_ l5_ l7_ l9_ l11_ l13_ l15_ l16_ l17_ I_ J_ rfl h_ f0_ f1_ f2_ f3_ f4_ f5_ f6_ f7_ f8_) l1 l2 l3 l5 l7 l9 l11 l13 l15 l16 l17 ((1 : Int64) <<< (l17.toInt64 &&& 63)) r1 ((0 : Int32)) I J (h) (by omega) (by omega) (by omega) (by omega) (by omega) (by omega) (by omega) (by omega) (mleq hm (by omega)) (mle a0 (by omega))
  · have c25 := j_nlt q5 (ti_r (e := l17)) t4
    have t26 : TI (5 : Int32) (5) := show (5 : Int32).toInt = 5 by decide
    refine ⟨?_, ?_⟩
    · exact jj_in (e := (5 : Int32)) (A := 5) t26 (by omega)
    have t27 : TI (I 45 ((5 : Int32).toNatClampNeg)) (I 45 5).toInt := ti_r (e := I 45 5)
    have t28 : TI (0 : Int32) (0) := show (0 : Int32).toInt = 0 by decide
    refine ⟨fun q29 => ?_, fun q29 => ?_⟩
    · have c30 := j_eq q29 t27 t28
      exact K202 l1 l2 l3 l5 l7 l9 l11 l13 (l15 + (1 : Int32)) I J (h) (mlt a0 (by (try simp only [t3.o, true_or, or_true, true_and, and_true]); first | done | omega) (by omega)) (by (try simp only [t3.o, true_or, or_true, true_and, and_true]); first | done | omega) (by (try simp only [t3.o, true_or, or_true, true_and, and_true]); first | done | omega) (by (try simp only [t3.o, true_or, or_true, true_and, and_true]); first | done | omega) (by (try simp only [t3.o, true_or, or_true, true_and, and_true]); first | done | omega) (by (try simp only [t3.o, true_or, or_true, true_and, and_true]); first | done | omega) (by (try simp only [t3.o, true_or, or_true, true_and, and_true]); first | done | omega)
    · have c31 := j_ne q29 t27 t28
      refine ⟨?_, ?_⟩
      · exact jj_in (e := (1 : Int32)) (A := 1) t1 (by omega)
      have t32 : TI (64 : Int32) (64) := show (64 : Int32).toInt = 64 by decide
      refine ⟨fun q33 => ?_, fun q33 => ?_⟩
      · have c34 := j_eq q33 t4 t32
        exact kMoment_548 k K202 l1 l2 l3 l5 l7 l9 l11 l13 l15 l16 ((I 45 ((1 : Int32).toNatClampNeg)) * (l15 + (1 : Int32))) ((-1 : Int64)) I J (h) (by (try simp only [t4.o, true_or, or_true, true_and, and_true]); first | done | omega) (by (try simp only [t4.o, true_or, or_true, true_and, and_true]); first | done | omega) (by (try simp only [t4.o, true_or, or_true, true_and, and_true]); first | done | omega) (by (try simp only [t4.o, true_or, or_true, true_and, and_true]); first | done | omega) (by (try simp only [t4.o, true_or, or_true, true_and, and_true]); first | done | omega) (by (try simp only [t4.o, true_or, or_true, true_and, and_true]); first | done | omega) (mle a0 (by (try simp only [t4.o, true_or, or_true, true_and, and_true]); first | done | omega))
      · have c35 := j_ne q33 t4 t32
        exact kMoment_548 k K202 l1 l2 l3 l5 l7 l9 l11 l13 l15 l16 ((I 45 ((1 : Int32).toNatClampNeg)) * (l15 + (1 : Int32))) (((1 : Int64) <<< (((I 45 ((1 : Int32).toNatClampNeg)) * (l15 + (1 : Int32))).toInt64 &&& 63)) - (1 : Int64)) I J (h) (by (try simp only [t4.o, true_or, or_true, true_and, and_true]); first | done | omega) (by (try simp only [t4.o, true_or, or_true, true_and, and_true]); first | done | omega) (by (try simp only [t4.o, true_or, or_true, true_and, and_true]); first | done | omega) (by (try simp only [t4.o, true_or, or_true, true_and, and_true]); first | done | omega) (by (try simp only [t4.o, true_or, or_true, true_and, and_true]); first | done | omega) (by (try simp only [t4.o, true_or, or_true, true_and, and_true]); first | done | omega) (mle a0 (by (try simp only [t4.o, true_or, or_true, true_and, and_true]); first | done | omega))
theorem kMoment_202 {S : Nat × (Nat → Int32)} {d : Nat} {x : mX} {I0 : rI0} {J0 : rJ0} {Tl : Int32 × Option Int32} {R C K A : Int} {g : Nat → Int32} {G : Int} {Q : rI0 → rJ0 → Prop} (k : ∀ I J, (Mk_ I0 J0 Tl R C K A g I J) → ((I 43 42).toInt = G + 1) → Q I J) : ∀ (n : Nat) (l1 : Int32) (l2 : Int32) (l3 : Int64) (l5 : Int64) (l7 : Int64) (l9 : Int64) (l11 : Int64) (l13 : Int64) (l15 : Int32) (I : rI0) (J : rJ0), (Neq (8 - l15.toInt).toNat n) → (Mk_ I0 J0 Tl R C K A g I J) → (l1.toInt = G) → (0 ≤ G) → (G ≤ 600) → ((I 43 42).toInt = G) → (0 ≤ l15.toInt) → (l15.toInt ≤ 8) → wp S (d + 3) 200 202 [some (.ref 43), some (.int l1), some (.int l2), some (.long l3), none, some (.long l5), none, some (.long l7), none, some (.long l9), none, some (.long l11), none, some (.long l13), none, some (.int l15), none, none, none, none, none, none, none] [] (wv x I J) (rV x Q) := by
  refine lpn ?_
  intro n ih
  intro l1 l2 l3 l5 l7 l9 l11 l13 l15 I J hm h e0 e1 e2 e3 e4 e5
  have bh := h.bnd
  refine v200_43_202 ?_
  have t1 : TI (0 : Int32) (0) := show (0 : Int32).toInt = 0 by decide
  refine ⟨?_, ?_⟩
  · exact jj_in (e := (0 : Int32)) (A := 0) t1 (by omega)
  have t2 : TI (I 45 ((0 : Int32).toNatClampNeg)) (I 45 0).toInt := ti_r (e := I 45 0)
  refine ⟨fun q3 => ?_, fun q3 => ?_⟩
  · have c4 := j_lt q3 (ti_r (e := l15)) t2
    have t5 : TI (78 : Int32) (78) := show (78 : Int32).toInt = 78 by decide
    have t6 : TI ((78 : Int32) + l15) (78 + l15.toInt) := ti_add t5 ti_r (by omega)
    refine ⟨?_, ?_⟩
    · exact jj_in (e := ((78 : Int32) + l15)) (A := (78 + l15.toInt)) t6 (by omega)
    refine ⟨fun q7 => ?_, fun q7 => ?_⟩
    · refine ⟨?_, ?_⟩
      · exact jj_in (e := ((78 : Int32) + l15)) (A := (78 + l15.toInt)) t6 (by omega)
      refine ⟨fun q8 => ?_, fun q8 => ?_⟩
      · have t9 : TI (1 : Int32) (1) := show (1 : Int32).toInt = 1 by decide
        refine ⟨?_, ?_⟩
        · exact jj_in (e := (1 : Int32)) (A := 1) t9 (by omega)
        have t10 : TI (I 45 ((1 : Int32).toNatClampNeg)) (I 45 1).toInt := ti_r (e := I 45 1)
        have ut11 : 0 ≤ (I 45 1).toInt * l15.toInt ∧ (I 45 1).toInt * l15.toInt ≤ 64 := i_mb (by omega) (by omega)
        have vt11 := i_mp (A := (I 45 1).toInt) (B := l15.toInt) (by omega) (by omega)
        have t11 : TI ((I 45 ((1 : Int32).toNatClampNeg)) * l15) ((I 45 1).toInt * l15.toInt) := ti_mul t10 ti_r (by omega)
        exact kMoment_260 k (fun l1_ l2_ l3_ l5_ l7_ l9_ l11_ l13_ l15_ I_ J_ h_ hlt f0_ f1_ f2_ f3_ f4_ f5_ => ih _ hlt l1_ l2_ l3_ l5_ l7_ l9_ l11_ l13_ l15_ I_ J_ rfl h_ f0_ f1_ f2_ f3_ f4_ f5_) _ l1 l2 l3 l5 l7 l9 l11 l13 l15 ((0 : Int32)) ((I 45 ((1 : Int32).toNatClampNeg)) * l15) I J rfl (h) (by (try simp only [t11.o, true_or, or_true, true_and, and_true]); first | done | omega) (by (try simp only [t11.o, true_or, or_true, true_and, and_true]); first | done | omega) (by (try simp only [t11.o, true_or, or_true, true_and, and_true]); first | done | omega) (by (try simp only [t11.o, true_or, or_true, true_and, and_true]); first | done | omega) (by (try simp only [t11.o, true_or, or_true, true_and, and_true]); first | done | omega) (by (try simp only [t11.o, true_or, or_true, true_and, and_true]); first | done | omega) (by (try simp only [t11.o, true_or, or_true, true_and, and_true]); first | done | omega) (by (try simp only [t11.o, true_or, or_true, true_and, and_true]); first | done | omega) (mleq hm (by (try simp only [t11.o, true_or, or_true, true_and, and_true]); first | done | omega))
      · have t12 : TI (1 : Int32) (1) := show (1 : Int32).toInt = 1 by decide
        refine ⟨?_, ?_⟩
        · exact jj_in (e := (1 : Int32)) (A := 1) t12 (by omega)
        have t13 : TI (I 45 ((1 : Int32).toNatClampNeg)) (I 45 1).toInt := ti_r (e := I 45 1)
        have ut14 : 0 ≤ (I 45 1).toInt * l15.toInt ∧ (I 45 1).toInt * l15.toInt ≤ 64 := i_mb (by omega) (by omega)
        have vt14 := i_mp (A := (I 45 1).toInt) (B := l15.toInt) (by omega) (by omega)
        have t14 : TI ((I 45 ((1 : Int32).toNatClampNeg)) * l15) ((I 45 1).toInt * l15.toInt) := ti_mul t13 ti_r (by omega)
        exact kMoment_260 k (fun l1_ l2_ l3_ l5_ l7_ l9_ l11_ l13_ l15_ I_ J_ h_ hlt f0_ f1_ f2_ f3_ f4_ f5_ => ih _ hlt l1_ l2_ l3_ l5_ l7_ l9_ l11_ l13_ l15_ I_ J_ rfl h_ f0_ f1_ f2_ f3_ f4_ f5_) _ l1 l2 l3 l5 l7 l9 l11 l13 l15 ((1 : Int32)) ((I 45 ((1 : Int32).toNatClampNeg)) * l15) I J rfl (h) (by (try simp only [t14.o, true_or, or_true, true_and, and_true]); first | done | omega) (by (try simp only [t14.o, true_or, or_true, true_and, and_true]); first | done | omega) (by (try simp only [t14.o, true_or, or_true, true_and, and_true]); first | done | omega) (by (try simp only [t14.o, true_or, or_true, true_and, and_true]); first | done | omega) (by (try simp only [t14.o, true_or, or_true, true_and, and_true]); first | done | omega) (by (try simp only [t14.o, true_or, or_true, true_and, and_true]); first | done | omega) (by (try simp only [t14.o, true_or, or_true, true_and, and_true]); first | done | omega) (by (try simp only [t14.o, true_or, or_true, true_and, and_true]); first | done | omega) (mleq hm (by (try simp only [t14.o, true_or, or_true, true_and, and_true]); first | done | omega))
    · have t15 : TI (1 : Int32) (1) := show (1 : Int32).toInt = 1 by decide
      refine ⟨?_, ?_⟩
      · exact jj_in (e := (1 : Int32)) (A := 1) t15 (by omega)
      have t16 : TI (I 45 ((1 : Int32).toNatClampNeg)) (I 45 1).toInt := ti_r (e := I 45 1)
      have ut17 : 0 ≤ (I 45 1).toInt * l15.toInt ∧ (I 45 1).toInt * l15.toInt ≤ 64 := i_mb (by omega) (by omega)
      have vt17 := i_mp (A := (I 45 1).toInt) (B := l15.toInt) (by omega) (by omega)
      have t17 : TI ((I 45 ((1 : Int32).toNatClampNeg)) * l15) ((I 45 1).toInt * l15.toInt) := ti_mul t16 ti_r (by omega)
      exact kMoment_260 k (fun l1_ l2_ l3_ l5_ l7_ l9_ l11_ l13_ l15_ I_ J_ h_ hlt f0_ f1_ f2_ f3_ f4_ f5_ => ih _ hlt l1_ l2_ l3_ l5_ l7_ l9_ l11_ l13_ l15_ I_ J_ rfl h_ f0_ f1_ f2_ f3_ f4_ f5_) _ l1 l2 l3 l5 l7 l9 l11 l13 l15 ((0 : Int32)) ((I 45 ((1 : Int32).toNatClampNeg)) * l15) I J rfl (h) (by (try simp only [t17.o, true_or, or_true, true_and, and_true]); first | done | omega) (by (try simp only [t17.o, true_or, or_true, true_and, and_true]); first | done | omega) (by (try simp only [t17.o, true_or, or_true, true_and, and_true]); first | done | omega) (by (try simp only [t17.o, true_or, or_true, true_and, and_true]); first | done | omega) (by (try simp only [t17.o, true_or, or_true, true_and, and_true]); first | done | omega) (by (try simp only [t17.o, true_or, or_true, true_and, and_true]); first | done | omega) (by (try simp only [t17.o, true_or, or_true, true_and, and_true]); first | done | omega) (by (try simp only [t17.o, true_or, or_true, true_and, and_true]); first | done | omega) (mleq hm (by (try simp only [t17.o, true_or, or_true, true_and, and_true]); first | done | omega))
  · have c18 := j_nlt q3 (ti_r (e := l15)) t2
    refine ⟨?_, ?_⟩
    · exact jj_in (e := (l1)) (A := l1.toInt) ti_r (by omega)
    refine ⟨?_, ?_⟩
    · exact jj_in (e := (l1)) (A := l1.toInt) ti_r (by omega)
    refine ⟨?_, ?_⟩
    · exact jj_in (e := (l1)) (A := l1.toInt) ti_r (by omega)
    refine ⟨?_, ?_⟩
    · exact jj_in (e := (l1)) (A := l1.toInt) ti_r (by omega)
    have t19 : TI (1 : Int32) (1) := show (1 : Int32).toInt = 1 by decide
    have t20 : TI ((I 43 42) + (1 : Int32)) ((I 43 42).toInt + 1) := ti_add ti_r t19 (by omega)
    have z21 : TI ((mSet I 43 42 ((I 43 42) + (1 : Int32))) 43 42) ((I 43 42).toInt + 1) := (t20 : TI ((I 43 42) + (1 : Int32)) ((I 43 42).toInt + 1))
    exact k _ _ (Mk_.sk (n := 55) (k := l1.toNatClampNeg) (Mk_.sk (n := 54) (k := l1.toNatClampNeg) (Mk_.sk (n := 53) (k := l1.toNatClampNeg) (Mk_.sk (n := 52) (k := l1.toNatClampNeg) (Mk_.sj (n := 43) (k := 41) (Mk_.sj (n := 43) (k := 40) (Mk_.sj (n := 43) (k := 39) (Mk_.sj (n := 43) (k := 38) (Mk_.s42 (h) (v := ((I 43 42) + (1 : Int32))) (by (try simp only [t20.o, true_or, or_true, true_and, and_true]); first | done | omega)) (by decide)) (by decide)) (by decide)) (by decide)) (by decide)) (by decide)) (by decide)) (by decide)) (by (try simp only [z21.o, true_or, or_true, true_and, and_true]); first | done | omega)
theorem kMoment_176 {S : Nat × (Nat → Int32)} {d : Nat} {x : mX} {I0 : rI0} {J0 : rJ0} {Tl : Int32 × Option Int32} {R C K A : Int} {g : Nat → Int32} {G : Int} {Q : rI0 → rJ0 → Prop} (k : ∀ I J, (Mk_ I0 J0 Tl R C K A g I J) → ((I 43 42).toInt = G + 1) → Q I J) : ∀ (l1 : Int32) (l2 : Int32) (I : rI0) (J : rJ0), (Mk_ I0 J0 Tl R C K A g I J) → (l1.toInt = G) → (0 ≤ G) → (G ≤ 600) → ((I 43 42).toInt = G) → wp S (d + 3) 200 176 [some (.ref 43), some (.int l1), some (.int l2), none, none, none, none, none, none, none, none, none, none, none, none, none, none, none, none, none, none, none, none] [] (wv x I J) (rV x Q) := by
  intro l1 l2 I J h e0 e1 e2 e3
  have bh := h.bnd
  refine v200_43_176 ?_
  have t1 : TI (0 : Int32) (0) := show (0 : Int32).toInt = 0 by decide
  exact kMoment_202 k _ l1 l2 (J 43 38) (J 43 39) ((0 : Int64)) ((0 : Int64)) ((0 : Int64)) ((0 : Int64)) ((0 : Int32)) I J rfl (h) (by (try simp only [t1.o, true_or, or_true, true_and, and_true]); first | done | omega) (by (try simp only [t1.o, true_or, or_true, true_and, and_true]); first | done | omega) (by (try simp only [t1.o, true_or, or_true, true_and, and_true]); first | done | omega) (by (try simp only [t1.o, true_or, or_true, true_and, and_true]); first | done | omega) (by (try simp only [t1.o, true_or, or_true, true_and, and_true]); first | done | omega) (by (try simp only [t1.o, true_or, or_true, true_and, and_true]); first | done | omega)
theorem kMoment_130 {S : Nat × (Nat → Int32)} {d : Nat} {x : mX} {I0 : rI0} {J0 : rJ0} {Tl : Int32 × Option Int32} {R C K A : Int} {g : Nat → Int32} {G : Int} {Q : rI0 → rJ0 → Prop} {N7 : Nat} (k : ∀ I J, (Mk_ I0 J0 Tl R C K A g I J) → ((I 43 42).toInt = G + 1) → Q I J) (K7 : ∀ (l1 : Int32) (l2 : Int32) (I : rI0) (J : rJ0), (Mk_ I0 J0 Tl R C K A g I J) → ((30 - (I 43 43).toInt).toNat < N7) → (l1.toInt = G) → (0 ≤ G) → (G ≤ 600) → ((I 43 42).toInt = G) → wp S (d + 3) 200 7 [some (.ref 43), some (.int l1), some (.int l2), none, none, none, none, none, none, none, none, none, none, none, none, none, none, none, none, none, none, none, none] [] (wv x I J) (rV x Q)) : ∀ (l1 : Int32) (l2 : Int32) (l3 : Int32) (l4 : Int64) (s1 : Int64) (I : rI0) (J : rJ0), (Mk_ I0 J0 Tl R C K A g I J) → (l1.toInt = G) → (0 ≤ G) → (G ≤ 600) → ((I 43 42).toInt = G) → ((I 43 43).toInt < 30) → (Nle (30 - (I 43 43).toInt).toNat N7) → wp S (d + 3) 200 130 [some (.ref 43), some (.int l1), some (.int l2), some (.int l3), some (.long l4), none, none, none, none, none, none, none, none, none, none, none, none, none, none, none, none, none, none] [.long s1, .ref 43] (wv x I J) (rV x Q) := by
  intro l1 l2 l3 l4 s1 I J h e0 e1 e2 e3 e4 a0
  have bh := h.bnd
  refine v200_43_130 ?_
  refine ⟨fun q1 => ?_, fun q1 => ?_⟩
  · have t2 : TI (1 : Int32) (1) := show (1 : Int32).toInt = 1 by decide
    have t3 : TI ((I 43 43) + (1 : Int32)) ((I 43 43).toInt + 1) := ti_add ti_r t2 (by omega)
    have z4 : TI ((mSet I 43 43 ((I 43 43) + (1 : Int32))) 43 42) (I 43 42).toInt := (ti_r : TI (I 43 42) (I 43 42).toInt)
    have z5 : TI ((mSet I 43 43 ((I 43 43) + (1 : Int32))) 43 43) ((I 43 43).toInt + 1) := (t3 : TI ((I 43 43) + (1 : Int32)) ((I 43 43).toInt + 1))
    exact K7 l1 l2 (mSet I 43 43 ((I 43 43) + (1 : Int32))) (mSet (mSet J 43 36 s1) 43 37 ((J 43 37) ||| l4)) (Mk_.sj (n := 43) (k := 37) (Mk_.sj (n := 43) (k := 36) (Mk_.s43 (h) (v := ((I 43 43) + (1 : Int32))) (by (try simp only [t3.o, true_or, or_true, true_and, and_true]); first | done | omega)) (by decide)) (by decide)) (mlt a0 (by (try simp only [z4.o, z5.o, true_or, or_true, true_and, and_true]); first | done | omega) (by omega)) (by (try simp only [z4.o, z5.o, true_or, or_true, true_and, and_true]); first | done | omega) (by (try simp only [z4.o, z5.o, true_or, or_true, true_and, and_true]); first | done | omega) (by (try simp only [z4.o, z5.o, true_or, or_true, true_and, and_true]); first | done | omega) (by (try simp only [z4.o, z5.o, true_or, or_true, true_and, and_true]); first | done | omega)
  · have t6 : TI (1 : Int32) (1) := show (1 : Int32).toInt = 1 by decide
    have t7 : TI ((I 43 43) + (1 : Int32)) ((I 43 43).toInt + 1) := ti_add ti_r t6 (by omega)
    have z8 : TI ((mSet I 43 43 ((I 43 43) + (1 : Int32))) 43 42) (I 43 42).toInt := (ti_r : TI (I 43 42) (I 43 42).toInt)
    have z9 : TI ((mSet I 43 43 ((I 43 43) + (1 : Int32))) 43 43) ((I 43 43).toInt + 1) := (t7 : TI ((I 43 43) + (1 : Int32)) ((I 43 43).toInt + 1))
    exact K7 l1 l2 (mSet I 43 43 ((I 43 43) + (1 : Int32))) (mSet (mSet J 43 36 s1) 43 37 ((J 43 37) &&& (l4 ^^^ (-1 : Int64)))) (Mk_.sj (n := 43) (k := 37) (Mk_.sj (n := 43) (k := 36) (Mk_.s43 (h) (v := ((I 43 43) + (1 : Int32))) (by (try simp only [t7.o, true_or, or_true, true_and, and_true]); first | done | omega)) (by decide)) (by decide)) (mlt a0 (by (try simp only [z8.o, z9.o, true_or, or_true, true_and, and_true]); first | done | omega) (by omega)) (by (try simp only [z8.o, z9.o, true_or, or_true, true_and, and_true]); first | done | omega) (by (try simp only [z8.o, z9.o, true_or, or_true, true_and, and_true]); first | done | omega) (by (try simp only [z8.o, z9.o, true_or, or_true, true_and, and_true]); first | done | omega) (by (try simp only [z8.o, z9.o, true_or, or_true, true_and, and_true]); first | done | omega)
theorem kMoment_103 {S : Nat × (Nat → Int32)} {d : Nat} {x : mX} {I0 : rI0} {J0 : rJ0} {Tl : Int32 × Option Int32} {R C K A : Int} {g : Nat → Int32} {G : Int} {Q : rI0 → rJ0 → Prop} {N7 : Nat} (k : ∀ I J, (Mk_ I0 J0 Tl R C K A g I J) → ((I 43 42).toInt = G + 1) → Q I J) (K7 : ∀ (l1 : Int32) (l2 : Int32) (I : rI0) (J : rJ0), (Mk_ I0 J0 Tl R C K A g I J) → ((30 - (I 43 43).toInt).toNat < N7) → (l1.toInt = G) → (0 ≤ G) → (G ≤ 600) → ((I 43 42).toInt = G) → wp S (d + 3) 200 7 [some (.ref 43), some (.int l1), some (.int l2), none, none, none, none, none, none, none, none, none, none, none, none, none, none, none, none, none, none, none, none] [] (wv x I J) (rV x Q)) : ∀ (l1 : Int32) (l2 : Int32) (l3 : Int32) (l4 : Int64) (s0 : Int32) (I : rI0) (J : rJ0), (Mk_ I0 J0 Tl R C K A g I J) → (l1.toInt = G) → (0 ≤ G) → (G ≤ 600) → ((I 43 42).toInt = G) → ((I 43 43).toInt < 30) → (Nle (30 - (I 43 43).toInt).toNat N7) → wp S (d + 3) 200 103 [some (.ref 43), some (.int l1), some (.int l2), some (.int l3), some (.long l4), none, none, none, none, none, none, none, none, none, none, none, none, none, none, none, none, none, none] [.int s0] (wv x I J) (rV x Q) := by
  intro l1 l2 l3 l4 s0 I J h e0 e1 e2 e3 e4 a0
  have bh := h.bnd
  refine v200_43_103 ?_
  refine ⟨fun q1 => ?_, fun q1 => ?_⟩
  · exact kMoment_130 k K7 l1 s0 l3 l4 ((J 43 36) ||| l4) I J (h) (by omega) (by omega) (by omega) (by omega) (by omega) (mle a0 (by omega))
  · exact kMoment_130 k K7 l1 s0 l3 l4 ((J 43 36) &&& (l4 ^^^ (-1 : Int64))) I J (h) (by omega) (by omega) (by omega) (by omega) (by omega) (mle a0 (by omega))
theorem kMoment_7 {S : Nat × (Nat → Int32)} {d : Nat} {x : mX} {I0 : rI0} {J0 : rJ0} {Tl : Int32 × Option Int32} {R C K A : Int} {g : Nat → Int32} {G : Int} {Q : rI0 → rJ0 → Prop} (k : ∀ I J, (Mk_ I0 J0 Tl R C K A g I J) → ((I 43 42).toInt = G + 1) → Q I J) : ∀ (n : Nat) (l1 : Int32) (l2 : Int32) (I : rI0) (J : rJ0), (Neq (30 - (I 43 43).toInt).toNat n) → (Mk_ I0 J0 Tl R C K A g I J) → (l1.toInt = G) → (0 ≤ G) → (G ≤ 600) → ((I 43 42).toInt = G) → wp S (d + 3) 200 7 [some (.ref 43), some (.int l1), some (.int l2), none, none, none, none, none, none, none, none, none, none, none, none, none, none, none, none, none, none, none, none] [] (wv x I J) (rV x Q) := by
  refine lpn ?_
  intro n ih
  intro l1 l2 I J hm h e0 e1 e2 e3
  have bh := h.bnd
  refine v200_43_7 ?_
  have t1 : TI (590 : Int32) (590) := show (590 : Int32).toInt = 590 by decide
  refine ⟨?_, ?_⟩
  · exact jj_in (e := (590 : Int32)) (A := 590) t1 (by omega)
  have t2 : TI (I 45 ((590 : Int32).toNatClampNeg)) (I 45 590).toInt := ti_r (e := I 45 590)
  refine ⟨fun q3 => ?_, fun q3 => ?_⟩
  · have c4 := j_lt q3 (ti_r (e := (I 43 43))) t2
    have t5 : TI (591 : Int32) (591) := show (591 : Int32).toInt = 591 by decide
    have t6 : TI (3 : Int32) (3) := show (3 : Int32).toInt = 3 by decide
    have t7 : TI ((3 : Int32) * (I 43 43)) (3 * (I 43 43).toInt) := ti_mul t6 ti_r (by omega)
    have t8 : TI ((591 : Int32) + ((3 : Int32) * (I 43 43))) (591 + (3 * (I 43 43).toInt)) := ti_add t5 t7 (by omega)
    refine ⟨?_, ?_⟩
    · exact jj_in (e := ((591 : Int32) + ((3 : Int32) * (I 43 43)))) (A := (591 + (3 * (I 43 43).toInt))) t8 (by omega)
    refine ⟨fun q9 => ?_, fun q9 => ?_⟩
    · have c10 := j_eq q9 (ti_r (e := (I 45 (((591 : Int32) + ((3 : Int32) * (I 43 43))).toNatClampNeg)))) (ti_r (e := l1))
      have t11 : TI (1 : Int32) (1) := show (1 : Int32).toInt = 1 by decide
      have t12 : TI (((591 : Int32) + ((3 : Int32) * (I 43 43))) + (1 : Int32)) ((591 + (3 * (I 43 43).toInt)) + 1) := ti_add t8 t11 (by omega)
      refine ⟨?_, ?_⟩
      · exact jj_in (e := (((591 : Int32) + ((3 : Int32) * (I 43 43))) + (1 : Int32))) (A := ((591 + (3 * (I 43 43).toInt)) + 1)) t12 (by omega)
      refine ⟨fun q13 => ?_, fun q13 => ?_⟩
      · have c14 := j_eq q13 (ti_r (e := (I 45 ((((591 : Int32) + ((3 : Int32) * (I 43 43))) + (1 : Int32)).toNatClampNeg)))) t6
        have t15 : TI (0 : Int32) (0) := show (0 : Int32).toInt = 0 by decide
        refine ⟨fun q16 => ?_, fun q16 => ?_⟩
        · have c17 := j_eq q16 (ti_r (e := l2)) t15
          refine ⟨fun q18 => ?_, fun q18 => ?_⟩
          · have c19 := j_eq q18 (ti_r (e := (I 45 ((((591 : Int32) + ((3 : Int32) * (I 43 43))) + (1 : Int32)).toNatClampNeg)))) t6
            exact kMoment_103 k (fun l1_ l2_ I_ J_ h_ hlt f0_ f1_ f2_ f3_ => ih _ hlt l1_ l2_ I_ J_ rfl h_ f0_ f1_ f2_ f3_) l1 l2 (I 45 ((((591 : Int32) + ((3 : Int32) * (I 43 43))) + (1 : Int32)).toNatClampNeg)) ((0 : Int64)) ((1 : Int32)) I J (h) (by omega) (by omega) (by omega) (by omega) (by omega) (mleq hm (by omega))
          · have c20 := j_ne q18 (ti_r (e := (I 45 ((((591 : Int32) + ((3 : Int32) * (I 43 43))) + (1 : Int32)).toNatClampNeg)))) t6
            exact kMoment_103 k (fun l1_ l2_ I_ J_ h_ hlt f0_ f1_ f2_ f3_ => ih _ hlt l1_ l2_ I_ J_ rfl h_ f0_ f1_ f2_ f3_) l1 l2 (I 45 ((((591 : Int32) + ((3 : Int32) * (I 43 43))) + (1 : Int32)).toNatClampNeg)) ((0 : Int64)) ((0 : Int32)) I J (h) (by omega) (by omega) (by omega) (by omega) (by omega) (mleq hm (by omega))
        · have c21 := j_ne q16 (ti_r (e := l2)) t15
          exact kMoment_103 k (fun l1_ l2_ I_ J_ h_ hlt f0_ f1_ f2_ f3_ => ih _ hlt l1_ l2_ I_ J_ rfl h_ f0_ f1_ f2_ f3_) l1 l2 (I 45 ((((591 : Int32) + ((3 : Int32) * (I 43 43))) + (1 : Int32)).toNatClampNeg)) ((0 : Int64)) ((1 : Int32)) I J (h) (by omega) (by omega) (by omega) (by omega) (by omega) (mleq hm (by omega))
      · have c22 := j_ne q13 (ti_r (e := (I 45 ((((591 : Int32) + ((3 : Int32) * (I 43 43))) + (1 : Int32)).toNatClampNeg)))) t6
        have t23 : TI (2 : Int32) (2) := show (2 : Int32).toInt = 2 by decide
        have t24 : TI (((591 : Int32) + ((3 : Int32) * (I 43 43))) + (2 : Int32)) ((591 + (3 * (I 43 43).toInt)) + 2) := ti_add t8 t23 (by omega)
        refine ⟨?_, ?_⟩
        · exact jj_in (e := (((591 : Int32) + ((3 : Int32) * (I 43 43))) + (2 : Int32))) (A := ((591 + (3 * (I 43 43).toInt)) + 2)) t24 (by omega)
        have t25 : TI (0 : Int32) (0) := show (0 : Int32).toInt = 0 by decide
        refine ⟨fun q26 => ?_, fun q26 => ?_⟩
        · have c27 := j_eq q26 (ti_r (e := l2)) t25
          refine ⟨fun q28 => ?_, fun q28 => ?_⟩
          · have c29 := j_eq q28 (ti_r (e := (I 45 ((((591 : Int32) + ((3 : Int32) * (I 43 43))) + (1 : Int32)).toNatClampNeg)))) t6
            exact kMoment_103 k (fun l1_ l2_ I_ J_ h_ hlt f0_ f1_ f2_ f3_ => ih _ hlt l1_ l2_ I_ J_ rfl h_ f0_ f1_ f2_ f3_) l1 l2 (I 45 ((((591 : Int32) + ((3 : Int32) * (I 43 43))) + (1 : Int32)).toNatClampNeg)) ((1 : Int64) <<< ((I 45 ((((591 : Int32) + ((3 : Int32) * (I 43 43))) + (2 : Int32)).toNatClampNeg)).toInt64 &&& 63)) ((1 : Int32)) I J (h) (by omega) (by omega) (by omega) (by omega) (by omega) (mleq hm (by omega))
          · have c30 := j_ne q28 (ti_r (e := (I 45 ((((591 : Int32) + ((3 : Int32) * (I 43 43))) + (1 : Int32)).toNatClampNeg)))) t6
            exact kMoment_103 k (fun l1_ l2_ I_ J_ h_ hlt f0_ f1_ f2_ f3_ => ih _ hlt l1_ l2_ I_ J_ rfl h_ f0_ f1_ f2_ f3_) l1 l2 (I 45 ((((591 : Int32) + ((3 : Int32) * (I 43 43))) + (1 : Int32)).toNatClampNeg)) ((1 : Int64) <<< ((I 45 ((((591 : Int32) + ((3 : Int32) * (I 43 43))) + (2 : Int32)).toNatClampNeg)).toInt64 &&& 63)) ((0 : Int32)) I J (h) (by omega) (by omega) (by omega) (by omega) (by omega) (mleq hm (by omega))
        · have c31 := j_ne q26 (ti_r (e := l2)) t25
          exact kMoment_103 k (fun l1_ l2_ I_ J_ h_ hlt f0_ f1_ f2_ f3_ => ih _ hlt l1_ l2_ I_ J_ rfl h_ f0_ f1_ f2_ f3_) l1 l2 (I 45 ((((591 : Int32) + ((3 : Int32) * (I 43 43))) + (1 : Int32)).toNatClampNeg)) ((1 : Int64) <<< ((I 45 ((((591 : Int32) + ((3 : Int32) * (I 43 43))) + (2 : Int32)).toNatClampNeg)).toInt64 &&& 63)) ((1 : Int32)) I J (h) (by omega) (by omega) (by omega) (by omega) (by omega) (mleq hm (by omega))
    · have c32 := j_ne q9 (ti_r (e := (I 45 (((591 : Int32) + ((3 : Int32) * (I 43 43))).toNatClampNeg)))) (ti_r (e := l1))
      exact kMoment_176 k l1 l2 I J (h) (by omega) (by omega) (by omega) (by omega)
  · have c33 := j_nlt q3 (ti_r (e := (I 43 43))) t2
    exact kMoment_176 k l1 l2 I J (h) (by omega) (by omega) (by omega) (by omega)
theorem kMoment {S : Nat × (Nat → Int32)} {d : Nat} {x : mX} {I0 : rI0} {J0 : rJ0} {Tl : Int32 × Option Int32} {R C K A : Int} {g : Nat → Int32} {G : Int} {I : rI0} {J : rJ0} {Q : rI0 → rJ0 → Prop} (h : Mk_ I0 J0 Tl R C K A g I J) (hp : (I 43 42).toInt = G ∧ G ≤ 600) (k : ∀ I J, (Mk_ I0 J0 Tl R C K A g I J) → ((I 43 42).toInt = G + 1) → Q I J) : wcV S (d + 3) 200 [.ref 43] x I J Q := by
  have bh := h.bnd
  refine c200_43 ?_
  exact kMoment_7 k _ (I 43 42) ((0 : Int32)) I J rfl (h) (by omega) (by omega) (by omega) (by omega)
theorem kNight_12 {S : Nat × (Nat → Int32)} {d : Nat} {x : mX} {I0 : rI0} {J0 : rJ0} {Tl : Int32 × Option Int32} {R C K A : Int} {g : Nat → Int32} {Q : rI0 → rJ0 → Prop} (k : ∀ I J, (Mk_ I0 J0 Tl R C K A g I J) → Q I J) : ∀ (n : Nat) (l1 : Int32) (I : rI0) (J : rJ0), (Neq (601 - (I 43 42).toInt).toNat n) → (Mk_ I0 J0 Tl R C K A g I J) → (l1.toInt ≤ 600) → wp S (d + 5) 201 12 [some (.ref 43), some (.int l1)] [] (wv x I J) (rV x Q) := by
  refine lpn ?_
  intro n ih
  intro l1 I J hm h e0
  have bh := h.bnd
  refine v201_43_12 ?_
  refine ⟨fun q1 => ?_, fun q1 => ?_⟩
  · have c2 := j_lt q1 (ti_r (e := l1)) (ti_r (e := (I 43 42)))
    exact k _ _ (h)
  · have c3 := j_nlt q1 (ti_r (e := l1)) (ti_r (e := (I 43 42)))
    refine kMoment (h) ⟨rfl, by omega⟩ ?_
    intro I1 J1 h1 g1a
    have bh1 := h1.bnd
    exact ih _ (mih hm (by omega) (by omega)) l1 I1 J1 rfl (h1) (by omega)
theorem kNight {S : Nat × (Nat → Int32)} {d : Nat} {x : mX} {I0 : rI0} {J0 : rJ0} {Tl : Int32 × Option Int32} {R C K A : Int} {g : Nat → Int32} {I : rI0} {J : rJ0} {p1 : Int32} {Q : rI0 → rJ0 → Prop} (h : Mk_ I0 J0 Tl R C K A g I J) (hp : p1.toInt ≤ 600) (k : ∀ I J, (Mk_ I0 J0 Tl R C K A g I J) → Q I J) : wcV S (d + 5) 201 [.ref 43, .int p1] x I J Q := by
  have bh := h.bnd
  refine c201_43 ?_
  refine kBegin (h) ?_
  intro I1 J1 h1 g1a
  have bh1 := h1.bnd
  exact kNight_12 k _ p1 I1 J1 rfl (h1) (by omega)
theorem kHeight_11 {S : Nat × (Nat → Int32)} {d : Nat} {x : mX} {I0 : rI0} {J0 : rJ0} {Tl : Int32 × Option Int32} {R C K A : Int} {g : Nat → Int32} {Q : Int32 → rI0 → rJ0 → Prop} (k : ∀ r I J, (Mk_ I0 J0 Tl R C K A g I J) → Q r I J) : ∀ (n : Nat) (l1 : Int64) (l3 : Int64) (I : rI0) (J : rJ0), (Neq (601 - (I 43 42).toInt).toNat n) → (Mk_ I0 J0 Tl R C K A g I J) → wp S (d + 5) 202 11 [some (.ref 43), some (.long l1), none, some (.long l3), none, none] [] (wv x I J) (rI x Q) := by
  refine lpn ?_
  intro n ih
  intro l1 l3 I J hm h
  have bh := h.bnd
  refine v202_43_11 ?_
  have t1 : TI (60 : Int32) (60) := show (60 : Int32).toInt = 60 by decide
  refine ⟨fun q2 => ?_, fun q2 => ?_⟩
  · have c3 := j_lt q2 t1 (ti_r (e := (I 43 42)))
    have t4 : TI (3 : Int32) (3) := show (3 : Int32).toInt = 3 by decide
    refine ⟨?_, ?_⟩
    · exact jj_in (e := (3 : Int32)) (A := 3) t4 (by omega)
    have t5 : TI (I 45 ((3 : Int32).toNatClampNeg)) (I 45 3).toInt := ti_r (e := I 45 3)
    refine ⟨fun q6 => ?_, fun q6 => ?_⟩
    · exact k _ _ _ (Mk_.si (n := 43) (k := 45) (h) (by decide))
    · exact k _ _ _ (Mk_.si (n := 43) (k := 45) (h) (by decide))
  · have c7 := j_nlt q2 t1 (ti_r (e := (I 43 42)))
    refine kMoment (h) ⟨rfl, by omega⟩ ?_
    intro I1 J1 h1 g1a
    have bh1 := h1.bnd
    refine mBits  ?_
    intro r2 g2a
    refine ⟨fun q8 => ?_, fun q8 => ?_⟩
    · have z9 : TI ((mSet I1 43 44 r2) 43 42) (I1 43 42).toInt := (ti_r : TI (I1 43 42) (I1 43 42).toInt)
      exact ih _ (mih hm (by (try simp only [z9.o, true_or, or_true, true_and, and_true]); first | done | omega) (by omega)) l1 l3 (mSet I1 43 44 r2) J1 rfl (Mk_.si (n := 43) (k := 44) (h1) (by decide))
    · have z10 : TI ((mSet I1 43 44 (I1 43 44)) 43 42) (I1 43 42).toInt := (ti_r : TI (I1 43 42) (I1 43 42).toInt)
      exact ih _ (mih hm (by (try simp only [z10.o, true_or, or_true, true_and, and_true]); first | done | omega) (by omega)) l1 l3 (mSet I1 43 44 (I1 43 44)) J1 rfl (Mk_.si (n := 43) (k := 44) (h1) (by decide))
theorem kHeight {S : Nat × (Nat → Int32)} {d : Nat} {x : mX} {I0 : rI0} {J0 : rJ0} {Tl : Int32 × Option Int32} {R C K A : Int} {g : Nat → Int32} {I : rI0} {J : rJ0} {p1 : Int64} {p2 : Int64} {Q : Int32 → rI0 → rJ0 → Prop} (h : Mk_ I0 J0 Tl R C K A g I J) (k : ∀ r I J, (Mk_ I0 J0 Tl R C K A g I J) → Q r I J) : wcI S (d + 5) 202 [.ref 43, .long p1, .long p2] x I J Q := by
  have bh := h.bnd
  refine c202_43 ?_
  refine kBegin (h) ?_
  intro I1 J1 h1 g1a
  have bh1 := h1.bnd
  have z1 : TI ((mSet I1 43 44 (0 : Int32)) 43 42) (I1 43 42).toInt := (ti_r : TI (I1 43 42) (I1 43 42).toInt)
  exact kHeight_11 k _ p1 p2 (mSet I1 43 44 (0 : Int32)) J1 rfl (Mk_.si (n := 43) (k := 44) (h1) (by decide))
variable {S : Nat × (Nat → Int32)} {d : Nat} {x : mX} {I I0 : rI0} {J J0 : rJ0} {Tl : Int32 × Option Int32} {R C : Int}
theorem mBegin {p q : Int64} {Q : rI0 → rJ0 → Prop} (h : Mz_ I0 J0 Tl R C I J) (k : ∀ I' J', Mz_ I0 J0 Tl R C I' J' → (I' 43 42).toInt = 0 → (I' 43 47).toInt = (I 43 47).toInt → I' 45 = I 45 → (I' 43 63).toInt = (I 43 63).toInt → Q I' J') : wcV S (d + 4) 199 [.ref 43, .long p, .long q] x I J Q := kBegin ⟨h, rfl, rfl, rfl⟩ (fun I' J' h' e => k I' J' h'.1 e h'.2.1 h'.2.2.1 h'.2.2.2)
theorem mMoment {Q : rI0 → rJ0 → Prop} (h : Mz_ I0 J0 Tl R C I J) (hp : (I 43 42).toInt ≤ 600) (k : ∀ I' J', Mz_ I0 J0 Tl R C I' J' → (I' 43 42).toInt = (I 43 42).toInt + 1 → (I' 43 47).toInt = (I 43 47).toInt → I' 45 = I 45 → (I' 43 63).toInt = (I 43 63).toInt → Q I' J') : wcV S (d + 3) 200 [.ref 43] x I J Q := kMoment ⟨h, rfl, rfl, rfl⟩ ⟨rfl, hp⟩ (fun I' J' h' e => k I' J' h'.1 e h'.2.1 h'.2.2.1 h'.2.2.2)
theorem mNight {p : Int32} {Q : rI0 → rJ0 → Prop} (h : Mz_ I0 J0 Tl R C I J) (hp : p.toInt ≤ 600) (k : ∀ I' J', Mz_ I0 J0 Tl R C I' J' → (I' 43 47).toInt = (I 43 47).toInt → I' 45 = I 45 → (I' 43 63).toInt = (I 43 63).toInt → Q I' J') : wcV S (d + 5) 201 [.ref 43, .int p] x I J Q := kNight ⟨h, rfl, rfl, rfl⟩ hp (fun I' J' h' => k I' J' h'.1 h'.2.1 h'.2.2.1 h'.2.2.2)
theorem mHeight {p q : Int64} {Q : Int32 → rI0 → rJ0 → Prop} (h : Mz_ I0 J0 Tl R C I J) (k : ∀ r I' J', Mz_ I0 J0 Tl R C I' J' → (I' 43 47).toInt = (I 43 47).toInt → I' 45 = I 45 → (I' 43 63).toInt = (I 43 63).toInt → Q r I' J') : wcI S (d + 5) 202 [.ref 43, .long p, .long q] x I J Q := kHeight ⟨h, rfl, rfl, rfl⟩ (fun r I' J' h' => k r I' J' h'.1 h'.2.1 h'.2.2.1 h'.2.2.2)
end MN1
