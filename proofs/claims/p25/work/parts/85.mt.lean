section MT1
theorem mTakes_43 {S : Nat × (Nat → Int32)} {d : Nat} {x : mX} {I0 : rI0} {J0 : rJ0} {Tl : Int32 × Option Int32} {R C : Int} {p1 : Int32} {p2 : Int32} {Q : Int32 → rI0 → rJ0 → Prop} {N17 : Nat} (k : ∀ r I J, (Mz_ I0 J0 Tl R C I J) → (r.toInt = 0 ∨ (r.toInt = 1 ∧ ((I 43 47).toInt = p2.toInt - p1.toInt ∨ p2.toInt ≤ p1.toInt) ∧ (1 ≤ C ∨ p2.toInt ≤ p1.toInt))) → Q r I J) (K17 : ∀ (l1 : Int32) (l2 : Int32) (l3 : Int32) (I : rI0) (J : rJ0), (Mz_ I0 J0 Tl R C I J) → ((l2.toInt - l3.toInt).toNat < N17) → (l1.toInt = p1.toInt) → (l2.toInt = p2.toInt) → (0 ≤ l1.toInt) → (l2.toInt ≤ 940) → (l1.toInt ≤ l3.toInt) → (l3.toInt ≤ l2.toInt ∨ l3.toInt = l1.toInt) → (l2.toInt - l1.toInt ≤ 14) → ((I 43 47).toInt = l3.toInt - l1.toInt) → (1 ≤ C ∨ l3.toInt ≤ l1.toInt) → wp S (d + 2) 216 17 [some (.ref 43), some (.int l1), some (.int l2), some (.int l3), none, none] [] (wv x I J) (rI x Q)) : ∀ (n : Nat) (l1 : Int32) (l2 : Int32) (l3 : Int32) (l4 : Int32) (l5 : Int32) (I : rI0) (J : rJ0), (Neq (14 - l5.toInt).toNat n) → (Mz_ I0 J0 Tl R C I J) → (l1.toInt = p1.toInt) → (l2.toInt = p2.toInt) → (0 ≤ l1.toInt) → (l2.toInt ≤ 940) → (l1.toInt ≤ l3.toInt) → (l3.toInt < l2.toInt) → (l2.toInt - l1.toInt ≤ 14) → ((I 43 47).toInt = l3.toInt - l1.toInt) → (1 ≤ C) → (0 ≤ l4.toInt) → (l4.toInt ≤ 63) → (0 ≤ l5.toInt) → (Nle (l2.toInt - l3.toInt).toNat N17) → wp S (d + 2) 216 43 [some (.ref 43), some (.int l1), some (.int l2), some (.int l3), some (.int l4), some (.int l5)] [] (wv x I J) (rI x Q) := by
  refine lpn ?_
  intro n ih
  intro l1 l2 l3 l4 l5 I J hm h e0 e1 e2 e3 e4 e5 e6 e7 e8 e9 e10 e11 a0
  have bh := h.bnd
  refine v216_43_43 ?_
  refine ⟨fun q1 => ?_, fun q1 => ?_⟩
  · have c2 := j_lt q1 (ti_r (e := l5)) (ti_r (e := (I 43 47)))
    refine ⟨?_, ?_⟩
    · exact jj_in (e := (l5)) (A := l5.toInt) ti_r (by omega)
    have w3 := h.1.2.2.2.1 (l5.toNatClampNeg)
    refine ⟨fun q4 => ?_, fun q4 => ?_⟩
    · have c5 := j_eq q4 (ti_r (e := (I 56 l5.toNatClampNeg))) (ti_r (e := l4))
      have t6 : TI (0 : Int32) (0) := show (0 : Int32).toInt = 0 by decide
      exact k _ _ _ (h) (by (try simp only [t6.o, true_or, or_true, true_and, and_true]); first | done | omega)
    · have c7 := j_ne q4 (ti_r (e := (I 56 l5.toNatClampNeg))) (ti_r (e := l4))
      have t8 : TI (1 : Int32) (1) := show (1 : Int32).toInt = 1 by decide
      have t9 : TI (l5 + (1 : Int32)) (l5.toInt + 1) := ti_add ti_r t8 (by omega)
      exact ih _ (mih hm (by (try simp only [t9.o, true_or, or_true, true_and, and_true]); first | done | omega) (by omega)) l1 l2 l3 l4 (l5 + (1 : Int32)) I J rfl (h) (by (try simp only [t9.o, true_or, or_true, true_and, and_true]); first | done | omega) (by (try simp only [t9.o, true_or, or_true, true_and, and_true]); first | done | omega) (by (try simp only [t9.o, true_or, or_true, true_and, and_true]); first | done | omega) (by (try simp only [t9.o, true_or, or_true, true_and, and_true]); first | done | omega) (by (try simp only [t9.o, true_or, or_true, true_and, and_true]); first | done | omega) (by (try simp only [t9.o, true_or, or_true, true_and, and_true]); first | done | omega) (by (try simp only [t9.o, true_or, or_true, true_and, and_true]); first | done | omega) (by (try simp only [t9.o, true_or, or_true, true_and, and_true]); first | done | omega) (by (try simp only [t9.o, true_or, or_true, true_and, and_true]); first | done | omega) (by (try simp only [t9.o, true_or, or_true, true_and, and_true]); first | done | omega) (by (try simp only [t9.o, true_or, or_true, true_and, and_true]); first | done | omega) (by (try simp only [t9.o, true_or, or_true, true_and, and_true]); first | done | omega) (mle a0 (by (try simp only [t9.o, true_or, or_true, true_and, and_true]); first | done | omega))
  · have c10 := j_nlt q1 (ti_r (e := l5)) (ti_r (e := (I 43 47)))
    refine ⟨?_, ?_⟩
    · exact jj_in (e := (I 43 47)) (A := (I 43 47).toInt) ti_r (by omega)
    have t11 : TI (1 : Int32) (1) := show (1 : Int32).toInt = 1 by decide
    have t12 : TI (l3 + (1 : Int32)) (l3.toInt + 1) := ti_add ti_r t11 (by omega)
    have t13 : TI ((I 43 47) + (1 : Int32)) ((I 43 47).toInt + 1) := ti_add ti_r t11 (by omega)
    have z14 : TI ((mSet (mSet I 56 ((I 43 47).toNatClampNeg) l4) 43 47 ((I 43 47) + (1 : Int32))) 43 47) ((I 43 47).toInt + 1) := (t13 : TI ((I 43 47) + (1 : Int32)) ((I 43 47).toInt + 1))
    exact K17 l1 l2 (l3 + (1 : Int32)) (mSet (mSet I 56 ((I 43 47).toNatClampNeg) l4) 43 47 ((I 43 47) + (1 : Int32))) J (Mz_.s47 (Mz_.s56 (h) (k := ((I 43 47).toNatClampNeg)) (v := l4) (by omega)) (v := ((I 43 47) + (1 : Int32))) (by (try simp only [t13.o, true_or, or_true, true_and, and_true]); first | done | omega)) (mlt a0 (by (try simp only [t12.o, z14.o, true_or, or_true, true_and, and_true]); first | done | omega) (by omega)) (by (try simp only [t12.o, z14.o, true_or, or_true, true_and, and_true]); first | done | omega) (by (try simp only [t12.o, z14.o, true_or, or_true, true_and, and_true]); first | done | omega) (by (try simp only [t12.o, z14.o, true_or, or_true, true_and, and_true]); first | done | omega) (by (try simp only [t12.o, z14.o, true_or, or_true, true_and, and_true]); first | done | omega) (by (try simp only [t12.o, z14.o, true_or, or_true, true_and, and_true]); first | done | omega) (by (try simp only [t12.o, z14.o, true_or, or_true, true_and, and_true]); first | done | omega) (by (try simp only [t12.o, z14.o, true_or, or_true, true_and, and_true]); first | done | omega) (by (try simp only [t12.o, z14.o, true_or, or_true, true_and, and_true]); first | done | omega) (by (try simp only [t12.o, z14.o, true_or, or_true, true_and, and_true]); first | done | omega)
theorem mTakes_17 {S : Nat × (Nat → Int32)} {d : Nat} {x : mX} {I0 : rI0} {J0 : rJ0} {Tl : Int32 × Option Int32} {R C : Int} {p1 : Int32} {p2 : Int32} {Q : Int32 → rI0 → rJ0 → Prop} (k : ∀ r I J, (Mz_ I0 J0 Tl R C I J) → (r.toInt = 0 ∨ (r.toInt = 1 ∧ ((I 43 47).toInt = p2.toInt - p1.toInt ∨ p2.toInt ≤ p1.toInt) ∧ (1 ≤ C ∨ p2.toInt ≤ p1.toInt))) → Q r I J) : ∀ (n : Nat) (l1 : Int32) (l2 : Int32) (l3 : Int32) (I : rI0) (J : rJ0), (Neq (l2.toInt - l3.toInt).toNat n) → (Mz_ I0 J0 Tl R C I J) → (l1.toInt = p1.toInt) → (l2.toInt = p2.toInt) → (0 ≤ l1.toInt) → (l2.toInt ≤ 940) → (l1.toInt ≤ l3.toInt) → (l3.toInt ≤ l2.toInt ∨ l3.toInt = l1.toInt) → (l2.toInt - l1.toInt ≤ 14) → ((I 43 47).toInt = l3.toInt - l1.toInt) → (1 ≤ C ∨ l3.toInt ≤ l1.toInt) → wp S (d + 2) 216 17 [some (.ref 43), some (.int l1), some (.int l2), some (.int l3), none, none] [] (wv x I J) (rI x Q) := by
  refine lpn ?_
  intro n ih
  intro l1 l2 l3 I J hm h e0 e1 e2 e3 e4 e5 e6 e7 e8
  have bh := h.bnd
  refine v216_43_17 ?_
  refine ⟨fun q1 => ?_, fun q1 => ?_⟩
  · have c2 := j_lt q1 (ti_r (e := l3)) (ti_r (e := l2))
    refine mOctet (by omega) ?_
    intro r1 g1a
    refine mSeat (h) ?_
    intro r2 g2a
    have t3 : TI (0 : Int32) (0) := show (0 : Int32).toInt = 0 by decide
    refine ⟨fun q4 => ?_, fun q4 => ?_⟩
    · have c5 := j_eq q4 (ti_r (e := r2)) t3
      exact k _ _ _ (h) (by (try simp only [t3.o, true_or, or_true, true_and, and_true]); first | done | omega)
    · have c6 := j_ne q4 (ti_r (e := r2)) t3
      exact mTakes_43 k (fun l1_ l2_ l3_ I_ J_ h_ hlt f0_ f1_ f2_ f3_ f4_ f5_ f6_ f7_ f8_ => ih _ hlt l1_ l2_ l3_ I_ J_ rfl h_ f0_ f1_ f2_ f3_ f4_ f5_ f6_ f7_ f8_) _ l1 l2 l3 r1 ((0 : Int32)) I J rfl (h) (by (try simp only [t3.o, true_or, or_true, true_and, and_true]); first | done | omega) (by (try simp only [t3.o, true_or, or_true, true_and, and_true]); first | done | omega) (by (try simp only [t3.o, true_or, or_true, true_and, and_true]); first | done | omega) (by (try simp only [t3.o, true_or, or_true, true_and, and_true]); first | done | omega) (by (try simp only [t3.o, true_or, or_true, true_and, and_true]); first | done | omega) (by (try simp only [t3.o, true_or, or_true, true_and, and_true]); first | done | omega) (by (try simp only [t3.o, true_or, or_true, true_and, and_true]); first | done | omega) (by (try simp only [t3.o, true_or, or_true, true_and, and_true]); first | done | omega) (by (try simp only [t3.o, true_or, or_true, true_and, and_true]); first | done | omega) (by (try simp only [t3.o, true_or, or_true, true_and, and_true]); first | done | omega) (by (try simp only [t3.o, true_or, or_true, true_and, and_true]); first | done | omega) (by (try simp only [t3.o, true_or, or_true, true_and, and_true]); first | done | omega) (mleq hm (by (try simp only [t3.o, true_or, or_true, true_and, and_true]); first | done | omega))
  · have c7 := j_nlt q1 (ti_r (e := l3)) (ti_r (e := l2))
    have t8 : TI (1 : Int32) (1) := show (1 : Int32).toInt = 1 by decide
    exact k _ _ _ (h) (by (try simp only [t8.o, true_or, or_true, true_and, and_true]); first | done | omega)
theorem mTakes {S : Nat × (Nat → Int32)} {d : Nat} {x : mX} {I0 : rI0} {J0 : rJ0} {Tl : Int32 × Option Int32} {R C : Int} {I : rI0} {J : rJ0} {p1 : Int32} {p2 : Int32} {Q : Int32 → rI0 → rJ0 → Prop} (h : Mz_ I0 J0 Tl R C I J) (hp : (0 ≤ p1.toInt ∧ p1.toInt ≤ 940) ∧ 0 ≤ p2.toInt ∧ p2.toInt ≤ 940) (k : ∀ r I J, (Mz_ I0 J0 Tl R C I J) → (r.toInt = 0 ∨ (r.toInt = 1 ∧ ((I 43 47).toInt = p2.toInt - p1.toInt ∨ p2.toInt ≤ p1.toInt) ∧ (1 ≤ C ∨ p2.toInt ≤ p1.toInt))) → Q r I J) : wcI S (d + 2) 216 [.ref 43, .int p1, .int p2] x I J Q := by
  have bh := h.bnd
  refine c216_43 ?_
  have t1 : TI (p2 - p1) (p2.toInt - p1.toInt) := ti_sub ti_r ti_r (by omega)
  have t2 : TI (14 : Int32) (14) := show (14 : Int32).toInt = 14 by decide
  refine ⟨fun q3 => ?_, fun q3 => ?_⟩
  · have c4 := j_lt q3 t2 t1
    have t5 : TI (0 : Int32) (0) := show (0 : Int32).toInt = 0 by decide
    have z6 : TI ((mSet I 43 47 (0 : Int32)) 43 47) 0 := (t5 : TI (0 : Int32) 0)
    exact k _ _ _ (Mz_.s47 (h) (v := ((0 : Int32))) (by (try simp only [t5.o, true_or, or_true, true_and, and_true]); first | done | omega)) (by (try simp only [t5.o, z6.o, true_or, or_true, true_and, and_true]); first | done | omega)
  · have c7 := j_nlt q3 t2 t1
    have t8 : TI (0 : Int32) (0) := show (0 : Int32).toInt = 0 by decide
    have z9 : TI ((mSet I 43 47 (0 : Int32)) 43 47) 0 := (t8 : TI (0 : Int32) 0)
    exact mTakes_17 k _ p1 p2 p1 (mSet I 43 47 (0 : Int32)) J rfl (Mz_.s47 (h) (v := ((0 : Int32))) (by (try simp only [t8.o, true_or, or_true, true_and, and_true]); first | done | omega)) (by (try simp only [z9.o, true_or, or_true, true_and, and_true]); first | done | omega) (by (try simp only [z9.o, true_or, or_true, true_and, and_true]); first | done | omega) (by (try simp only [z9.o, true_or, or_true, true_and, and_true]); first | done | omega) (by (try simp only [z9.o, true_or, or_true, true_and, and_true]); first | done | omega) (by (try simp only [z9.o, true_or, or_true, true_and, and_true]); first | done | omega) (by (try simp only [z9.o, true_or, or_true, true_and, and_true]); first | done | omega) (by (try simp only [z9.o, true_or, or_true, true_and, and_true]); first | done | omega) (by (try simp only [z9.o, true_or, or_true, true_and, and_true]); first | done | omega) (by (try simp only [z9.o, true_or, or_true, true_and, and_true]); first | done | omega)
theorem mEight {S : Nat × (Nat → Int32)} {d : Nat} {x : mX} {I0 : rI0} {J0 : rJ0} {F : Option Int32} {R C : Int} {T0 : Int32} {I : rI0} {J : rJ0} {Q : Int32 → rI0 → rJ0 → Prop} (h : Mz_ I0 J0 (T0, F) R C I J) (k : ∀ r I J, (Mz_ I0 J0 (0, F) R C I J) → (r.toInt = 0 ∨ (r.toInt = 1 ∧ (I 43 47).toInt ≤ 8 ∧ 1 ≤ C)) → Q r I J) : wcI S (d + 3) 217 [.ref 43] x I J Q := by
  have bh := h.bnd
  have bh_1 := h.bn2
  refine c217_43 ?_
  refine mTaken (h) ?_
  intro I1 J1 h1 g1a
  have bh1 := h1.bnd
  have bh1_1 := h1.bn2
  have t1 : TI (1 : Int32) (1) := show (1 : Int32).toInt = 1 by decide
  have t2 : TI (8 : Int32) (8) := show (8 : Int32).toInt = 8 by decide
  refine mIn  ?_
  intro r2 g2a
  try simp only [t1.o, t2.o] at g2a
  have t3 : TI (0 : Int32) (0) := show (0 : Int32).toInt = 0 by decide
  refine ⟨fun q4 => ?_, fun q4 => ?_⟩
  · have c5 := j_eq q4 (ti_r (e := r2)) t3
    exact k _ _ _ (h1) (by (try simp only [t3.o, true_or, or_true, true_and, and_true]); first | done | omega)
  · have c6 := j_ne q4 (ti_r (e := r2)) t3
    refine mTakes (h1) (by (try simp only [t3.o, true_or, or_true, true_and, and_true]); first | done | omega) ?_
    intro r3 I3 J3 h3 g3a
    try simp only [t3.o] at g3a
    have bh3 := h3.bnd
    have bh3_1 := h3.bn2
    refine ⟨fun q7 => ?_, fun q7 => ?_⟩
    · have c8 := j_eq q7 (ti_r (e := r3)) t3
      exact k _ _ _ (h3) (by (try simp only [t3.o, true_or, or_true, true_and, and_true]); first | done | omega)
    · have c9 := j_ne q7 (ti_r (e := r3)) t3
      exact k _ _ _ (h3) (by (try simp only [t1.o, true_or, or_true, true_and, and_true]); first | done | omega)
theorem mBitsOf_5 {S : Nat × (Nat → Int32)} {d : Nat} {x : mX} {I0 : rI0} {J0 : rJ0} {Tl : Int32 × Option Int32} {R C : Int} {I : rI0} {J : rJ0} {Q : Int64 → rI0 → rJ0 → Prop} (k : ∀ r, Q r I J) (h : Mz_ I0 J0 Tl R C I J) : ∀ (n : Nat) (l1 : Int32) (l2 : Int64) (l4 : Int32), (Neq (14 - l4.toInt).toNat n) → (0 ≤ l4.toInt) → wp S (d + 1) 218 5 [some (.ref 43), some (.int l1), some (.long l2), none, some (.int l4)] [] (wv x I J) (rJ x Q) := by
  refine lpn ?_
  intro n ih
  intro l1 l2 l4 hm e0
  have bh := h.bnd
  refine v218_43_5 ?_
  refine ⟨fun q1 => ?_, fun q1 => ?_⟩
  · have c2 := j_lt q1 (ti_r (e := l4)) (ti_r (e := (I 43 47)))
    refine mHas  ?_
    intro r1 g1a
    have t3 : TI (0 : Int32) (0) := show (0 : Int32).toInt = 0 by decide
    refine ⟨fun q4 => ?_, fun q4 => ?_⟩
    · have c5 := j_eq q4 (ti_r (e := r1)) t3
      have t6 : TI (1 : Int32) (1) := show (1 : Int32).toInt = 1 by decide
      have t7 : TI (l4 + (1 : Int32)) (l4.toInt + 1) := ti_add ti_r t6 (by omega)
      exact ih _ (mih hm (by (try simp only [t7.o, true_or, or_true, true_and, and_true]); first | done | omega) (by omega)) l1 (l2 ||| (0 : Int64)) (l4 + (1 : Int32)) rfl (by (try simp only [t7.o, true_or, or_true, true_and, and_true]); first | done | omega)
    · have c8 := j_ne q4 (ti_r (e := r1)) t3
      refine ⟨?_, ?_⟩
      · exact jj_in (e := (l4)) (A := l4.toInt) ti_r (by omega)
      have w9 := h.1.2.2.2.1 (l4.toNatClampNeg)
      have t10 : TI (1 : Int32) (1) := show (1 : Int32).toInt = 1 by decide
      have t11 : TI (l4 + (1 : Int32)) (l4.toInt + 1) := ti_add ti_r t10 (by omega)
      exact ih _ (mih hm (by (try simp only [t11.o, true_or, or_true, true_and, and_true]); first | done | omega) (by omega)) l1 (l2 ||| ((1 : Int64) <<< ((I 56 l4.toNatClampNeg).toInt64 &&& 63))) (l4 + (1 : Int32)) rfl (by (try simp only [t11.o, true_or, or_true, true_and, and_true]); first | done | omega)
  · have c12 := j_nlt q1 (ti_r (e := l4)) (ti_r (e := (I 43 47)))
    exact k _
theorem mBitsOf {S : Nat × (Nat → Int32)} {d : Nat} {x : mX} {I0 : rI0} {J0 : rJ0} {Tl : Int32 × Option Int32} {R C : Int} {I : rI0} {J : rJ0} {p1 : Int32} {Q : Int64 → rI0 → rJ0 → Prop} (h : Mz_ I0 J0 Tl R C I J) (k : ∀ r, Q r I J) : wcJ S (d + 1) 218 [.ref 43, .int p1] x I J Q := by
  have bh := h.bnd
  refine c218_43 ?_
  have t1 : TI (0 : Int32) (0) := show (0 : Int32).toInt = 0 by decide
  exact mBitsOf_5 k h _ p1 ((0 : Int64)) ((0 : Int32)) rfl (by (try simp only [t1.o, true_or, or_true, true_and, and_true]); first | done | omega)
theorem mCheapest_111 {S : Nat × (Nat → Int32)} {d : Nat} {x : mX} {I0 : rI0} {J0 : rJ0} {F : Option Int32} {R C : Int} {Q : Int32 → rI0 → rJ0 → Prop} {N23 : Nat} (k : ∀ r I J, (Mz_ I0 J0 (0, F) R C I J) → Q r I J) (K23 : ∀ (l1 : Int32) (l2 : Int32) (l3 : Int32) (I : rI0) (J : rJ0), (Mz_ I0 J0 (0, F) R C I J) → ((256 - l3.toInt).toNat < N23) → ((I 43 47).toInt ≤ 8) → (1 ≤ C) → (0 ≤ l3.toInt) → (l3.toInt ≤ 256) → wp S (d + 6) 219 23 [some (.ref 43), some (.int l1), some (.int l2), some (.int l3), none, none] [] (wv x I J) (rI x Q)) : ∀ (l1 : Int32) (l2 : Int32) (l3 : Int32) (l4 : Int32) (l5 : Int32) (I : rI0) (J : rJ0), (Mz_ I0 J0 (0, F) R C I J) → ((I 43 47).toInt ≤ 8) → (1 ≤ C) → (0 ≤ l3.toInt) → (l3.toInt < 256) → (Nle (256 - l3.toInt).toNat N23) → wp S (d + 6) 219 111 [some (.ref 43), some (.int l1), some (.int l2), some (.int l3), some (.int l4), some (.int l5)] [] (wv x I J) (rI x Q) := by
  intro l1 l2 l3 l4 l5 I J h e0 e1 e2 e3 a0
  have bh := h.bnd
  refine v219_43_111 ?_
  refine mBitsOf (h) ?_
  intro r1
  refine mHeight (h) ?_
  intro r2 I2 J2 h2 g2a g2b g2c
  have bh2 := h2.bnd
  have t1 : TI (0 : Int32) (0) := show (0 : Int32).toInt = 0 by decide
  refine ⟨fun q2 => ?_, fun q2 => ?_⟩
  · have c3 := j_eq q2 (ti_r (e := (I2 43 45))) t1
    have t4 : TI (1 : Int32) (1) := show (1 : Int32).toInt = 1 by decide
    have t5 : TI (l3 + (1 : Int32)) (l3.toInt + 1) := ti_add ti_r t4 (by omega)
    exact K23 l1 l2 (l3 + (1 : Int32)) I2 J2 (h2) (mlt a0 (by (try simp only [t5.o, true_or, or_true, true_and, and_true]); first | done | omega) (by omega)) (by (try simp only [t5.o, true_or, or_true, true_and, and_true]); first | done | omega) (by (try simp only [t5.o, true_or, or_true, true_and, and_true]); first | done | omega) (by (try simp only [t5.o, true_or, or_true, true_and, and_true]); first | done | omega) (by (try simp only [t5.o, true_or, or_true, true_and, and_true]); first | done | omega)
  · have c6 := j_ne q2 (ti_r (e := (I2 43 45))) t1
    have t7 : TI (1 : Int32) (1) := show (1 : Int32).toInt = 1 by decide
    have t8 : TI (l3 + (1 : Int32)) (l3.toInt + 1) := ti_add ti_r t7 (by omega)
    exact K23 l3 l4 (l3 + (1 : Int32)) I2 J2 (h2) (mlt a0 (by (try simp only [t8.o, true_or, or_true, true_and, and_true]); first | done | omega) (by omega)) (by (try simp only [t8.o, true_or, or_true, true_and, and_true]); first | done | omega) (by (try simp only [t8.o, true_or, or_true, true_and, and_true]); first | done | omega) (by (try simp only [t8.o, true_or, or_true, true_and, and_true]); first | done | omega) (by (try simp only [t8.o, true_or, or_true, true_and, and_true]); first | done | omega)
theorem mCheapest_39 {S : Nat × (Nat → Int32)} {d : Nat} {x : mX} {I0 : rI0} {J0 : rJ0} {F : Option Int32} {R C : Int} {Q : Int32 → rI0 → rJ0 → Prop} {N23 : Nat} (k : ∀ r I J, (Mz_ I0 J0 (0, F) R C I J) → Q r I J) (K23 : ∀ (l1 : Int32) (l2 : Int32) (l3 : Int32) (I : rI0) (J : rJ0), (Mz_ I0 J0 (0, F) R C I J) → ((256 - l3.toInt).toNat < N23) → ((I 43 47).toInt ≤ 8) → (1 ≤ C) → (0 ≤ l3.toInt) → (l3.toInt ≤ 256) → wp S (d + 6) 219 23 [some (.ref 43), some (.int l1), some (.int l2), some (.int l3), none, none] [] (wv x I J) (rI x Q)) : ∀ (n : Nat) (l1 : Int32) (l2 : Int32) (l3 : Int32) (l4 : Int32) (l5 : Int32) (I : rI0) (J : rJ0), (Neq (8 - l5.toInt).toNat n) → (Mz_ I0 J0 (0, F) R C I J) → ((I 43 47).toInt ≤ 8) → (1 ≤ C) → (0 ≤ l3.toInt) → (l3.toInt < 256) → (0 ≤ l5.toInt) → (l5.toInt ≤ 8) → (Nle (256 - l3.toInt).toNat N23) → wp S (d + 6) 219 39 [some (.ref 43), some (.int l1), some (.int l2), some (.int l3), some (.int l4), some (.int l5)] [] (wv x I J) (rI x Q) := by
  refine lpn ?_
  intro n ih
  intro l1 l2 l3 l4 l5 I J hm h e0 e1 e2 e3 e4 e5 a0
  have bh := h.bnd
  refine v219_43_39 ?_
  refine ⟨fun q1 => ?_, fun q1 => ?_⟩
  · have c2 := j_lt q1 (ti_r (e := l5)) (ti_r (e := (I 43 47)))
    refine mHas  ?_
    intro r1 g1a
    have t3 : TI (0 : Int32) (0) := show (0 : Int32).toInt = 0 by decide
    refine ⟨fun q4 => ?_, fun q4 => ?_⟩
    · have c5 := j_eq q4 (ti_r (e := r1)) t3
      have t6 : TI (1 : Int32) (1) := show (1 : Int32).toInt = 1 by decide
      have t7 : TI (l5 + (1 : Int32)) (l5.toInt + 1) := ti_add ti_r t6 (by omega)
      exact ih _ (mih hm (by (try simp only [t7.o, true_or, or_true, true_and, and_true]); first | done | omega) (by omega)) l1 l2 l3 (l4 + (0 : Int32)) (l5 + (1 : Int32)) I J rfl (h) (by (try simp only [t7.o, true_or, or_true, true_and, and_true]); first | done | omega) (by (try simp only [t7.o, true_or, or_true, true_and, and_true]); first | done | omega) (by (try simp only [t7.o, true_or, or_true, true_and, and_true]); first | done | omega) (by (try simp only [t7.o, true_or, or_true, true_and, and_true]); first | done | omega) (by (try simp only [t7.o, true_or, or_true, true_and, and_true]); first | done | omega) (by (try simp only [t7.o, true_or, or_true, true_and, and_true]); first | done | omega) (mle a0 (by (try simp only [t7.o, true_or, or_true, true_and, and_true]); first | done | omega))
    · have c8 := j_ne q4 (ti_r (e := r1)) t3
      refine ⟨?_, ?_⟩
      · exact jj_in (e := (l5)) (A := l5.toInt) ti_r (by omega)
      have w9 := h.1.2.2.2.1 (l5.toNatClampNeg)
      refine mPrice (h) (by omega) ?_
      intro r2
      have t10 : TI (1 : Int32) (1) := show (1 : Int32).toInt = 1 by decide
      have t11 : TI (l5 + (1 : Int32)) (l5.toInt + 1) := ti_add ti_r t10 (by omega)
      exact ih _ (mih hm (by (try simp only [t11.o, true_or, or_true, true_and, and_true]); first | done | omega) (by omega)) l1 l2 l3 (l4 + r2) (l5 + (1 : Int32)) I J rfl (h) (by (try simp only [t11.o, true_or, or_true, true_and, and_true]); first | done | omega) (by (try simp only [t11.o, true_or, or_true, true_and, and_true]); first | done | omega) (by (try simp only [t11.o, true_or, or_true, true_and, and_true]); first | done | omega) (by (try simp only [t11.o, true_or, or_true, true_and, and_true]); first | done | omega) (by (try simp only [t11.o, true_or, or_true, true_and, and_true]); first | done | omega) (by (try simp only [t11.o, true_or, or_true, true_and, and_true]); first | done | omega) (mle a0 (by (try simp only [t11.o, true_or, or_true, true_and, and_true]); first | done | omega))
  · have c12 := j_nlt q1 (ti_r (e := l5)) (ti_r (e := (I 43 47)))
    refine ⟨fun q13 => ?_, fun q13 => ?_⟩
    · have c14 := j_lt q13 (ti_r (e := l2)) (ti_r (e := l4))
      have t15 : TI (1 : Int32) (1) := show (1 : Int32).toInt = 1 by decide
      have t16 : TI (l3 + (1 : Int32)) (l3.toInt + 1) := ti_add ti_r t15 (by omega)
      exact K23 l1 l2 (l3 + (1 : Int32)) I J (h) (mlt a0 (by (try simp only [t16.o, true_or, or_true, true_and, and_true]); first | done | omega) (by omega)) (by (try simp only [t16.o, true_or, or_true, true_and, and_true]); first | done | omega) (by (try simp only [t16.o, true_or, or_true, true_and, and_true]); first | done | omega) (by (try simp only [t16.o, true_or, or_true, true_and, and_true]); first | done | omega) (by (try simp only [t16.o, true_or, or_true, true_and, and_true]); first | done | omega)
    · have c17 := j_nlt q13 (ti_r (e := l2)) (ti_r (e := l4))
      refine ⟨fun q18 => ?_, fun q18 => ?_⟩
      · have c19 := j_eq q18 (ti_r (e := l4)) (ti_r (e := l2))
        refine mBits  ?_
        intro r3 g3a
        refine mBits  ?_
        intro r4 g4a
        refine ⟨fun q20 => ?_, fun q20 => ?_⟩
        · have c21 := j_lt q20 (ti_r (e := r3)) (ti_r (e := r4))
          exact mCheapest_111 k K23 l1 l2 l3 l4 l5 I J (h) (by omega) (by omega) (by omega) (by omega) (mle a0 (by omega))
        · have c22 := j_nlt q20 (ti_r (e := r3)) (ti_r (e := r4))
          have t23 : TI (1 : Int32) (1) := show (1 : Int32).toInt = 1 by decide
          have t24 : TI (l3 + (1 : Int32)) (l3.toInt + 1) := ti_add ti_r t23 (by omega)
          exact K23 l1 l2 (l3 + (1 : Int32)) I J (h) (mlt a0 (by (try simp only [t24.o, true_or, or_true, true_and, and_true]); first | done | omega) (by omega)) (by (try simp only [t24.o, true_or, or_true, true_and, and_true]); first | done | omega) (by (try simp only [t24.o, true_or, or_true, true_and, and_true]); first | done | omega) (by (try simp only [t24.o, true_or, or_true, true_and, and_true]); first | done | omega) (by (try simp only [t24.o, true_or, or_true, true_and, and_true]); first | done | omega)
      · have c25 := j_ne q18 (ti_r (e := l4)) (ti_r (e := l2))
        exact mCheapest_111 k K23 l1 l2 l3 l4 l5 I J (h) (by omega) (by omega) (by omega) (by omega) (mle a0 (by omega))
theorem mCheapest_23 {S : Nat × (Nat → Int32)} {d : Nat} {x : mX} {I0 : rI0} {J0 : rJ0} {F : Option Int32} {R C : Int} {Q : Int32 → rI0 → rJ0 → Prop} (k : ∀ r I J, (Mz_ I0 J0 (0, F) R C I J) → Q r I J) : ∀ (n : Nat) (l1 : Int32) (l2 : Int32) (l3 : Int32) (I : rI0) (J : rJ0), (Neq (256 - l3.toInt).toNat n) → (Mz_ I0 J0 (0, F) R C I J) → ((I 43 47).toInt ≤ 8) → (1 ≤ C) → (0 ≤ l3.toInt) → (l3.toInt ≤ 256) → wp S (d + 6) 219 23 [some (.ref 43), some (.int l1), some (.int l2), some (.int l3), none, none] [] (wv x I J) (rI x Q) := by
  refine lpn ?_
  intro n ih
  intro l1 l2 l3 I J hm h e0 e1 e2 e3
  have bh := h.bnd
  refine v219_43_23 ?_
  obtain ⟨g2, t1, bt1⟩ := ti_shl (n := (I 43 47)) ti_r (by omega)
  refine ⟨fun q3 => ?_, fun q3 => ?_⟩
  · have c4 := j_lt q3 (ti_r (e := l3)) t1
    have t5 : TI (0 : Int32) (0) := show (0 : Int32).toInt = 0 by decide
    exact mCheapest_39 k (fun l1_ l2_ l3_ I_ J_ h_ hlt f0_ f1_ f2_ f3_ => ih _ hlt l1_ l2_ l3_ I_ J_ rfl h_ f0_ f1_ f2_ f3_) _ l1 l2 l3 ((0 : Int32)) ((0 : Int32)) I J rfl (h) (by (try simp only [t5.o, true_or, or_true, true_and, and_true]); first | done | omega) (by (try simp only [t5.o, true_or, or_true, true_and, and_true]); first | done | omega) (by (try simp only [t5.o, true_or, or_true, true_and, and_true]); first | done | omega) (by (try simp only [t5.o, true_or, or_true, true_and, and_true]); first | done | omega) (by (try simp only [t5.o, true_or, or_true, true_and, and_true]); first | done | omega) (by (try simp only [t5.o, true_or, or_true, true_and, and_true]); first | done | omega) (mleq hm (by (try simp only [t5.o, true_or, or_true, true_and, and_true]); first | done | omega))
  · have c6 := j_nlt q3 (ti_r (e := l3)) t1
    have t7 : TI (0 : Int32) (0) := show (0 : Int32).toInt = 0 by decide
    refine ⟨fun q8 => ?_, fun q8 => ?_⟩
    · have c9 := j_lt q8 (ti_r (e := l1)) t7
      exact k _ _ _ (h)
    · have c10 := j_nlt q8 (ti_r (e := l1)) t7
      exact k _ _ _ (Mz_.si (n := 43) (k := 48) (h) (by decide))
theorem mCheapest {S : Nat × (Nat → Int32)} {d : Nat} {x : mX} {I0 : rI0} {J0 : rJ0} {F : Option Int32} {R C : Int} {T0 : Int32} {I : rI0} {J : rJ0} {Q : Int32 → rI0 → rJ0 → Prop} (h : Mz_ I0 J0 (T0, F) R C I J) (k : ∀ r I J, (Mz_ I0 J0 (0, F) R C I J) → Q r I J) : wcI S (d + 6) 219 [.ref 43] x I J Q := by
  have bh := h.bnd
  refine c219_43 ?_
  obtain ⟨I1, eI1⟩ : ∃ z, z = (mSet I 43 0 (0 : Int32)) := ⟨_, rfl⟩
  rw [← eI1]
  have hI1 : Mz_ I0 J0 (T0, F) R C I1 J := by rw [eI1]; exact (Mz_.si (n := 43) (k := 0) (h) (by decide))
  have zI1_47 : (I1 43 47).toInt = (I 43 47).toInt := by rw [eI1]; exact (ti_r : TI (I 43 47) (I 43 47).toInt)
  have zI1_42 : (I1 43 42).toInt = (I 43 42).toInt := by rw [eI1]; exact (ti_r : TI (I 43 42) (I 43 42).toInt)
  have zI1_63 : (I1 43 63).toInt = (I 43 63).toInt := by rw [eI1]; exact (ti_r : TI (I 43 63) (I 43 63).toInt)
  have zI1_3 : (I1 43 3).toInt = (I 43 3).toInt := by rw [eI1]; exact (ti_r : TI (I 43 3) (I 43 3).toInt)
  have yI1 : I1 45 = I 45 := by rw [eI1]; rfl
  have bhI1 := hI1.bnd
  refine mEight (hI1) ?_
  intro r1 I1 J1 h1 g1a
  have bh1 := h1.bnd
  have t2 : TI (0 : Int32) (0) := show (0 : Int32).toInt = 0 by decide
  refine ⟨fun q3 => ?_, fun q3 => ?_⟩
  · have c4 := j_eq q3 (ti_r (e := r1)) t2
    exact k _ _ _ (h1)
  · have c5 := j_ne q3 (ti_r (e := r1)) t2
    exact mCheapest_23 k _ ((-1 : Int32)) ((1000000000 : Int32)) ((0 : Int32)) I1 J1 rfl (h1) (by (try simp only [t2.o, true_or, or_true, true_and, and_true]); first | done | omega) (by (try simp only [t2.o, true_or, or_true, true_and, and_true]); first | done | omega) (by (try simp only [t2.o, true_or, or_true, true_and, and_true]); first | done | omega) (by (try simp only [t2.o, true_or, or_true, true_and, and_true]); first | done | omega)
theorem mHush_49 {S : Nat × (Nat → Int32)} {d : Nat} {x : mX} {I0 : rI0} {J0 : rJ0} {F : Option Int32} {R C : Int} {Q : Int32 → rI0 → rJ0 → Prop} {N19 : Nat} (k : ∀ r I J, (Mz_ I0 J0 (0, F) R C I J) → Q r I J) (K19 : ∀ (l1 : Int32) (l2 : Int32) (I : rI0) (J : rJ0), (Mz_ I0 J0 (0, F) R C I J) → ((256 - l2.toInt).toNat < N19) → ((I 43 47).toInt ≤ 8) → (1 ≤ C) → (0 ≤ l2.toInt) → (l2.toInt ≤ 256) → wp S (d + 6) 221 19 [some (.ref 43), some (.int l1), some (.int l2)] [] (wv x I J) (rI x Q)) : ∀ (l1 : Int32) (l2 : Int32) (I : rI0) (J : rJ0), (Mz_ I0 J0 (0, F) R C I J) → ((I 43 47).toInt ≤ 8) → (1 ≤ C) → (0 ≤ l2.toInt) → (l2.toInt < 256) → (Nle (256 - l2.toInt).toNat N19) → wp S (d + 6) 221 49 [some (.ref 43), some (.int l1), some (.int l2)] [] (wv x I J) (rI x Q) := by
  intro l1 l2 I J h e0 e1 e2 e3 a0
  have bh := h.bnd
  refine v221_43_49 ?_
  refine mBitsOf (h) ?_
  intro r1
  refine mHeight (h) ?_
  intro r2 I2 J2 h2 g2a g2b g2c
  have bh2 := h2.bnd
  have t1 : TI (0 : Int32) (0) := show (0 : Int32).toInt = 0 by decide
  refine ⟨fun q2 => ?_, fun q2 => ?_⟩
  · have c3 := j_eq q2 (ti_r (e := (I2 43 45))) t1
    have t4 : TI (1 : Int32) (1) := show (1 : Int32).toInt = 1 by decide
    have t5 : TI (l2 + (1 : Int32)) (l2.toInt + 1) := ti_add ti_r t4 (by omega)
    exact K19 l2 (l2 + (1 : Int32)) I2 J2 (h2) (mlt a0 (by (try simp only [t5.o, true_or, or_true, true_and, and_true]); first | done | omega) (by omega)) (by (try simp only [t5.o, true_or, or_true, true_and, and_true]); first | done | omega) (by (try simp only [t5.o, true_or, or_true, true_and, and_true]); first | done | omega) (by (try simp only [t5.o, true_or, or_true, true_and, and_true]); first | done | omega) (by (try simp only [t5.o, true_or, or_true, true_and, and_true]); first | done | omega)
  · have c6 := j_ne q2 (ti_r (e := (I2 43 45))) t1
    have t7 : TI (1 : Int32) (1) := show (1 : Int32).toInt = 1 by decide
    have t8 : TI (l2 + (1 : Int32)) (l2.toInt + 1) := ti_add ti_r t7 (by omega)
    exact K19 l1 (l2 + (1 : Int32)) I2 J2 (h2) (mlt a0 (by (try simp only [t8.o, true_or, or_true, true_and, and_true]); first | done | omega) (by omega)) (by (try simp only [t8.o, true_or, or_true, true_and, and_true]); first | done | omega) (by (try simp only [t8.o, true_or, or_true, true_and, and_true]); first | done | omega) (by (try simp only [t8.o, true_or, or_true, true_and, and_true]); first | done | omega) (by (try simp only [t8.o, true_or, or_true, true_and, and_true]); first | done | omega)
theorem mHush_19 {S : Nat × (Nat → Int32)} {d : Nat} {x : mX} {I0 : rI0} {J0 : rJ0} {F : Option Int32} {R C : Int} {Q : Int32 → rI0 → rJ0 → Prop} (k : ∀ r I J, (Mz_ I0 J0 (0, F) R C I J) → Q r I J) : ∀ (n : Nat) (l1 : Int32) (l2 : Int32) (I : rI0) (J : rJ0), (Neq (256 - l2.toInt).toNat n) → (Mz_ I0 J0 (0, F) R C I J) → ((I 43 47).toInt ≤ 8) → (1 ≤ C) → (0 ≤ l2.toInt) → (l2.toInt ≤ 256) → wp S (d + 6) 221 19 [some (.ref 43), some (.int l1), some (.int l2)] [] (wv x I J) (rI x Q) := by
  refine lpn ?_
  intro n ih
  intro l1 l2 I J hm h e0 e1 e2 e3
  have bh := h.bnd
  refine v221_43_19 ?_
  obtain ⟨g2, t1, bt1⟩ := ti_shl (n := (I 43 47)) ti_r (by omega)
  refine ⟨fun q3 => ?_, fun q3 => ?_⟩
  · have c4 := j_lt q3 (ti_r (e := l2)) t1
    have t5 : TI (0 : Int32) (0) := show (0 : Int32).toInt = 0 by decide
    refine ⟨fun q6 => ?_, fun q6 => ?_⟩
    · have c7 := j_lt q6 (ti_r (e := l1)) t5
      exact mHush_49 k (fun l1_ l2_ I_ J_ h_ hlt f0_ f1_ f2_ f3_ => ih _ hlt l1_ l2_ I_ J_ rfl h_ f0_ f1_ f2_ f3_) l1 l2 I J (h) (by omega) (by omega) (by omega) (by omega) (mleq hm (by omega))
    · have c8 := j_nlt q6 (ti_r (e := l1)) t5
      refine mBits  ?_
      intro r1 g1a
      refine mBits  ?_
      intro r2 g2a
      refine ⟨fun q9 => ?_, fun q9 => ?_⟩
      · have c10 := j_lt q9 (ti_r (e := r1)) (ti_r (e := r2))
        exact mHush_49 k (fun l1_ l2_ I_ J_ h_ hlt f0_ f1_ f2_ f3_ => ih _ hlt l1_ l2_ I_ J_ rfl h_ f0_ f1_ f2_ f3_) l1 l2 I J (h) (by omega) (by omega) (by omega) (by omega) (mleq hm (by omega))
      · have c11 := j_nlt q9 (ti_r (e := r1)) (ti_r (e := r2))
        have t12 : TI (1 : Int32) (1) := show (1 : Int32).toInt = 1 by decide
        have t13 : TI (l2 + (1 : Int32)) (l2.toInt + 1) := ti_add ti_r t12 (by omega)
        exact ih _ (mih hm (by (try simp only [t13.o, true_or, or_true, true_and, and_true]); first | done | omega) (by omega)) l1 (l2 + (1 : Int32)) I J rfl (h) (by (try simp only [t13.o, true_or, or_true, true_and, and_true]); first | done | omega) (by (try simp only [t13.o, true_or, or_true, true_and, and_true]); first | done | omega) (by (try simp only [t13.o, true_or, or_true, true_and, and_true]); first | done | omega) (by (try simp only [t13.o, true_or, or_true, true_and, and_true]); first | done | omega)
  · have c14 := j_nlt q3 (ti_r (e := l2)) t1
    exact k _ _ _ (h)
theorem mHush {S : Nat × (Nat → Int32)} {d : Nat} {x : mX} {I0 : rI0} {J0 : rJ0} {F : Option Int32} {R C : Int} {T0 : Int32} {I : rI0} {J : rJ0} {Q : Int32 → rI0 → rJ0 → Prop} (h : Mz_ I0 J0 (T0, F) R C I J) (k : ∀ r I J, (Mz_ I0 J0 (0, F) R C I J) → Q r I J) : wcI S (d + 6) 221 [.ref 43] x I J Q := by
  have bh := h.bnd
  refine c221_43 ?_
  obtain ⟨I1, eI1⟩ : ∃ z, z = (mSet I 43 0 (0 : Int32)) := ⟨_, rfl⟩
  rw [← eI1]
  have hI1 : Mz_ I0 J0 (T0, F) R C I1 J := by rw [eI1]; exact (Mz_.si (n := 43) (k := 0) (h) (by decide))
  have zI1_47 : (I1 43 47).toInt = (I 43 47).toInt := by rw [eI1]; exact (ti_r : TI (I 43 47) (I 43 47).toInt)
  have zI1_42 : (I1 43 42).toInt = (I 43 42).toInt := by rw [eI1]; exact (ti_r : TI (I 43 42) (I 43 42).toInt)
  have zI1_63 : (I1 43 63).toInt = (I 43 63).toInt := by rw [eI1]; exact (ti_r : TI (I 43 63) (I 43 63).toInt)
  have zI1_3 : (I1 43 3).toInt = (I 43 3).toInt := by rw [eI1]; exact (ti_r : TI (I 43 3) (I 43 3).toInt)
  have yI1 : I1 45 = I 45 := by rw [eI1]; rfl
  have bhI1 := hI1.bnd
  refine mEight (hI1) ?_
  intro r1 I1 J1 h1 g1a
  have bh1 := h1.bnd
  have t2 : TI (0 : Int32) (0) := show (0 : Int32).toInt = 0 by decide
  refine ⟨fun q3 => ?_, fun q3 => ?_⟩
  · have c4 := j_eq q3 (ti_r (e := r1)) t2
    exact k _ _ _ (h1)
  · have c5 := j_ne q3 (ti_r (e := r1)) t2
    exact mHush_19 k _ ((-1 : Int32)) ((0 : Int32)) I1 J1 rfl (h1) (by (try simp only [t2.o, true_or, or_true, true_and, and_true]); first | done | omega) (by (try simp only [t2.o, true_or, or_true, true_and, and_true]); first | done | omega) (by (try simp only [t2.o, true_or, or_true, true_and, and_true]); first | done | omega) (by (try simp only [t2.o, true_or, or_true, true_and, and_true]); first | done | omega)
theorem mCoal_74 {S : Nat × (Nat → Int32)} {d : Nat} {x : mX} {I0 : rI0} {J0 : rJ0} {F : Option Int32} {R C : Int} {Q : Int32 → rI0 → rJ0 → Prop} {N26 : Nat} (k : ∀ r I J, (Mz_ I0 J0 (0, F) R C I J) → Q r I J) (K26 : ∀ (l1 : Int32) (l2 : Int32) (l3 : Int32) (I : rI0) (J : rJ0), (Mz_ I0 J0 (0, F) R C I J) → ((256 - l3.toInt).toNat < N26) → ((I 43 47).toInt ≤ 8) → (1 ≤ C) → (0 ≤ l3.toInt) → (l3.toInt ≤ 256) → wp S (d + 6) 222 26 [some (.ref 43), some (.int l1), some (.int l2), some (.int l3), none, none] [] (wv x I J) (rI x Q)) : ∀ (n : Nat) (l1 : Int32) (l2 : Int32) (l3 : Int32) (l4 : Int32) (l5 : Int32) (I : rI0) (J : rJ0), (Neq (l3.toInt - l5.toInt).toNat n) → (Mz_ I0 J0 (0, F) R C I J) → ((I 43 47).toInt ≤ 8) → (1 ≤ C) → (0 ≤ l3.toInt) → (l3.toInt < 256) → (0 ≤ l5.toInt) → (l5.toInt ≤ l3.toInt) → (Nle (256 - l3.toInt).toNat N26) → wp S (d + 6) 222 74 [some (.ref 43), some (.int l1), some (.int l2), some (.int l3), some (.int l4), some (.int l5)] [] (wv x I J) (rI x Q) := by
  refine lpn ?_
  intro n ih
  intro l1 l2 l3 l4 l5 I J hm h e0 e1 e2 e3 e4 e5 a0
  have bh := h.bnd
  refine v222_43_74 ?_
  refine ⟨fun q1 => ?_, fun q1 => ?_⟩
  · have c2 := j_lt q1 (ti_r (e := l5)) (ti_r (e := l3))
    have t3 : TI (0 : Int32) (0) := show (0 : Int32).toInt = 0 by decide
    refine ⟨fun q4 => ?_, fun q4 => ?_⟩
    · have c5 := j_eq q4 (ti_r (e := l4)) t3
      refine ⟨fun q6 => ?_, fun q6 => ?_⟩
      · have c7 := j_eq q6 (ti_r (e := l4)) t3
        have t8 : TI (1 : Int32) (1) := show (1 : Int32).toInt = 1 by decide
        have t9 : TI (l3 + (1 : Int32)) (l3.toInt + 1) := ti_add ti_r t8 (by omega)
        exact K26 l1 l2 (l3 + (1 : Int32)) I J (h) (mlt a0 (by (try simp only [t9.o, true_or, or_true, true_and, and_true]); first | done | omega) (by omega)) (by (try simp only [t9.o, true_or, or_true, true_and, and_true]); first | done | omega) (by (try simp only [t9.o, true_or, or_true, true_and, and_true]); first | done | omega) (by (try simp only [t9.o, true_or, or_true, true_and, and_true]); first | done | omega) (by (try simp only [t9.o, true_or, or_true, true_and, and_true]); first | done | omega)
      · have c10 := j_ne q6 (ti_r (e := l4)) t3
        refine ⟨fun q11 => ?_, fun q11 => ?_⟩
        · have c12 := j_eq q11 (ti_r (e := l2)) (ti_r (e := l1))
          exact k _ _ _ (h)
        · have c13 := j_ne q11 (ti_r (e := l2)) (ti_r (e := l1))
          have t14 : TI (1 : Int32) (1) := show (1 : Int32).toInt = 1 by decide
          have t15 : TI (l3 + (1 : Int32)) (l3.toInt + 1) := ti_add ti_r t14 (by omega)
          exact K26 l1 (l2 + (1 : Int32)) (l3 + (1 : Int32)) I J (h) (mlt a0 (by (try simp only [t15.o, true_or, or_true, true_and, and_true]); first | done | omega) (by omega)) (by (try simp only [t15.o, true_or, or_true, true_and, and_true]); first | done | omega) (by (try simp only [t15.o, true_or, or_true, true_and, and_true]); first | done | omega) (by (try simp only [t15.o, true_or, or_true, true_and, and_true]); first | done | omega) (by (try simp only [t15.o, true_or, or_true, true_and, and_true]); first | done | omega)
    · have c16 := j_ne q4 (ti_r (e := l4)) t3
      refine ⟨fun q17 => ?_, fun q17 => ?_⟩
      · refine ⟨?_, ?_⟩
        · exact jj_in (e := (l5)) (A := l5.toInt) ti_r (by omega)
        refine ⟨fun q18 => ?_, fun q18 => ?_⟩
        · have c19 := j_eq q18 (ti_r (e := (I 57 l5.toNatClampNeg))) t3
          have t20 : TI (1 : Int32) (1) := show (1 : Int32).toInt = 1 by decide
          have t21 : TI (l5 + (1 : Int32)) (l5.toInt + 1) := ti_add ti_r t20 (by omega)
          exact ih _ (mih hm (by (try simp only [t21.o, true_or, or_true, true_and, and_true]); first | done | omega) (by omega)) l1 l2 l3 ((1 : Int32)) (l5 + (1 : Int32)) I J rfl (h) (by (try simp only [t21.o, true_or, or_true, true_and, and_true]); first | done | omega) (by (try simp only [t21.o, true_or, or_true, true_and, and_true]); first | done | omega) (by (try simp only [t21.o, true_or, or_true, true_and, and_true]); first | done | omega) (by (try simp only [t21.o, true_or, or_true, true_and, and_true]); first | done | omega) (by (try simp only [t21.o, true_or, or_true, true_and, and_true]); first | done | omega) (by (try simp only [t21.o, true_or, or_true, true_and, and_true]); first | done | omega) (mle a0 (by (try simp only [t21.o, true_or, or_true, true_and, and_true]); first | done | omega))
        · have c22 := j_ne q18 (ti_r (e := (I 57 l5.toNatClampNeg))) t3
          have t23 : TI (1 : Int32) (1) := show (1 : Int32).toInt = 1 by decide
          have t24 : TI (l5 + (1 : Int32)) (l5.toInt + 1) := ti_add ti_r t23 (by omega)
          exact ih _ (mih hm (by (try simp only [t24.o, true_or, or_true, true_and, and_true]); first | done | omega) (by omega)) l1 l2 l3 ((0 : Int32)) (l5 + (1 : Int32)) I J rfl (h) (by (try simp only [t24.o, true_or, or_true, true_and, and_true]); first | done | omega) (by (try simp only [t24.o, true_or, or_true, true_and, and_true]); first | done | omega) (by (try simp only [t24.o, true_or, or_true, true_and, and_true]); first | done | omega) (by (try simp only [t24.o, true_or, or_true, true_and, and_true]); first | done | omega) (by (try simp only [t24.o, true_or, or_true, true_and, and_true]); first | done | omega) (by (try simp only [t24.o, true_or, or_true, true_and, and_true]); first | done | omega) (mle a0 (by (try simp only [t24.o, true_or, or_true, true_and, and_true]); first | done | omega))
      · have t25 : TI (1 : Int32) (1) := show (1 : Int32).toInt = 1 by decide
        have t26 : TI (l5 + (1 : Int32)) (l5.toInt + 1) := ti_add ti_r t25 (by omega)
        exact ih _ (mih hm (by (try simp only [t26.o, true_or, or_true, true_and, and_true]); first | done | omega) (by omega)) l1 l2 l3 ((1 : Int32)) (l5 + (1 : Int32)) I J rfl (h) (by (try simp only [t26.o, true_or, or_true, true_and, and_true]); first | done | omega) (by (try simp only [t26.o, true_or, or_true, true_and, and_true]); first | done | omega) (by (try simp only [t26.o, true_or, or_true, true_and, and_true]); first | done | omega) (by (try simp only [t26.o, true_or, or_true, true_and, and_true]); first | done | omega) (by (try simp only [t26.o, true_or, or_true, true_and, and_true]); first | done | omega) (by (try simp only [t26.o, true_or, or_true, true_and, and_true]); first | done | omega) (mle a0 (by (try simp only [t26.o, true_or, or_true, true_and, and_true]); first | done | omega))
  · have c27 := j_nlt q1 (ti_r (e := l5)) (ti_r (e := l3))
    have t28 : TI (0 : Int32) (0) := show (0 : Int32).toInt = 0 by decide
    refine ⟨fun q29 => ?_, fun q29 => ?_⟩
    · have c30 := j_eq q29 (ti_r (e := l4)) t28
      have t31 : TI (1 : Int32) (1) := show (1 : Int32).toInt = 1 by decide
      have t32 : TI (l3 + (1 : Int32)) (l3.toInt + 1) := ti_add ti_r t31 (by omega)
      exact K26 l1 l2 (l3 + (1 : Int32)) I J (h) (mlt a0 (by (try simp only [t32.o, true_or, or_true, true_and, and_true]); first | done | omega) (by omega)) (by (try simp only [t32.o, true_or, or_true, true_and, and_true]); first | done | omega) (by (try simp only [t32.o, true_or, or_true, true_and, and_true]); first | done | omega) (by (try simp only [t32.o, true_or, or_true, true_and, and_true]); first | done | omega) (by (try simp only [t32.o, true_or, or_true, true_and, and_true]); first | done | omega)
    · have c33 := j_ne q29 (ti_r (e := l4)) t28
      refine ⟨fun q34 => ?_, fun q34 => ?_⟩
      · have c35 := j_eq q34 (ti_r (e := l2)) (ti_r (e := l1))
        exact k _ _ _ (h)
      · have c36 := j_ne q34 (ti_r (e := l2)) (ti_r (e := l1))
        have t37 : TI (1 : Int32) (1) := show (1 : Int32).toInt = 1 by decide
        have t38 : TI (l3 + (1 : Int32)) (l3.toInt + 1) := ti_add ti_r t37 (by omega)
        exact K26 l1 (l2 + (1 : Int32)) (l3 + (1 : Int32)) I J (h) (mlt a0 (by (try simp only [t38.o, true_or, or_true, true_and, and_true]); first | done | omega) (by omega)) (by (try simp only [t38.o, true_or, or_true, true_and, and_true]); first | done | omega) (by (try simp only [t38.o, true_or, or_true, true_and, and_true]); first | done | omega) (by (try simp only [t38.o, true_or, or_true, true_and, and_true]); first | done | omega) (by (try simp only [t38.o, true_or, or_true, true_and, and_true]); first | done | omega)
theorem mCoal_26 {S : Nat × (Nat → Int32)} {d : Nat} {x : mX} {I0 : rI0} {J0 : rJ0} {F : Option Int32} {R C : Int} {Q : Int32 → rI0 → rJ0 → Prop} (k : ∀ r I J, (Mz_ I0 J0 (0, F) R C I J) → Q r I J) : ∀ (n : Nat) (l1 : Int32) (l2 : Int32) (l3 : Int32) (I : rI0) (J : rJ0), (Neq (256 - l3.toInt).toNat n) → (Mz_ I0 J0 (0, F) R C I J) → ((I 43 47).toInt ≤ 8) → (1 ≤ C) → (0 ≤ l3.toInt) → (l3.toInt ≤ 256) → wp S (d + 6) 222 26 [some (.ref 43), some (.int l1), some (.int l2), some (.int l3), none, none] [] (wv x I J) (rI x Q) := by
  refine lpn ?_
  intro n ih
  intro l1 l2 l3 I J hm h e0 e1 e2 e3
  have bh := h.bnd
  refine v222_43_26 ?_
  obtain ⟨g2, t1, bt1⟩ := ti_shl (n := (I 43 47)) ti_r (by omega)
  refine ⟨fun q3 => ?_, fun q3 => ?_⟩
  · have c4 := j_lt q3 (ti_r (e := l3)) t1
    refine mBitsOf (h) ?_
    intro r1
    refine mHeight (h) ?_
    intro r2 I2 J2 h2 g2a g2b g2c
    have bh2 := h2.bnd
    refine ⟨?_, ?_⟩
    · exact jj_in (e := (l3)) (A := l3.toInt) ti_r (by omega)
    have t5 : TI (0 : Int32) (0) := show (0 : Int32).toInt = 0 by decide
    have z6 : TI ((mSet I2 57 l3.toNatClampNeg (vp_nar .boolean (I2 43 45))) 43 47) (I2 43 47).toInt := (ti_r : TI (I2 43 47) (I2 43 47).toInt)
    exact mCoal_74 k (fun l1_ l2_ l3_ I_ J_ h_ hlt f0_ f1_ f2_ f3_ => ih _ hlt l1_ l2_ l3_ I_ J_ rfl h_ f0_ f1_ f2_ f3_) _ l1 l2 l3 (I2 43 45) ((0 : Int32)) (mSet I2 57 l3.toNatClampNeg (vp_nar .boolean (I2 43 45))) J2 rfl (Mz_.sn (n := 57) (k := l3.toNatClampNeg) (h2) (by decide)) (by (try simp only [t5.o, z6.o, true_or, or_true, true_and, and_true]); first | done | omega) (by (try simp only [t5.o, z6.o, true_or, or_true, true_and, and_true]); first | done | omega) (by (try simp only [t5.o, z6.o, true_or, or_true, true_and, and_true]); first | done | omega) (by (try simp only [t5.o, z6.o, true_or, or_true, true_and, and_true]); first | done | omega) (by (try simp only [t5.o, z6.o, true_or, or_true, true_and, and_true]); first | done | omega) (by (try simp only [t5.o, z6.o, true_or, or_true, true_and, and_true]); first | done | omega) (mleq hm (by (try simp only [t5.o, z6.o, true_or, or_true, true_and, and_true]); first | done | omega))
  · have c7 := j_nlt q3 (ti_r (e := l3)) t1
    have t8 : TI (-1 : Int32) (-1) := show (-1 : Int32).toInt = -1 by decide
    refine ⟨fun q9 => ?_, fun q9 => ?_⟩
    · have c10 := j_eq q9 (ti_r (e := l1)) t8
      exact k _ _ _ (h)
    · have c11 := j_ne q9 (ti_r (e := l1)) t8
      exact k _ _ _ (h)
theorem mCoal {S : Nat × (Nat → Int32)} {d : Nat} {x : mX} {I0 : rI0} {J0 : rJ0} {F : Option Int32} {R C : Int} {T0 : Int32} {I : rI0} {J : rJ0} {p1 : Int32} {Q : Int32 → rI0 → rJ0 → Prop} (h : Mz_ I0 J0 (T0, F) R C I J) (k : ∀ r I J, (Mz_ I0 J0 (0, F) R C I J) → Q r I J) : wcI S (d + 6) 222 [.ref 43, .int p1] x I J Q := by
  have bh := h.bnd
  refine c222_43 ?_
  obtain ⟨I1, eI1⟩ : ∃ z, z = (mSet I 43 0 (0 : Int32)) := ⟨_, rfl⟩
  rw [← eI1]
  have hI1 : Mz_ I0 J0 (T0, F) R C I1 J := by rw [eI1]; exact (Mz_.si (n := 43) (k := 0) (h) (by decide))
  have zI1_47 : (I1 43 47).toInt = (I 43 47).toInt := by rw [eI1]; exact (ti_r : TI (I 43 47) (I 43 47).toInt)
  have zI1_42 : (I1 43 42).toInt = (I 43 42).toInt := by rw [eI1]; exact (ti_r : TI (I 43 42) (I 43 42).toInt)
  have zI1_63 : (I1 43 63).toInt = (I 43 63).toInt := by rw [eI1]; exact (ti_r : TI (I 43 63) (I 43 63).toInt)
  have zI1_3 : (I1 43 3).toInt = (I 43 3).toInt := by rw [eI1]; exact (ti_r : TI (I 43 3) (I 43 3).toInt)
  have yI1 : I1 45 = I 45 := by rw [eI1]; rfl
  have bhI1 := hI1.bnd
  refine mEight (hI1) ?_
  intro r1 I1 J1 h1 g1a
  have bh1 := h1.bnd
  have t2 : TI (0 : Int32) (0) := show (0 : Int32).toInt = 0 by decide
  refine ⟨fun q3 => ?_, fun q3 => ?_⟩
  · have c4 := j_eq q3 (ti_r (e := r1)) t2
    exact k _ _ _ (h1)
  · have c5 := j_ne q3 (ti_r (e := r1)) t2
    have t6 : TI (-1 : Int32) (-1) := show (-1 : Int32).toInt = -1 by decide
    refine ⟨fun q7 => ?_, fun q7 => ?_⟩
    · have c8 := j_lt q7 (ti_r (e := p1)) t6
      exact k _ _ _ (h1)
    · have c9 := j_nlt q7 (ti_r (e := p1)) t6
      exact mCoal_26 k _ p1 ((0 : Int32)) ((0 : Int32)) I1 J1 rfl (h1) (by (try simp only [t2.o, true_or, or_true, true_and, and_true]); first | done | omega) (by (try simp only [t2.o, true_or, or_true, true_and, and_true]); first | done | omega) (by (try simp only [t2.o, true_or, or_true, true_and, and_true]); first | done | omega) (by (try simp only [t2.o, true_or, or_true, true_and, and_true]); first | done | omega)
theorem mWorth_70 {S : Nat × (Nat → Int32)} {d : Nat} {x : mX} {I0 : rI0} {J0 : rJ0} {F : Option Int32} {R C : Int} {Q : Int32 → rI0 → rJ0 → Prop} {N53 : Nat} (k : ∀ r I J, (Mz_ I0 J0 (0, F) R C I J) → Q r I J) (K53 : ∀ (l1 : Int32) (I : rI0) (J : rJ0), (Mz_ I0 J0 (0, F) R C I J) → ((8 - l1.toInt).toNat < N53) → ((I 43 47).toInt ≤ 8) → (1 ≤ C) → (0 ≤ l1.toInt) → (l1.toInt ≤ 8) → wp S (d + 6) 224 53 [some (.ref 43), some (.int l1), none, none] [] (wv x I J) (rI x Q)) : ∀ (n : Nat) (l1 : Int32) (l2 : Int32) (I : rI0) (J : rJ0), (Neq (256 - l2.toInt).toNat n) → (Mz_ I0 J0 (0, F) R C I J) → ((I 43 47).toInt ≤ 8) → (1 ≤ C) → (0 ≤ l1.toInt) → (l1.toInt < 8) → (0 ≤ l2.toInt) → (l2.toInt ≤ 256) → (Nle (8 - l1.toInt).toNat N53) → wp S (d + 6) 224 70 [some (.ref 43), some (.int l1), some (.int l2), none] [] (wv x I J) (rI x Q) := by
  refine lpn ?_
  intro n ih
  intro l1 l2 I J hm h e0 e1 e2 e3 e4 e5 a0
  have bh := h.bnd
  refine v224_43_70 ?_
  obtain ⟨g2, t1, bt1⟩ := ti_shl (n := (I 43 47)) ti_r (by omega)
  refine ⟨fun q3 => ?_, fun q3 => ?_⟩
  · have c4 := j_lt q3 (ti_r (e := l2)) t1
    refine mHas  ?_
    intro r1 g1a
    have t5 : TI (0 : Int32) (0) := show (0 : Int32).toInt = 0 by decide
    refine ⟨fun q6 => ?_, fun q6 => ?_⟩
    · have c7 := j_eq q6 (ti_r (e := r1)) t5
      refine mBits  ?_
      intro r2 g2a
      refine ⟨?_, ?_⟩
      · exact jj_in (e := (l1)) (A := l1.toInt) ti_r (by omega)
      refine mOrders (by omega) ?_
      intro r3 g3a
      have t8 : TI (1 : Int32) (1) := show (1 : Int32).toInt = 1 by decide
      have t9 : TI ((I 43 47) - (1 : Int32)) ((I 43 47).toInt - 1) := ti_sub ti_r t8 (by omega)
      have t10 : TI (((I 43 47) - (1 : Int32)) - r2) (((I 43 47).toInt - 1) - r2.toInt) := ti_sub t9 ti_r (by omega)
      refine mOrders (by (try simp only [t10.o, true_or, or_true, true_and, and_true]); first | done | omega) ?_
      intro r4 g4a
      try simp only [t10.o] at g4a
      obtain ⟨g12, t11, bt11⟩ := ti_shl (n := (l1)) ti_r (by omega)
      obtain ⟨g14, t13, bt13⟩ := ti_or8 (a := (l2)) (b := ((1 : Int32) <<< (l1 &&& 31))) ti_r t11 (by omega) (by omega)
      refine ⟨?_, ?_⟩
      · exact jj_in (e := (l2 ||| ((1 : Int32) <<< (l1 &&& 31)))) (A := g14) t13 (by omega)
      refine ⟨?_, ?_⟩
      · exact jj_in (e := (l2)) (A := l2.toInt) ti_r (by omega)
      refine ⟨?_, ?_⟩
      · exact jj_in (e := (l1)) (A := l1.toInt) ti_r (by omega)
      have t15 : TI (l2 + (1 : Int32)) (l2.toInt + 1) := ti_add ti_r t8 (by omega)
      exact ih _ (mih hm (by (try simp only [t15.o, true_or, or_true, true_and, and_true]); first | done | omega) (by omega)) l1 (l2 + (1 : Int32)) I (mSet J 59 l1.toNatClampNeg ((J 59 l1.toNatClampNeg) + ((r3 * r4) * (((I 58 ((l2 ||| ((1 : Int32) <<< (l1 &&& 31))).toNatClampNeg)) - (I 58 l2.toNatClampNeg)).toInt64)))) rfl (Mz_.sk (n := 59) (k := l1.toNatClampNeg) (h) (by decide)) (by (try simp only [t15.o, true_or, or_true, true_and, and_true]); first | done | omega) (by (try simp only [t15.o, true_or, or_true, true_and, and_true]); first | done | omega) (by (try simp only [t15.o, true_or, or_true, true_and, and_true]); first | done | omega) (by (try simp only [t15.o, true_or, or_true, true_and, and_true]); first | done | omega) (by (try simp only [t15.o, true_or, or_true, true_and, and_true]); first | done | omega) (by (try simp only [t15.o, true_or, or_true, true_and, and_true]); first | done | omega) (mle a0 (by (try simp only [t15.o, true_or, or_true, true_and, and_true]); first | done | omega))
    · have c16 := j_ne q6 (ti_r (e := r1)) t5
      have t17 : TI (1 : Int32) (1) := show (1 : Int32).toInt = 1 by decide
      have t18 : TI (l2 + (1 : Int32)) (l2.toInt + 1) := ti_add ti_r t17 (by omega)
      exact ih _ (mih hm (by (try simp only [t18.o, true_or, or_true, true_and, and_true]); first | done | omega) (by omega)) l1 (l2 + (1 : Int32)) I J rfl (h) (by (try simp only [t18.o, true_or, or_true, true_and, and_true]); first | done | omega) (by (try simp only [t18.o, true_or, or_true, true_and, and_true]); first | done | omega) (by (try simp only [t18.o, true_or, or_true, true_and, and_true]); first | done | omega) (by (try simp only [t18.o, true_or, or_true, true_and, and_true]); first | done | omega) (by (try simp only [t18.o, true_or, or_true, true_and, and_true]); first | done | omega) (by (try simp only [t18.o, true_or, or_true, true_and, and_true]); first | done | omega) (mle a0 (by (try simp only [t18.o, true_or, or_true, true_and, and_true]); first | done | omega))
  · have c19 := j_nlt q3 (ti_r (e := l2)) t1
    have t20 : TI (1 : Int32) (1) := show (1 : Int32).toInt = 1 by decide
    have t21 : TI (l1 + (1 : Int32)) (l1.toInt + 1) := ti_add ti_r t20 (by omega)
    exact K53 (l1 + (1 : Int32)) I J (h) (mlt a0 (by (try simp only [t21.o, true_or, or_true, true_and, and_true]); first | done | omega) (by omega)) (by (try simp only [t21.o, true_or, or_true, true_and, and_true]); first | done | omega) (by (try simp only [t21.o, true_or, or_true, true_and, and_true]); first | done | omega) (by (try simp only [t21.o, true_or, or_true, true_and, and_true]); first | done | omega) (by (try simp only [t21.o, true_or, or_true, true_and, and_true]); first | done | omega)
theorem mWorth_53 {S : Nat × (Nat → Int32)} {d : Nat} {x : mX} {I0 : rI0} {J0 : rJ0} {F : Option Int32} {R C : Int} {Q : Int32 → rI0 → rJ0 → Prop} (k : ∀ r I J, (Mz_ I0 J0 (0, F) R C I J) → Q r I J) : ∀ (n : Nat) (l1 : Int32) (I : rI0) (J : rJ0), (Neq (8 - l1.toInt).toNat n) → (Mz_ I0 J0 (0, F) R C I J) → ((I 43 47).toInt ≤ 8) → (1 ≤ C) → (0 ≤ l1.toInt) → (l1.toInt ≤ 8) → wp S (d + 6) 224 53 [some (.ref 43), some (.int l1), none, none] [] (wv x I J) (rI x Q) := by
  refine lpn ?_
  intro n ih
  intro l1 I J hm h e0 e1 e2 e3
  have bh := h.bnd
  refine v224_43_53 ?_
  refine ⟨fun q1 => ?_, fun q1 => ?_⟩
  · have c2 := j_lt q1 (ti_r (e := l1)) (ti_r (e := (I 43 47)))
    refine ⟨?_, ?_⟩
    · exact jj_in (e := (l1)) (A := l1.toInt) ti_r (by omega)
    have t3 : TI (0 : Int32) (0) := show (0 : Int32).toInt = 0 by decide
    exact mWorth_70 k (fun l1_ I_ J_ h_ hlt f0_ f1_ f2_ f3_ => ih _ hlt l1_ I_ J_ rfl h_ f0_ f1_ f2_ f3_) _ l1 ((0 : Int32)) I (mSet J 59 l1.toNatClampNeg (0 : Int64)) rfl (Mz_.sk (n := 59) (k := l1.toNatClampNeg) (h) (by decide)) (by (try simp only [t3.o, true_or, or_true, true_and, and_true]); first | done | omega) (by (try simp only [t3.o, true_or, or_true, true_and, and_true]); first | done | omega) (by (try simp only [t3.o, true_or, or_true, true_and, and_true]); first | done | omega) (by (try simp only [t3.o, true_or, or_true, true_and, and_true]); first | done | omega) (by (try simp only [t3.o, true_or, or_true, true_and, and_true]); first | done | omega) (by (try simp only [t3.o, true_or, or_true, true_and, and_true]); first | done | omega) (mleq hm (by (try simp only [t3.o, true_or, or_true, true_and, and_true]); first | done | omega))
  · have c4 := j_nlt q1 (ti_r (e := l1)) (ti_r (e := (I 43 47)))
    refine mOrders (by omega) ?_
    intro r1 g1a
    obtain ⟨g6, t5, bt5⟩ := ti_shl (n := (I 43 47)) ti_r (by omega)
    have t7 : TI (1 : Int32) (1) := show (1 : Int32).toInt = 1 by decide
    have t8 : TI (((1 : Int32) <<< (I 43 47 &&& 31)) - (1 : Int32)) (g6 - 1) := ti_sub t5 t7 (by omega)
    refine ⟨?_, ?_⟩
    · exact jj_in (e := (((1 : Int32) <<< (I 43 47 &&& 31)) - (1 : Int32))) (A := (g6 - 1)) t8 (by omega)
    exact k _ _ _ (Mz_.s52 (h) (v := (I 43 47)) (w := (r1)) (by omega) (g1a (by omega)))
theorem mWorth_16 {S : Nat × (Nat → Int32)} {d : Nat} {x : mX} {I0 : rI0} {J0 : rJ0} {F : Option Int32} {R C : Int} {Q : Int32 → rI0 → rJ0 → Prop} (k : ∀ r I J, (Mz_ I0 J0 (0, F) R C I J) → Q r I J) : ∀ (n : Nat) (l1 : Int32) (I : rI0) (J : rJ0), (Neq (256 - l1.toInt).toNat n) → (Mz_ I0 J0 (0, F) R C I J) → ((I 43 47).toInt ≤ 8) → (1 ≤ C) → (0 ≤ l1.toInt) → (l1.toInt ≤ 256) → wp S (d + 6) 224 16 [some (.ref 43), some (.int l1), none, none] [] (wv x I J) (rI x Q) := by
  refine lpn ?_
  intro n ih
  intro l1 I J hm h e0 e1 e2 e3
  have bh := h.bnd
  refine v224_43_16 ?_
  obtain ⟨g2, t1, bt1⟩ := ti_shl (n := (I 43 47)) ti_r (by omega)
  refine ⟨fun q3 => ?_, fun q3 => ?_⟩
  · have c4 := j_lt q3 (ti_r (e := l1)) t1
    refine mBitsOf (h) ?_
    intro r1
    refine mHeight (h) ?_
    intro r2 I2 J2 h2 g2a g2b g2c
    have bh2 := h2.bnd
    refine ⟨?_, ?_⟩
    · exact jj_in (e := (l1)) (A := l1.toInt) ti_r (by omega)
    have t5 : TI (1 : Int32) (1) := show (1 : Int32).toInt = 1 by decide
    have t6 : TI (l1 + (1 : Int32)) (l1.toInt + 1) := ti_add ti_r t5 (by omega)
    have z7 : TI ((mSet I2 58 l1.toNatClampNeg r2) 43 47) (I2 43 47).toInt := (ti_r : TI (I2 43 47) (I2 43 47).toInt)
    exact ih _ (mih hm (by (try simp only [t6.o, z7.o, true_or, or_true, true_and, and_true]); first | done | omega) (by omega)) (l1 + (1 : Int32)) (mSet I2 58 l1.toNatClampNeg r2) J2 rfl (Mz_.sn (n := 58) (k := l1.toNatClampNeg) (h2) (by decide)) (by (try simp only [t6.o, z7.o, true_or, or_true, true_and, and_true]); first | done | omega) (by (try simp only [t6.o, z7.o, true_or, or_true, true_and, and_true]); first | done | omega) (by (try simp only [t6.o, z7.o, true_or, or_true, true_and, and_true]); first | done | omega) (by (try simp only [t6.o, z7.o, true_or, or_true, true_and, and_true]); first | done | omega)
  · have c8 := j_nlt q3 (ti_r (e := l1)) t1
    have t9 : TI (0 : Int32) (0) := show (0 : Int32).toInt = 0 by decide
    exact mWorth_53 k _ ((0 : Int32)) I J rfl (h) (by (try simp only [t9.o, true_or, or_true, true_and, and_true]); first | done | omega) (by (try simp only [t9.o, true_or, or_true, true_and, and_true]); first | done | omega) (by (try simp only [t9.o, true_or, or_true, true_and, and_true]); first | done | omega) (by (try simp only [t9.o, true_or, or_true, true_and, and_true]); first | done | omega)
theorem mWorth {S : Nat × (Nat → Int32)} {d : Nat} {x : mX} {I0 : rI0} {J0 : rJ0} {F : Option Int32} {R C : Int} {T0 : Int32} {I : rI0} {J : rJ0} {Q : Int32 → rI0 → rJ0 → Prop} (h : Mz_ I0 J0 (T0, F) R C I J) (k : ∀ r I J, (Mz_ I0 J0 (0, F) R C I J) → Q r I J) : wcI S (d + 6) 224 [.ref 43] x I J Q := by
  have bh := h.bnd
  refine c224_43 ?_
  obtain ⟨I1, eI1⟩ : ∃ z, z = (mSet I 43 0 (0 : Int32)) := ⟨_, rfl⟩
  rw [← eI1]
  have hI1 : Mz_ I0 J0 (T0, F) R C I1 J := by rw [eI1]; exact (Mz_.si (n := 43) (k := 0) (h) (by decide))
  have zI1_47 : (I1 43 47).toInt = (I 43 47).toInt := by rw [eI1]; exact (ti_r : TI (I 43 47) (I 43 47).toInt)
  have zI1_42 : (I1 43 42).toInt = (I 43 42).toInt := by rw [eI1]; exact (ti_r : TI (I 43 42) (I 43 42).toInt)
  have zI1_63 : (I1 43 63).toInt = (I 43 63).toInt := by rw [eI1]; exact (ti_r : TI (I 43 63) (I 43 63).toInt)
  have zI1_3 : (I1 43 3).toInt = (I 43 3).toInt := by rw [eI1]; exact (ti_r : TI (I 43 3) (I 43 3).toInt)
  have yI1 : I1 45 = I 45 := by rw [eI1]; rfl
  have bhI1 := hI1.bnd
  refine mEight (hI1) ?_
  intro r1 I1 J1 h1 g1a
  have bh1 := h1.bnd
  have t2 : TI (0 : Int32) (0) := show (0 : Int32).toInt = 0 by decide
  refine ⟨fun q3 => ?_, fun q3 => ?_⟩
  · have c4 := j_eq q3 (ti_r (e := r1)) t2
    exact k _ _ _ (h1)
  · have c5 := j_ne q3 (ti_r (e := r1)) t2
    exact mWorth_16 k _ ((0 : Int32)) I1 J1 rfl (h1) (by (try simp only [t2.o, true_or, or_true, true_and, and_true]); first | done | omega) (by (try simp only [t2.o, true_or, or_true, true_and, and_true]); first | done | omega) (by (try simp only [t2.o, true_or, or_true, true_and, and_true]); first | done | omega) (by (try simp only [t2.o, true_or, or_true, true_and, and_true]); first | done | omega)
theorem mSides_226 {S : Nat × (Nat → Int32)} {d : Nat} {x : mX} {I0 : rI0} {J0 : rJ0} {F : Option Int32} {R C : Int} {Q : Int32 → rI0 → rJ0 → Prop} {N214 : Nat} (k : ∀ r I J, (Mz_ I0 J0 (0, F) R C I J) → Q r I J) (K214 : ∀ (l1 : Int32) (l2 : Int32) (l3 : Int32) (l4 : Int32) (l5 : Int32) (I : rI0) (J : rJ0), (Mz_ I0 J0 (0, F) R C I J) → ((14 - l5.toInt).toNat < N214) → (1 ≤ l1.toInt) → (l1.toInt ≤ 6) → (l1.toInt + l2.toInt ≤ 14) → (0 ≤ l5.toInt) → wp S (d + 6) 226 214 [some (.ref 43), some (.int l1), some (.int l2), some (.int l3), some (.int l4), some (.int l5), none, none, none] [] (wv x I J) (rI x Q)) : ∀ (n : Nat) (l1 : Int32) (l2 : Int32) (l3 : Int32) (l4 : Int32) (l5 : Int32) (l6 : Int32) (l7 : Int32) (I : rI0) (J : rJ0), (Neq (6 - l7.toInt).toNat n) → (Mz_ I0 J0 (0, F) R C I J) → (1 ≤ l1.toInt) → (l1.toInt ≤ 6) → (l1.toInt + l2.toInt ≤ 14) → (0 ≤ l5.toInt) → (l5.toInt < l2.toInt) → (0 ≤ l7.toInt) → (l7.toInt ≤ 6) → (Nle (14 - l5.toInt).toNat N214) → wp S (d + 6) 226 226 [some (.ref 43), some (.int l1), some (.int l2), some (.int l3), some (.int l4), some (.int l5), some (.int l6), some (.int l7), none] [] (wv x I J) (rI x Q) := by
  refine lpn ?_
  intro n ih
  intro l1 l2 l3 l4 l5 l6 l7 I J hm h e0 e1 e2 e3 e4 e5 e6 a0
  have bh := h.bnd
  have bh_1 := h.bn2
  refine v226_43_226 ?_
  refine ⟨fun q1 => ?_, fun q1 => ?_⟩
  · have c2 := j_lt q1 (ti_r (e := l7)) (ti_r (e := l1))
    have t3 : TI (6 : Int32) (6) := show (6 : Int32).toInt = 6 by decide
    have t4 : TI ((6 : Int32) * l7) (6 * l7.toInt) := ti_mul t3 ti_r (by omega)
    have t5 : TI (((6 : Int32) * l7) + l5) ((6 * l7.toInt) + l5.toInt) := ti_add t4 ti_r (by omega)
    refine ⟨?_, ?_⟩
    · exact jj_in (e := (((6 : Int32) * l7) + l5)) (A := ((6 * l7.toInt) + l5.toInt)) t5 (by omega)
    refine ⟨fun q6 => ?_, fun q6 => ?_⟩
    · have c7 := j_lt q6 (ti_r (e := l6)) (ti_r (e := (I 58 ((((6 : Int32) * l7) + l5).toNatClampNeg))))
      refine ⟨?_, ?_⟩
      · exact jj_in (e := (((6 : Int32) * l7) + l5)) (A := ((6 * l7.toInt) + l5.toInt)) t5 (by omega)
      have t8 : TI (1 : Int32) (1) := show (1 : Int32).toInt = 1 by decide
      have t9 : TI (l7 + (1 : Int32)) (l7.toInt + 1) := ti_add ti_r t8 (by omega)
      exact ih _ (mih hm (by (try simp only [t9.o, true_or, or_true, true_and, and_true]); first | done | omega) (by omega)) l1 l2 l3 l4 l5 (I 58 ((((6 : Int32) * l7) + l5).toNatClampNeg)) (l7 + (1 : Int32)) I J rfl (h) (by (try simp only [t9.o, true_or, or_true, true_and, and_true]); first | done | omega) (by (try simp only [t9.o, true_or, or_true, true_and, and_true]); first | done | omega) (by (try simp only [t9.o, true_or, or_true, true_and, and_true]); first | done | omega) (by (try simp only [t9.o, true_or, or_true, true_and, and_true]); first | done | omega) (by (try simp only [t9.o, true_or, or_true, true_and, and_true]); first | done | omega) (by (try simp only [t9.o, true_or, or_true, true_and, and_true]); first | done | omega) (by (try simp only [t9.o, true_or, or_true, true_and, and_true]); first | done | omega) (mle a0 (by (try simp only [t9.o, true_or, or_true, true_and, and_true]); first | done | omega))
    · have c10 := j_nlt q6 (ti_r (e := l6)) (ti_r (e := (I 58 ((((6 : Int32) * l7) + l5).toNatClampNeg))))
      have t11 : TI (1 : Int32) (1) := show (1 : Int32).toInt = 1 by decide
      have t12 : TI (l7 + (1 : Int32)) (l7.toInt + 1) := ti_add ti_r t11 (by omega)
      exact ih _ (mih hm (by (try simp only [t12.o, true_or, or_true, true_and, and_true]); first | done | omega) (by omega)) l1 l2 l3 l4 l5 l6 (l7 + (1 : Int32)) I J rfl (h) (by (try simp only [t12.o, true_or, or_true, true_and, and_true]); first | done | omega) (by (try simp only [t12.o, true_or, or_true, true_and, and_true]); first | done | omega) (by (try simp only [t12.o, true_or, or_true, true_and, and_true]); first | done | omega) (by (try simp only [t12.o, true_or, or_true, true_and, and_true]); first | done | omega) (by (try simp only [t12.o, true_or, or_true, true_and, and_true]); first | done | omega) (by (try simp only [t12.o, true_or, or_true, true_and, and_true]); first | done | omega) (by (try simp only [t12.o, true_or, or_true, true_and, and_true]); first | done | omega) (mle a0 (by (try simp only [t12.o, true_or, or_true, true_and, and_true]); first | done | omega))
  · have c13 := j_nlt q1 (ti_r (e := l7)) (ti_r (e := l1))
    refine ⟨fun q14 => ?_, fun q14 => ?_⟩
    · have c15 := j_lt q14 (ti_r (e := l6)) (ti_r (e := l4))
      have t16 : TI (l1 + l5) (l1.toInt + l5.toInt) := ti_add ti_r ti_r (by omega)
      refine ⟨?_, ?_⟩
      · exact jj_in (e := (l1 + l5)) (A := (l1.toInt + l5.toInt)) t16 (by omega)
      have w17 := h.1.2.2.2.1 ((l1 + l5).toNatClampNeg)
      have t18 : TI (2 : Int32) (2) := show (2 : Int32).toInt = 2 by decide
      refine ⟨?_, ?_⟩
      · exact jj_in (e := (2 : Int32)) (A := 2) t18 (by omega)
      have t19 : TI (1 : Int32) (1) := show (1 : Int32).toInt = 1 by decide
      have t20 : TI (l5 + (1 : Int32)) (l5.toInt + 1) := ti_add ti_r t19 (by omega)
      exact K214 l1 l2 l3 l6 (l5 + (1 : Int32)) (mSet I 60 ((2 : Int32).toNatClampNeg) (I 56 ((l1 + l5).toNatClampNeg))) J (Mz_.sn (n := 60) (k := ((2 : Int32).toNatClampNeg)) (h) (by decide)) (mlt a0 (by (try simp only [t20.o, true_or, or_true, true_and, and_true]); first | done | omega) (by omega)) (by (try simp only [t20.o, true_or, or_true, true_and, and_true]); first | done | omega) (by (try simp only [t20.o, true_or, or_true, true_and, and_true]); first | done | omega) (by (try simp only [t20.o, true_or, or_true, true_and, and_true]); first | done | omega) (by (try simp only [t20.o, true_or, or_true, true_and, and_true]); first | done | omega)
    · have c21 := j_nlt q14 (ti_r (e := l6)) (ti_r (e := l4))
      have t22 : TI (1 : Int32) (1) := show (1 : Int32).toInt = 1 by decide
      have t23 : TI (l5 + (1 : Int32)) (l5.toInt + 1) := ti_add ti_r t22 (by omega)
      exact K214 l1 l2 l3 l4 (l5 + (1 : Int32)) I J (h) (mlt a0 (by (try simp only [t23.o, true_or, or_true, true_and, and_true]); first | done | omega) (by omega)) (by (try simp only [t23.o, true_or, or_true, true_and, and_true]); first | done | omega) (by (try simp only [t23.o, true_or, or_true, true_and, and_true]); first | done | omega) (by (try simp only [t23.o, true_or, or_true, true_and, and_true]); first | done | omega) (by (try simp only [t23.o, true_or, or_true, true_and, and_true]); first | done | omega)
theorem mSides_214 {S : Nat × (Nat → Int32)} {d : Nat} {x : mX} {I0 : rI0} {J0 : rJ0} {F : Option Int32} {R C : Int} {Q : Int32 → rI0 → rJ0 → Prop} (k : ∀ r I J, (Mz_ I0 J0 (0, F) R C I J) → Q r I J) : ∀ (n : Nat) (l1 : Int32) (l2 : Int32) (l3 : Int32) (l4 : Int32) (l5 : Int32) (I : rI0) (J : rJ0), (Neq (14 - l5.toInt).toNat n) → (Mz_ I0 J0 (0, F) R C I J) → (1 ≤ l1.toInt) → (l1.toInt ≤ 6) → (l1.toInt + l2.toInt ≤ 14) → (0 ≤ l5.toInt) → wp S (d + 6) 226 214 [some (.ref 43), some (.int l1), some (.int l2), some (.int l3), some (.int l4), some (.int l5), none, none, none] [] (wv x I J) (rI x Q) := by
  refine lpn ?_
  intro n ih
  intro l1 l2 l3 l4 l5 I J hm h e0 e1 e2 e3
  have bh := h.bnd
  have bh_1 := h.bn2
  refine v226_43_214 ?_
  refine ⟨fun q1 => ?_, fun q1 => ?_⟩
  · have c2 := j_lt q1 (ti_r (e := l5)) (ti_r (e := l2))
    have t3 : TI (0 : Int32) (0) := show (0 : Int32).toInt = 0 by decide
    exact mSides_226 k (fun l1_ l2_ l3_ l4_ l5_ I_ J_ h_ hlt f0_ f1_ f2_ f3_ => ih _ hlt l1_ l2_ l3_ l4_ l5_ I_ J_ rfl h_ f0_ f1_ f2_ f3_) _ l1 l2 l3 l4 l5 ((0 : Int32)) ((0 : Int32)) I J rfl (h) (by (try simp only [t3.o, true_or, or_true, true_and, and_true]); first | done | omega) (by (try simp only [t3.o, true_or, or_true, true_and, and_true]); first | done | omega) (by (try simp only [t3.o, true_or, or_true, true_and, and_true]); first | done | omega) (by (try simp only [t3.o, true_or, or_true, true_and, and_true]); first | done | omega) (by (try simp only [t3.o, true_or, or_true, true_and, and_true]); first | done | omega) (by (try simp only [t3.o, true_or, or_true, true_and, and_true]); first | done | omega) (by (try simp only [t3.o, true_or, or_true, true_and, and_true]); first | done | omega) (mleq hm (by (try simp only [t3.o, true_or, or_true, true_and, and_true]); first | done | omega))
  · have c4 := j_nlt q1 (ti_r (e := l5)) (ti_r (e := l2))
    have t5 : TI (0 : Int32) (0) := show (0 : Int32).toInt = 0 by decide
    refine ⟨?_, ?_⟩
    · exact jj_in (e := (0 : Int32)) (A := 0) t5 (by omega)
    exact k _ _ _ (Mz_.si (n := 43) (k := 55) (Mz_.sn (n := 60) (k := ((0 : Int32).toNatClampNeg)) (h) (by decide)) (by decide))
theorem mSides_101 {S : Nat × (Nat → Int32)} {d : Nat} {x : mX} {I0 : rI0} {J0 : rJ0} {F : Option Int32} {R C : Int} {Q : Int32 → rI0 → rJ0 → Prop} {N87 : Nat} (k : ∀ r I J, (Mz_ I0 J0 (0, F) R C I J) → Q r I J) (K87 : ∀ (l1 : Int32) (l2 : Int32) (l3 : Int32) (l4 : Int32) (l5 : Int32) (I : rI0) (J : rJ0), (Mz_ I0 J0 (0, F) R C I J) → ((6 - l5.toInt).toNat < N87) → (1 ≤ l1.toInt) → (l1.toInt ≤ 6) → (l1.toInt + l2.toInt ≤ 14) → (0 ≤ l5.toInt) → (l5.toInt ≤ 6) → wp S (d + 6) 226 87 [some (.ref 43), some (.int l1), some (.int l2), some (.int l3), some (.int l4), some (.int l5), none, none, none] [] (wv x I J) (rI x Q)) : ∀ (n : Nat) (l1 : Int32) (l2 : Int32) (l3 : Int32) (l4 : Int32) (l5 : Int32) (l6 : Int32) (l7 : Int32) (I : rI0) (J : rJ0), (Neq (14 - l7.toInt).toNat n) → (Mz_ I0 J0 (0, F) R C I J) → (1 ≤ l1.toInt) → (l1.toInt ≤ 6) → (l1.toInt + l2.toInt ≤ 14) → (0 ≤ l5.toInt) → (l5.toInt < 6) → (0 ≤ l7.toInt) → (Nle (6 - l5.toInt).toNat N87) → wp S (d + 6) 226 101 [some (.ref 43), some (.int l1), some (.int l2), some (.int l3), some (.int l4), some (.int l5), some (.int l6), some (.int l7), none] [] (wv x I J) (rI x Q) := by
  refine lpn ?_
  intro n ih
  intro l1 l2 l3 l4 l5 l6 l7 I J hm h e0 e1 e2 e3 e4 e5 a0
  have bh := h.bnd
  have bh_1 := h.bn2
  refine v226_43_101 ?_
  refine ⟨fun q1 => ?_, fun q1 => ?_⟩
  · have c2 := j_lt q1 (ti_r (e := l7)) (ti_r (e := l2))
    refine ⟨?_, ?_⟩
    · exact jj_in (e := (l5)) (A := l5.toInt) ti_r (by omega)
    have w3 := h.1.2.2.2.1 (l5.toNatClampNeg)
    have t4 : TI (l1 + l7) (l1.toInt + l7.toInt) := ti_add ti_r ti_r (by omega)
    refine ⟨?_, ?_⟩
    · exact jj_in (e := (l1 + l7)) (A := (l1.toInt + l7.toInt)) t4 (by omega)
    have w5 := h.1.2.2.2.1 ((l1 + l7).toNatClampNeg)
    refine mHeight (h) ?_
    intro r1 I1 J1 h1 g1a g1b g1c
    have bh1 := h1.bnd
    have bh1_1 := h1.bn2
    have t6 : TI (6 : Int32) (6) := show (6 : Int32).toInt = 6 by decide
    have t7 : TI ((6 : Int32) * l5) (6 * l5.toInt) := ti_mul t6 ti_r (by omega)
    have t8 : TI (((6 : Int32) * l5) + l7) ((6 * l5.toInt) + l7.toInt) := ti_add t7 ti_r (by omega)
    refine ⟨?_, ?_⟩
    · exact jj_in (e := (((6 : Int32) * l5) + l7)) (A := ((6 * l5.toInt) + l7.toInt)) t8 (by omega)
    refine ⟨fun q9 => ?_, fun q9 => ?_⟩
    · have c10 := j_lt q9 (ti_r (e := r1)) (ti_r (e := l6))
      have t11 : TI (1 : Int32) (1) := show (1 : Int32).toInt = 1 by decide
      have t12 : TI (l7 + (1 : Int32)) (l7.toInt + 1) := ti_add ti_r t11 (by omega)
      exact ih _ (mih hm (by (try simp only [t12.o, true_or, or_true, true_and, and_true]); first | done | omega) (by omega)) l1 l2 l3 l4 l5 r1 (l7 + (1 : Int32)) (mSet I1 58 ((((6 : Int32) * l5) + l7).toNatClampNeg) r1) J1 rfl (Mz_.sn (n := 58) (k := ((((6 : Int32) * l5) + l7).toNatClampNeg)) (h1) (by decide)) (by (try simp only [t12.o, true_or, or_true, true_and, and_true]); first | done | omega) (by (try simp only [t12.o, true_or, or_true, true_and, and_true]); first | done | omega) (by (try simp only [t12.o, true_or, or_true, true_and, and_true]); first | done | omega) (by (try simp only [t12.o, true_or, or_true, true_and, and_true]); first | done | omega) (by (try simp only [t12.o, true_or, or_true, true_and, and_true]); first | done | omega) (by (try simp only [t12.o, true_or, or_true, true_and, and_true]); first | done | omega) (mle a0 (by (try simp only [t12.o, true_or, or_true, true_and, and_true]); first | done | omega))
    · have c13 := j_nlt q9 (ti_r (e := r1)) (ti_r (e := l6))
      have t14 : TI (1 : Int32) (1) := show (1 : Int32).toInt = 1 by decide
      have t15 : TI (l7 + (1 : Int32)) (l7.toInt + 1) := ti_add ti_r t14 (by omega)
      exact ih _ (mih hm (by (try simp only [t15.o, true_or, or_true, true_and, and_true]); first | done | omega) (by omega)) l1 l2 l3 l4 l5 l6 (l7 + (1 : Int32)) (mSet I1 58 ((((6 : Int32) * l5) + l7).toNatClampNeg) r1) J1 rfl (Mz_.sn (n := 58) (k := ((((6 : Int32) * l5) + l7).toNatClampNeg)) (h1) (by decide)) (by (try simp only [t15.o, true_or, or_true, true_and, and_true]); first | done | omega) (by (try simp only [t15.o, true_or, or_true, true_and, and_true]); first | done | omega) (by (try simp only [t15.o, true_or, or_true, true_and, and_true]); first | done | omega) (by (try simp only [t15.o, true_or, or_true, true_and, and_true]); first | done | omega) (by (try simp only [t15.o, true_or, or_true, true_and, and_true]); first | done | omega) (by (try simp only [t15.o, true_or, or_true, true_and, and_true]); first | done | omega) (mle a0 (by (try simp only [t15.o, true_or, or_true, true_and, and_true]); first | done | omega))
  · have c16 := j_nlt q1 (ti_r (e := l7)) (ti_r (e := l2))
    refine ⟨fun q17 => ?_, fun q17 => ?_⟩
    · have c18 := j_lt q17 (ti_r (e := l3)) (ti_r (e := l6))
      refine ⟨?_, ?_⟩
      · exact jj_in (e := (l5)) (A := l5.toInt) ti_r (by omega)
      have w19 := h.1.2.2.2.1 (l5.toNatClampNeg)
      have t20 : TI (1 : Int32) (1) := show (1 : Int32).toInt = 1 by decide
      refine ⟨?_, ?_⟩
      · exact jj_in (e := (1 : Int32)) (A := 1) t20 (by omega)
      have t21 : TI (l5 + (1 : Int32)) (l5.toInt + 1) := ti_add ti_r t20 (by omega)
      exact K87 l1 l2 l6 l4 (l5 + (1 : Int32)) (mSet I 60 ((1 : Int32).toNatClampNeg) (I 56 l5.toNatClampNeg)) J (Mz_.sn (n := 60) (k := ((1 : Int32).toNatClampNeg)) (h) (by decide)) (mlt a0 (by (try simp only [t21.o, true_or, or_true, true_and, and_true]); first | done | omega) (by omega)) (by (try simp only [t21.o, true_or, or_true, true_and, and_true]); first | done | omega) (by (try simp only [t21.o, true_or, or_true, true_and, and_true]); first | done | omega) (by (try simp only [t21.o, true_or, or_true, true_and, and_true]); first | done | omega) (by (try simp only [t21.o, true_or, or_true, true_and, and_true]); first | done | omega) (by (try simp only [t21.o, true_or, or_true, true_and, and_true]); first | done | omega)
    · have c22 := j_nlt q17 (ti_r (e := l3)) (ti_r (e := l6))
      have t23 : TI (1 : Int32) (1) := show (1 : Int32).toInt = 1 by decide
      have t24 : TI (l5 + (1 : Int32)) (l5.toInt + 1) := ti_add ti_r t23 (by omega)
      exact K87 l1 l2 l3 l4 (l5 + (1 : Int32)) I J (h) (mlt a0 (by (try simp only [t24.o, true_or, or_true, true_and, and_true]); first | done | omega) (by omega)) (by (try simp only [t24.o, true_or, or_true, true_and, and_true]); first | done | omega) (by (try simp only [t24.o, true_or, or_true, true_and, and_true]); first | done | omega) (by (try simp only [t24.o, true_or, or_true, true_and, and_true]); first | done | omega) (by (try simp only [t24.o, true_or, or_true, true_and, and_true]); first | done | omega) (by (try simp only [t24.o, true_or, or_true, true_and, and_true]); first | done | omega)
theorem mSides_87 {S : Nat × (Nat → Int32)} {d : Nat} {x : mX} {I0 : rI0} {J0 : rJ0} {F : Option Int32} {R C : Int} {Q : Int32 → rI0 → rJ0 → Prop} (k : ∀ r I J, (Mz_ I0 J0 (0, F) R C I J) → Q r I J) : ∀ (n : Nat) (l1 : Int32) (l2 : Int32) (l3 : Int32) (l4 : Int32) (l5 : Int32) (I : rI0) (J : rJ0), (Neq (6 - l5.toInt).toNat n) → (Mz_ I0 J0 (0, F) R C I J) → (1 ≤ l1.toInt) → (l1.toInt ≤ 6) → (l1.toInt + l2.toInt ≤ 14) → (0 ≤ l5.toInt) → (l5.toInt ≤ 6) → wp S (d + 6) 226 87 [some (.ref 43), some (.int l1), some (.int l2), some (.int l3), some (.int l4), some (.int l5), none, none, none] [] (wv x I J) (rI x Q) := by
  refine lpn ?_
  intro n ih
  intro l1 l2 l3 l4 l5 I J hm h e0 e1 e2 e3 e4
  have bh := h.bnd
  have bh_1 := h.bn2
  refine v226_43_87 ?_
  refine ⟨fun q1 => ?_, fun q1 => ?_⟩
  · have c2 := j_lt q1 (ti_r (e := l5)) (ti_r (e := l1))
    have t3 : TI (0 : Int32) (0) := show (0 : Int32).toInt = 0 by decide
    exact mSides_101 k (fun l1_ l2_ l3_ l4_ l5_ I_ J_ h_ hlt f0_ f1_ f2_ f3_ f4_ => ih _ hlt l1_ l2_ l3_ l4_ l5_ I_ J_ rfl h_ f0_ f1_ f2_ f3_ f4_) _ l1 l2 l3 l4 l5 ((1000000000 : Int32)) ((0 : Int32)) I J rfl (h) (by (try simp only [t3.o, true_or, or_true, true_and, and_true]); first | done | omega) (by (try simp only [t3.o, true_or, or_true, true_and, and_true]); first | done | omega) (by (try simp only [t3.o, true_or, or_true, true_and, and_true]); first | done | omega) (by (try simp only [t3.o, true_or, or_true, true_and, and_true]); first | done | omega) (by (try simp only [t3.o, true_or, or_true, true_and, and_true]); first | done | omega) (by (try simp only [t3.o, true_or, or_true, true_and, and_true]); first | done | omega) (mleq hm (by (try simp only [t3.o, true_or, or_true, true_and, and_true]); first | done | omega))
  · have c4 := j_nlt q1 (ti_r (e := l5)) (ti_r (e := l1))
    have t5 : TI (0 : Int32) (0) := show (0 : Int32).toInt = 0 by decide
    exact mSides_214 k _ l1 l2 l3 l4 ((0 : Int32)) I J rfl (h) (by (try simp only [t5.o, true_or, or_true, true_and, and_true]); first | done | omega) (by (try simp only [t5.o, true_or, or_true, true_and, and_true]); first | done | omega) (by (try simp only [t5.o, true_or, or_true, true_and, and_true]); first | done | omega) (by (try simp only [t5.o, true_or, or_true, true_and, and_true]); first | done | omega)
theorem mSides_28 {S : Nat × (Nat → Int32)} {d : Nat} {x : mX} {I0 : rI0} {J0 : rJ0} {F : Option Int32} {R C : Int} {Q : Int32 → rI0 → rJ0 → Prop} (k : ∀ r I J, (Mz_ I0 J0 (0, F) R C I J) → Q r I J) : ∀ (s0 : Int32) (I : rI0) (J : rJ0), (Mz_ I0 J0 (0, F) R C I J) → (0 ≤ s0.toInt) → (s0.toInt ≤ 255) → wp S (d + 6) 226 28 [some (.ref 43), none, none, none, none, none, none, none, none] [.int s0] (wv x I J) (rI x Q) := by
  intro s0 I J h e0 e1
  have bh := h.bnd
  have bh_1 := h.bn2
  refine v226_43_28 ?_
  have t1 : TI (1 : Int32) (1) := show (1 : Int32).toInt = 1 by decide
  have t2 : TI (6 : Int32) (6) := show (6 : Int32).toInt = 6 by decide
  refine mIn  ?_
  intro r1 g1a
  try simp only [t1.o, t2.o] at g1a
  have t3 : TI (0 : Int32) (0) := show (0 : Int32).toInt = 0 by decide
  refine ⟨fun q4 => ?_, fun q4 => ?_⟩
  · have c5 := j_eq q4 (ti_r (e := r1)) t3
    exact k _ _ _ (h)
  · have c6 := j_ne q4 (ti_r (e := r1)) t3
    have t7 : TI ((I 43 3) - (1 : Int32)) ((I 43 3).toInt - 1) := ti_sub ti_r t1 (by omega)
    have t8 : TI (((I 43 3) - (1 : Int32)) - s0) (((I 43 3).toInt - 1) - s0.toInt) := ti_sub t7 ti_r (by omega)
    refine mIn  ?_
    intro r2 g2a
    try simp only [t8.o, t1.o, t2.o] at g2a
    refine ⟨fun q9 => ?_, fun q9 => ?_⟩
    · have c10 := j_eq q9 (ti_r (e := r2)) t3
      exact k _ _ _ (h)
    · have c11 := j_ne q9 (ti_r (e := r2)) t3
      refine mTakes (h) (by (try simp only [t1.o, true_or, or_true, true_and, and_true]); first | done | omega) ?_
      intro r3 I3 J3 h3 g3a
      try simp only [t1.o] at g3a
      have bh3 := h3.bnd
      have bh3_1 := h3.bn2
      refine ⟨fun q12 => ?_, fun q12 => ?_⟩
      · have c13 := j_eq q12 (ti_r (e := r3)) t3
        exact k _ _ _ (h3)
      · have c14 := j_ne q12 (ti_r (e := r3)) t3
        have t15 : TI ((I3 43 47) - s0) ((I3 43 47).toInt - s0.toInt) := ti_sub ti_r ti_r (by omega)
        exact mSides_87 k _ s0 ((I3 43 47) - s0) ((-1 : Int32)) ((1000000000 : Int32)) ((0 : Int32)) I3 J3 rfl (h3) (by (try simp only [t15.o, t3.o, true_or, or_true, true_and, and_true]); first | done | omega) (by (try simp only [t15.o, t3.o, true_or, or_true, true_and, and_true]); first | done | omega) (by (try simp only [t15.o, t3.o, true_or, or_true, true_and, and_true]); first | done | omega) (by (try simp only [t15.o, t3.o, true_or, or_true, true_and, and_true]); first | done | omega) (by (try simp only [t15.o, t3.o, true_or, or_true, true_and, and_true]); first | done | omega)
theorem mSides {S : Nat × (Nat → Int32)} {d : Nat} {x : mX} {I0 : rI0} {J0 : rJ0} {F : Option Int32} {R C : Int} {T0 : Int32} {I : rI0} {J : rJ0} {Q : Int32 → rI0 → rJ0 → Prop} (h : Mz_ I0 J0 (T0, F) R C I J) (k : ∀ r I J, (Mz_ I0 J0 (0, F) R C I J) → Q r I J) : wcI S (d + 6) 226 [.ref 43] x I J Q := by
  have bh := h.bnd
  have bh_1 := h.bn2
  refine c226_43 ?_
  obtain ⟨I1, eI1⟩ : ∃ z, z = (mSet I 43 0 (0 : Int32)) := ⟨_, rfl⟩
  rw [← eI1]
  have hI1 : Mz_ I0 J0 (T0, F) R C I1 J := by rw [eI1]; exact (Mz_.si (n := 43) (k := 0) (h) (by decide))
  have zI1_47 : (I1 43 47).toInt = (I 43 47).toInt := by rw [eI1]; exact (ti_r : TI (I 43 47) (I 43 47).toInt)
  have zI1_42 : (I1 43 42).toInt = (I 43 42).toInt := by rw [eI1]; exact (ti_r : TI (I 43 42) (I 43 42).toInt)
  have zI1_63 : (I1 43 63).toInt = (I 43 63).toInt := by rw [eI1]; exact (ti_r : TI (I 43 63) (I 43 63).toInt)
  have zI1_3 : (I1 43 3).toInt = (I 43 3).toInt := by rw [eI1]; exact (ti_r : TI (I 43 3) (I 43 3).toInt)
  have zI1_2 : (I1 43 2).toInt = (I 43 2).toInt := by rw [eI1]; exact (ti_r : TI (I 43 2) (I 43 2).toInt)
  have yI1 : I1 45 = I 45 := by rw [eI1]; rfl
  have bhI1 := hI1.bnd
  have bhI1_1 := hI1.bn2
  refine mTaken (hI1) ?_
  intro I1 J1 h1 g1a
  have bh1 := h1.bnd
  have bh1_1 := h1.bn2
  have t2 : TI (0 : Int32) (0) := show (0 : Int32).toInt = 0 by decide
  refine ⟨fun q3 => ?_, fun q3 => ?_⟩
  · have c4 := j_eq q3 (ti_r (e := (I1 43 3))) t2
    exact mSides_28 k ((0 : Int32)) I1 J1 (h1) (by (try simp only [t2.o, true_or, or_true, true_and, and_true]); first | done | omega) (by (try simp only [t2.o, true_or, or_true, true_and, and_true]); first | done | omega)
  · have c5 := j_ne q3 (ti_r (e := (I1 43 3))) t2
    refine mOctet (by (try simp only [t2.o, true_or, or_true, true_and, and_true]); first | done | omega) ?_
    intro r2 g2a
    try simp only [t2.o] at g2a
    exact mSides_28 k r2 I1 J1 (h1) (by omega) (by omega)
theorem mSketch_9 {S : Nat × (Nat → Int32)} {d : Nat} {x : mX} {I0 : rI0} {J0 : rJ0} {Tl : Int32 × Option Int32} {R C : Int} {Q : Int32 → rI0 → rJ0 → Prop} (k : ∀ r I J, (Mz_ I0 J0 Tl R C I J) → (r.toInt = 0 ∨ r.toInt = 1) → Q r I J) : ∀ (n : Nat) (l1 : Int64) (l3 : Int32) (I : rI0) (J : rJ0), (Neq (601 - (I 43 42).toInt).toNat n) → (Mz_ I0 J0 Tl R C I J) → (l3.toInt ≤ 600) → wp S (d + 5) 228 9 [some (.ref 43), some (.long l1), none, some (.int l3)] [] (wv x I J) (rI x Q) := by
  refine lpn ?_
  intro n ih
  intro l1 l3 I J hm h e0
  have bh := h.bnd
  refine v228_43_9 ?_
  refine ⟨fun q1 => ?_, fun q1 => ?_⟩
  · have c2 := j_lt q1 (ti_r (e := l3)) (ti_r (e := (I 43 42)))
    refine ⟨fun q3 => ?_, fun q3 => ?_⟩
    · refine ⟨fun q4 => ?_, fun q4 => ?_⟩
      · have t5 : TI (1 : Int32) (1) := show (1 : Int32).toInt = 1 by decide
        exact k _ _ _ (h) (by (try simp only [t5.o, true_or, or_true, true_and, and_true]); first | done | omega)
      · have t6 : TI (0 : Int32) (0) := show (0 : Int32).toInt = 0 by decide
        exact k _ _ _ (h) (by (try simp only [t6.o, true_or, or_true, true_and, and_true]); first | done | omega)
    · have t7 : TI (0 : Int32) (0) := show (0 : Int32).toInt = 0 by decide
      exact k _ _ _ (h) (by (try simp only [t7.o, true_or, or_true, true_and, and_true]); first | done | omega)
  · have c8 := j_nlt q1 (ti_r (e := l3)) (ti_r (e := (I 43 42)))
    refine mMoment (h) (by omega) ?_
    intro I1 J1 h1 g1a g1b g1c g1d
    have bh1 := h1.bnd
    exact ih _ (mih hm (by omega) (by omega)) l1 l3 I1 J1 rfl (h1) (by omega)
theorem mSketch {S : Nat × (Nat → Int32)} {d : Nat} {x : mX} {I0 : rI0} {J0 : rJ0} {Tl : Int32 × Option Int32} {R C : Int} {I : rI0} {J : rJ0} {p1 : Int64} {p2 : Int32} {Q : Int32 → rI0 → rJ0 → Prop} (h : Mz_ I0 J0 Tl R C I J) (hp : p2.toInt ≤ 600) (k : ∀ r I J, (Mz_ I0 J0 Tl R C I J) → (r.toInt = 0 ∨ r.toInt = 1) → Q r I J) : wcI S (d + 5) 228 [.ref 43, .long p1, .int p2] x I J Q := by
  have bh := h.bnd
  refine c228_43 ?_
  refine mBegin (h) ?_
  intro I1 J1 h1 g1a g1b g1c g1d
  have bh1 := h1.bnd
  exact mSketch_9 k _ p1 p2 I1 J1 rfl (h1) (by omega)
theorem mBegan_208 {S : Nat × (Nat → Int32)} {d : Nat} {x : mX} {I0 : rI0} {J0 : rJ0} {F : Option Int32} {R C : Int} {Q : Int32 → rI0 → rJ0 → Prop} {N198 : Nat} (k : ∀ r I J, (Mz_ I0 J0 (0, F) R C I J) → Q r I J) (K198 : ∀ (l1 : Int32) (l2 : Int32) (l3 : Int64) (l5 : Int64) (l7 : Int64) (l9 : Int32) (l10 : Int32) (I : rI0) (J : rJ0), (Mz_ I0 J0 (0, F) R C I J) → ((64 - l10.toInt).toNat < N198) → (l2.toInt ≤ 64) → (l1.toInt ≤ 600) → (0 ≤ l10.toInt) → wp S (d + 6) 229 198 [some (.ref 43), some (.int l1), some (.int l2), some (.long l3), none, some (.long l5), none, some (.long l7), none, some (.int l9), some (.int l10), none] [] (wv x I J) (rI x Q)) : ∀ (n : Nat) (l1 : Int32) (l2 : Int32) (l3 : Int64) (l5 : Int64) (l7 : Int64) (l9 : Int32) (l10 : Int32) (l11 : Int32) (I : rI0) (J : rJ0), (Neq (64 - l11.toInt).toNat n) → (Mz_ I0 J0 (0, F) R C I J) → (l2.toInt ≤ 64) → (l1.toInt ≤ 600) → (0 ≤ l10.toInt) → (l10.toInt < 64) → (0 ≤ l11.toInt) → (Nle (64 - l10.toInt).toNat N198) → wp S (d + 6) 229 208 [some (.ref 43), some (.int l1), some (.int l2), some (.long l3), none, some (.long l5), none, some (.long l7), none, some (.int l9), some (.int l10), some (.int l11)] [] (wv x I J) (rI x Q) := by
  refine lpn ?_
  intro n ih
  intro l1 l2 l3 l5 l7 l9 l10 l11 I J hm h e0 e1 e2 e3 e4 a0
  have bh := h.bnd
  have bh_1 := h.bn2
  refine v229_43_208 ?_
  refine ⟨fun q1 => ?_, fun q1 => ?_⟩
  · have c2 := j_lt q1 (ti_r (e := l11)) (ti_r (e := l2))
    refine mSeat (h) ?_
    intro r1 g1a
    have t3 : TI (0 : Int32) (0) := show (0 : Int32).toInt = 0 by decide
    refine ⟨fun q4 => ?_, fun q4 => ?_⟩
    · have c5 := j_eq q4 (ti_r (e := r1)) t3
      have t6 : TI (1 : Int32) (1) := show (1 : Int32).toInt = 1 by decide
      have t7 : TI (l11 + (1 : Int32)) (l11.toInt + 1) := ti_add ti_r t6 (by omega)
      exact ih _ (mih hm (by (try simp only [t7.o, true_or, or_true, true_and, and_true]); first | done | omega) (by omega)) l1 l2 l3 l5 l7 l9 l10 (l11 + (1 : Int32)) I J rfl (h) (by (try simp only [t7.o, true_or, or_true, true_and, and_true]); first | done | omega) (by (try simp only [t7.o, true_or, or_true, true_and, and_true]); first | done | omega) (by (try simp only [t7.o, true_or, or_true, true_and, and_true]); first | done | omega) (by (try simp only [t7.o, true_or, or_true, true_and, and_true]); first | done | omega) (by (try simp only [t7.o, true_or, or_true, true_and, and_true]); first | done | omega) (mle a0 (by (try simp only [t7.o, true_or, or_true, true_and, and_true]); first | done | omega))
    · have c8 := j_ne q4 (ti_r (e := r1)) t3
      refine mSeat (h) ?_
      intro r2 g2a
      refine ⟨fun q9 => ?_, fun q9 => ?_⟩
      · have c10 := j_eq q9 (ti_r (e := r2)) t3
        have t11 : TI (1 : Int32) (1) := show (1 : Int32).toInt = 1 by decide
        have t12 : TI (l11 + (1 : Int32)) (l11.toInt + 1) := ti_add ti_r t11 (by omega)
        exact ih _ (mih hm (by (try simp only [t12.o, true_or, or_true, true_and, and_true]); first | done | omega) (by omega)) l1 l2 l3 l5 l7 l9 l10 (l11 + (1 : Int32)) I J rfl (h) (by (try simp only [t12.o, true_or, or_true, true_and, and_true]); first | done | omega) (by (try simp only [t12.o, true_or, or_true, true_and, and_true]); first | done | omega) (by (try simp only [t12.o, true_or, or_true, true_and, and_true]); first | done | omega) (by (try simp only [t12.o, true_or, or_true, true_and, and_true]); first | done | omega) (by (try simp only [t12.o, true_or, or_true, true_and, and_true]); first | done | omega) (mle a0 (by (try simp only [t12.o, true_or, or_true, true_and, and_true]); first | done | omega))
      · have c13 := j_ne q9 (ti_r (e := r2)) t3
        refine mSketch (h) (by omega) ?_
        intro r3 I3 J3 h3 g3a
        have bh3 := h3.bnd
        have bh3_1 := h3.bn2
        refine ⟨fun q14 => ?_, fun q14 => ?_⟩
        · have c15 := j_eq q14 (ti_r (e := r3)) t3
          have t16 : TI (1 : Int32) (1) := show (1 : Int32).toInt = 1 by decide
          have t17 : TI (l11 + (1 : Int32)) (l11.toInt + 1) := ti_add ti_r t16 (by omega)
          exact ih _ (mih hm (by (try simp only [t17.o, true_or, or_true, true_and, and_true]); first | done | omega) (by omega)) l1 l2 l3 l5 l7 l9 l10 (l11 + (1 : Int32)) I3 J3 rfl (h3) (by (try simp only [t17.o, true_or, or_true, true_and, and_true]); first | done | omega) (by (try simp only [t17.o, true_or, or_true, true_and, and_true]); first | done | omega) (by (try simp only [t17.o, true_or, or_true, true_and, and_true]); first | done | omega) (by (try simp only [t17.o, true_or, or_true, true_and, and_true]); first | done | omega) (by (try simp only [t17.o, true_or, or_true, true_and, and_true]); first | done | omega) (mle a0 (by (try simp only [t17.o, true_or, or_true, true_and, and_true]); first | done | omega))
        · have c18 := j_ne q14 (ti_r (e := r3)) t3
          obtain ⟨g20, t19⟩ : ∃ r : Int, TI (l9 + (1 : Int32)) r := ⟨_, ti_r⟩
          have t21 : TI (1 : Int32) (1) := show (1 : Int32).toInt = 1 by decide
          refine ⟨fun q22 => ?_, fun q22 => ?_⟩
          · have c23 := j_lt q22 t21 t19
            have t24 : TI (l11 + (1 : Int32)) (l11.toInt + 1) := ti_add ti_r t21 (by omega)
            exact ih _ (mih hm (by (try simp only [t19.o, t24.o, true_or, or_true, true_and, and_true]); first | done | omega) (by omega)) l1 l2 l3 l5 l7 (l9 + (1 : Int32)) l10 (l11 + (1 : Int32)) I3 J3 rfl (h3) (by (try simp only [t19.o, t24.o, true_or, or_true, true_and, and_true]); first | done | omega) (by (try simp only [t19.o, t24.o, true_or, or_true, true_and, and_true]); first | done | omega) (by (try simp only [t19.o, t24.o, true_or, or_true, true_and, and_true]); first | done | omega) (by (try simp only [t19.o, t24.o, true_or, or_true, true_and, and_true]); first | done | omega) (by (try simp only [t19.o, t24.o, true_or, or_true, true_and, and_true]); first | done | omega) (mle a0 (by (try simp only [t19.o, t24.o, true_or, or_true, true_and, and_true]); first | done | omega))
          · have c25 := j_nlt q22 t21 t19
            refine ⟨fun q26 => ?_, fun q26 => ?_⟩
            · have c27 := j_eq q26 (ti_r (e := l10)) (ti_r (e := l11))
              have t28 : TI (l11 + (1 : Int32)) (l11.toInt + 1) := ti_add ti_r t21 (by omega)
              exact ih _ (mih hm (by (try simp only [t19.o, t28.o, true_or, or_true, true_and, and_true]); first | done | omega) (by omega)) l1 l2 l3 l5 l7 (l9 + (1 : Int32)) l10 (l11 + (1 : Int32)) (mSet (mSet I3 43 59 l10) 43 60 (-1 : Int32)) J3 rfl (Mz_.si (n := 43) (k := 60) (Mz_.si (n := 43) (k := 59) (h3) (by decide)) (by decide)) (by (try simp only [t19.o, t28.o, true_or, or_true, true_and, and_true]); first | done | omega) (by (try simp only [t19.o, t28.o, true_or, or_true, true_and, and_true]); first | done | omega) (by (try simp only [t19.o, t28.o, true_or, or_true, true_and, and_true]); first | done | omega) (by (try simp only [t19.o, t28.o, true_or, or_true, true_and, and_true]); first | done | omega) (by (try simp only [t19.o, t28.o, true_or, or_true, true_and, and_true]); first | done | omega) (mle a0 (by (try simp only [t19.o, t28.o, true_or, or_true, true_and, and_true]); first | done | omega))
            · have c29 := j_ne q26 (ti_r (e := l10)) (ti_r (e := l11))
              have t30 : TI (l11 + (1 : Int32)) (l11.toInt + 1) := ti_add ti_r t21 (by omega)
              exact ih _ (mih hm (by (try simp only [t19.o, t30.o, true_or, or_true, true_and, and_true]); first | done | omega) (by omega)) l1 l2 l3 l5 l7 (l9 + (1 : Int32)) l10 (l11 + (1 : Int32)) (mSet (mSet I3 43 59 l10) 43 60 l11) J3 rfl (Mz_.si (n := 43) (k := 60) (Mz_.si (n := 43) (k := 59) (h3) (by decide)) (by decide)) (by (try simp only [t19.o, t30.o, true_or, or_true, true_and, and_true]); first | done | omega) (by (try simp only [t19.o, t30.o, true_or, or_true, true_and, and_true]); first | done | omega) (by (try simp only [t19.o, t30.o, true_or, or_true, true_and, and_true]); first | done | omega) (by (try simp only [t19.o, t30.o, true_or, or_true, true_and, and_true]); first | done | omega) (by (try simp only [t19.o, t30.o, true_or, or_true, true_and, and_true]); first | done | omega) (mle a0 (by (try simp only [t19.o, t30.o, true_or, or_true, true_and, and_true]); first | done | omega))
  · have c31 := j_nlt q1 (ti_r (e := l11)) (ti_r (e := l2))
    have t32 : TI (1 : Int32) (1) := show (1 : Int32).toInt = 1 by decide
    have t33 : TI (l10 + (1 : Int32)) (l10.toInt + 1) := ti_add ti_r t32 (by omega)
    exact K198 l1 l2 l3 l5 l7 l9 (l10 + (1 : Int32)) I J (h) (mlt a0 (by (try simp only [t33.o, true_or, or_true, true_and, and_true]); first | done | omega) (by omega)) (by (try simp only [t33.o, true_or, or_true, true_and, and_true]); first | done | omega) (by (try simp only [t33.o, true_or, or_true, true_and, and_true]); first | done | omega) (by (try simp only [t33.o, true_or, or_true, true_and, and_true]); first | done | omega)
theorem mBegan_198 {S : Nat × (Nat → Int32)} {d : Nat} {x : mX} {I0 : rI0} {J0 : rJ0} {F : Option Int32} {R C : Int} {Q : Int32 → rI0 → rJ0 → Prop} (k : ∀ r I J, (Mz_ I0 J0 (0, F) R C I J) → Q r I J) : ∀ (n : Nat) (l1 : Int32) (l2 : Int32) (l3 : Int64) (l5 : Int64) (l7 : Int64) (l9 : Int32) (l10 : Int32) (I : rI0) (J : rJ0), (Neq (64 - l10.toInt).toNat n) → (Mz_ I0 J0 (0, F) R C I J) → (l2.toInt ≤ 64) → (l1.toInt ≤ 600) → (0 ≤ l10.toInt) → wp S (d + 6) 229 198 [some (.ref 43), some (.int l1), some (.int l2), some (.long l3), none, some (.long l5), none, some (.long l7), none, some (.int l9), some (.int l10), none] [] (wv x I J) (rI x Q) := by
  refine lpn ?_
  intro n ih
  intro l1 l2 l3 l5 l7 l9 l10 I J hm h e0 e1 e2
  have bh := h.bnd
  have bh_1 := h.bn2
  refine v229_43_198 ?_
  refine ⟨fun q1 => ?_, fun q1 => ?_⟩
  · have c2 := j_lt q1 (ti_r (e := l10)) (ti_r (e := l2))
    exact mBegan_208 k (fun l1_ l2_ l3_ l5_ l7_ l9_ l10_ I_ J_ h_ hlt f0_ f1_ f2_ => ih _ hlt l1_ l2_ l3_ l5_ l7_ l9_ l10_ I_ J_ rfl h_ f0_ f1_ f2_) _ l1 l2 l3 l5 l7 l9 l10 l10 I J rfl (h) (by omega) (by omega) (by omega) (by omega) (by omega) (mleq hm (by omega))
  · have c3 := j_nlt q1 (ti_r (e := l10)) (ti_r (e := l2))
    exact k _ _ _ (h)
theorem mBegan_138 {S : Nat × (Nat → Int32)} {d : Nat} {x : mX} {I0 : rI0} {J0 : rJ0} {F : Option Int32} {R C : Int} {Q : Int32 → rI0 → rJ0 → Prop} {N68 : Nat} (k : ∀ r I J, (Mz_ I0 J0 (0, F) R C I J) → Q r I J) (K68 : ∀ (l1 : Int32) (l2 : Int32) (l3 : Int64) (l5 : Int64) (l7 : Int64) (l9 : Int32) (I : rI0) (J : rJ0), (Mz_ I0 J0 (0, F) R C I J) → ((64 - l9.toInt).toNat < N68) → ((I 43 3).toInt ≤ 64) → (l2.toInt ≤ 64) → (l1.toInt ≤ 600) → (0 ≤ l9.toInt) → wp S (d + 6) 229 68 [some (.ref 43), some (.int l1), some (.int l2), some (.long l3), none, some (.long l5), none, some (.long l7), none, some (.int l9), none, none] [] (wv x I J) (rI x Q)) : ∀ (l1 : Int32) (l2 : Int32) (l3 : Int64) (l5 : Int64) (l7 : Int64) (l9 : Int32) (l10 : Int32) (s0 : Int64) (s1 : Int64) (I : rI0) (J : rJ0), (Mz_ I0 J0 (0, F) R C I J) → ((I 43 3).toInt ≤ 64) → (l2.toInt ≤ 64) → (l1.toInt ≤ 600) → (0 ≤ l9.toInt) → (l9.toInt < 64) → (Nle (64 - l9.toInt).toNat N68) → wp S (d + 6) 229 138 [some (.ref 43), some (.int l1), some (.int l2), some (.long l3), none, some (.long l5), none, some (.long l7), none, some (.int l9), some (.int l10), none] [.long s1, .long s0] (wv x I J) (rI x Q) := by
  intro l1 l2 l3 l5 l7 l9 l10 s0 s1 I J h e0 e1 e2 e3 e4 a0
  have bh := h.bnd
  have bh_1 := h.bn2
  refine v229_43_138 ?_
  have t1 : TI (1 : Int32) (1) := show (1 : Int32).toInt = 1 by decide
  refine ⟨fun q2 => ?_, fun q2 => ?_⟩
  · have c3 := j_lt q2 t1 (ti_r (e := l10))
    have t4 : TI (l9 + (1 : Int32)) (l9.toInt + 1) := ti_add ti_r t1 (by omega)
    exact K68 l1 l2 (s0 ||| s1) (l5 ||| ((1 : Int64) <<< (l9.toInt64 &&& 63))) l7 (l9 + (1 : Int32)) I J (h) (mlt a0 (by (try simp only [t4.o, true_or, or_true, true_and, and_true]); first | done | omega) (by omega)) (by (try simp only [t4.o, true_or, or_true, true_and, and_true]); first | done | omega) (by (try simp only [t4.o, true_or, or_true, true_and, and_true]); first | done | omega) (by (try simp only [t4.o, true_or, or_true, true_and, and_true]); first | done | omega) (by (try simp only [t4.o, true_or, or_true, true_and, and_true]); first | done | omega)
  · have c5 := j_nlt q2 t1 (ti_r (e := l10))
    have t6 : TI (l9 + (1 : Int32)) (l9.toInt + 1) := ti_add ti_r t1 (by omega)
    exact K68 l1 l2 (s0 ||| s1) (l5 ||| (0 : Int64)) l7 (l9 + (1 : Int32)) I J (h) (mlt a0 (by (try simp only [t6.o, true_or, or_true, true_and, and_true]); first | done | omega) (by omega)) (by (try simp only [t6.o, true_or, or_true, true_and, and_true]); first | done | omega) (by (try simp only [t6.o, true_or, or_true, true_and, and_true]); first | done | omega) (by (try simp only [t6.o, true_or, or_true, true_and, and_true]); first | done | omega) (by (try simp only [t6.o, true_or, or_true, true_and, and_true]); first | done | omega)
theorem mBegan_68 {S : Nat × (Nat → Int32)} {d : Nat} {x : mX} {I0 : rI0} {J0 : rJ0} {F : Option Int32} {R C : Int} {Q : Int32 → rI0 → rJ0 → Prop} (k : ∀ r I J, (Mz_ I0 J0 (0, F) R C I J) → Q r I J) : ∀ (n : Nat) (l1 : Int32) (l2 : Int32) (l3 : Int64) (l5 : Int64) (l7 : Int64) (l9 : Int32) (I : rI0) (J : rJ0), (Neq (64 - l9.toInt).toNat n) → (Mz_ I0 J0 (0, F) R C I J) → ((I 43 3).toInt ≤ 64) → (l2.toInt ≤ 64) → (l1.toInt ≤ 600) → (0 ≤ l9.toInt) → wp S (d + 6) 229 68 [some (.ref 43), some (.int l1), some (.int l2), some (.long l3), none, some (.long l5), none, some (.long l7), none, some (.int l9), none, none] [] (wv x I J) (rI x Q) := by
  refine lpn ?_
  intro n ih
  intro l1 l2 l3 l5 l7 l9 I J hm h e0 e1 e2 e3
  have bh := h.bnd
  have bh_1 := h.bn2
  refine v229_43_68 ?_
  refine ⟨fun q1 => ?_, fun q1 => ?_⟩
  · have c2 := j_lt q1 (ti_r (e := l9)) (ti_r (e := (I 43 3)))
    refine mOctet (by omega) ?_
    intro r1 g1a
    have t3 : TI (3 : Int32) (3) := show (3 : Int32).toInt = 3 by decide
    refine ⟨fun q4 => ?_, fun q4 => ?_⟩
    · have c5 := j_lt q4 t3 (ti_r (e := r1))
      exact k _ _ _ (h)
    · have c6 := j_nlt q4 t3 (ti_r (e := r1))
      refine ⟨fun q7 => ?_, fun q7 => ?_⟩
      · have c8 := j_eq q7 (ti_r (e := r1)) t3
        have t9 : TI (1 : Int32) (1) := show (1 : Int32).toInt = 1 by decide
        have t10 : TI (l9 + (1 : Int32)) (l9.toInt + 1) := ti_add ti_r t9 (by omega)
        exact ih _ (mih hm (by (try simp only [t10.o, true_or, or_true, true_and, and_true]); first | done | omega) (by omega)) l1 l2 l3 l5 l7 (l9 + (1 : Int32)) I J rfl (h) (by (try simp only [t10.o, true_or, or_true, true_and, and_true]); first | done | omega) (by (try simp only [t10.o, true_or, or_true, true_and, and_true]); first | done | omega) (by (try simp only [t10.o, true_or, or_true, true_and, and_true]); first | done | omega) (by (try simp only [t10.o, true_or, or_true, true_and, and_true]); first | done | omega)
      · have c11 := j_ne q7 (ti_r (e := r1)) t3
        have t12 : TI (6 : Int32) (6) := show (6 : Int32).toInt = 6 by decide
        have t13 : TI ((6 : Int32) + l9) (6 + l9.toInt) := ti_add t12 ti_r (by omega)
        refine ⟨?_, ?_⟩
        · exact jj_in (e := ((6 : Int32) + l9)) (A := (6 + l9.toInt)) t13 (by omega)
        have w14 := Mz_.kt h (e := ((6 : Int32) + l9)) (A := (6 + l9.toInt)) t13 (by omega)
        have t15 : TI (0 : Int32) (0) := show (0 : Int32).toInt = 0 by decide
        refine ⟨fun q16 => ?_, fun q16 => ?_⟩
        · have c17 := j_eq q16 (ti_r (e := (I 45 (((6 : Int32) + l9).toNatClampNeg)))) t15
          have t18 : TI (1 : Int32) (1) := show (1 : Int32).toInt = 1 by decide
          have t19 : TI (l9 + (1 : Int32)) (l9.toInt + 1) := ti_add ti_r t18 (by omega)
          exact ih _ (mih hm (by (try simp only [t19.o, true_or, or_true, true_and, and_true]); first | done | omega) (by omega)) l1 l2 l3 l5 l7 (l9 + (1 : Int32)) I J rfl (h) (by (try simp only [t19.o, true_or, or_true, true_and, and_true]); first | done | omega) (by (try simp only [t19.o, true_or, or_true, true_and, and_true]); first | done | omega) (by (try simp only [t19.o, true_or, or_true, true_and, and_true]); first | done | omega) (by (try simp only [t19.o, true_or, or_true, true_and, and_true]); first | done | omega)
        · have c20 := j_ne q16 (ti_r (e := (I 45 (((6 : Int32) + l9).toNatClampNeg)))) t15
          refine ⟨fun q21 => ?_, fun q21 => ?_⟩
          · have c22 := j_lt q21 t15 (ti_r (e := r1))
            exact mBegan_138 k (fun l1_ l2_ l3_ l5_ l7_ l9_ I_ J_ h_ hlt f0_ f1_ f2_ f3_ => ih _ hlt l1_ l2_ l3_ l5_ l7_ l9_ I_ J_ rfl h_ f0_ f1_ f2_ f3_) l1 l2 l3 l5 (l7 ||| ((1 : Int64) <<< (l9.toInt64 &&& 63))) l9 r1 l3 ((1 : Int64) <<< (l9.toInt64 &&& 63)) I J (h) (by omega) (by omega) (by omega) (by omega) (by omega) (mleq hm (by omega))
          · have c23 := j_nlt q21 t15 (ti_r (e := r1))
            exact mBegan_138 k (fun l1_ l2_ l3_ l5_ l7_ l9_ I_ J_ h_ hlt f0_ f1_ f2_ f3_ => ih _ hlt l1_ l2_ l3_ l5_ l7_ l9_ I_ J_ rfl h_ f0_ f1_ f2_ f3_) l1 l2 l3 l5 (l7 ||| ((1 : Int64) <<< (l9.toInt64 &&& 63))) l9 r1 l3 ((0 : Int64)) I J (h) (by omega) (by omega) (by omega) (by omega) (by omega) (mleq hm (by omega))
  · have c24 := j_nlt q1 (ti_r (e := l9)) (ti_r (e := (I 43 3)))
    have t25 : TI (0 : Int32) (0) := show (0 : Int32).toInt = 0 by decide
    exact mBegan_198 k _ l1 l2 l3 l5 l7 ((0 : Int32)) ((0 : Int32)) (mSet (mSet I 43 59 (-1 : Int32)) 43 60 (-1 : Int32)) (mSet (mSet (mSet J 43 56 l3) 43 57 l5) 43 58 l7) rfl (Mz_.sj (n := 43) (k := 58) (Mz_.sj (n := 43) (k := 57) (Mz_.sj (n := 43) (k := 56) (Mz_.si (n := 43) (k := 60) (Mz_.si (n := 43) (k := 59) (h) (by decide)) (by decide)) (by decide)) (by decide)) (by decide)) (by (try simp only [t25.o, true_or, or_true, true_and, and_true]); first | done | omega) (by (try simp only [t25.o, true_or, or_true, true_and, and_true]); first | done | omega) (by (try simp only [t25.o, true_or, or_true, true_and, and_true]); first | done | omega)
theorem mBegan {S : Nat × (Nat → Int32)} {d : Nat} {x : mX} {I0 : rI0} {J0 : rJ0} {F : Option Int32} {R C : Int} {T0 : Int32} {I : rI0} {J : rJ0} {p1 : Int32} {Q : Int32 → rI0 → rJ0 → Prop} (h : Mz_ I0 J0 (T0, F) R C I J) (k : ∀ r I J, (Mz_ I0 J0 (0, F) R C I J) → Q r I J) : wcI S (d + 6) 229 [.ref 43, .int p1] x I J Q := by
  have bh := h.bnd
  have bh_1 := h.bn2
  refine c229_43 ?_
  obtain ⟨I1, eI1⟩ : ∃ z, z = (mSet I 43 0 (0 : Int32)) := ⟨_, rfl⟩
  rw [← eI1]
  have hI1 : Mz_ I0 J0 (T0, F) R C I1 J := by rw [eI1]; exact (Mz_.si (n := 43) (k := 0) (h) (by decide))
  have zI1_47 : (I1 43 47).toInt = (I 43 47).toInt := by rw [eI1]; exact (ti_r : TI (I 43 47) (I 43 47).toInt)
  have zI1_42 : (I1 43 42).toInt = (I 43 42).toInt := by rw [eI1]; exact (ti_r : TI (I 43 42) (I 43 42).toInt)
  have zI1_63 : (I1 43 63).toInt = (I 43 63).toInt := by rw [eI1]; exact (ti_r : TI (I 43 63) (I 43 63).toInt)
  have zI1_3 : (I1 43 3).toInt = (I 43 3).toInt := by rw [eI1]; exact (ti_r : TI (I 43 3) (I 43 3).toInt)
  have zI1_2 : (I1 43 2).toInt = (I 43 2).toInt := by rw [eI1]; exact (ti_r : TI (I 43 2) (I 43 2).toInt)
  have yI1 : I1 45 = I 45 := by rw [eI1]; rfl
  have bhI1 := hI1.bnd
  have bhI1_1 := hI1.bn2
  refine mTaken (hI1) ?_
  intro I1 J1 h1 g1a
  have bh1 := h1.bnd
  have bh1_1 := h1.bn2
  have t2 : TI (0 : Int32) (0) := show (0 : Int32).toInt = 0 by decide
  refine ⟨?_, ?_⟩
  · exact jj_in (e := (0 : Int32)) (A := 0) t2 (by omega)
  have t3 : TI (I1 45 ((0 : Int32).toNatClampNeg)) (I1 45 0).toInt := ti_r (e := I1 45 0)
  have t4 : TI (1 : Int32) (1) := show (1 : Int32).toInt = 1 by decide
  refine ⟨?_, ?_⟩
  · exact jj_in (e := (1 : Int32)) (A := 1) t4 (by omega)
  have t5 : TI (I1 45 ((1 : Int32).toNatClampNeg)) (I1 45 1).toInt := ti_r (e := I1 45 1)
  have ut6 : 0 ≤ (I1 45 0).toInt * (I1 45 1).toInt ∧ (I1 45 0).toInt * (I1 45 1).toInt ≤ 64 := i_mb (by omega) (by omega)
  have vt6 := i_mp (A := (I1 45 0).toInt) (B := (I1 45 1).toInt) (by omega) (by omega)
  have t6 : TI ((I1 45 ((0 : Int32).toNatClampNeg)) * (I1 45 ((1 : Int32).toNatClampNeg))) ((I1 45 0).toInt * (I1 45 1).toInt) := ti_mul t3 t5 (by omega)
  refine ⟨fun q7 => ?_, fun q7 => ?_⟩
  · have c8 := j_eq q7 (ti_r (e := (I1 43 3))) t6
    have t9 : TI (60 : Int32) (60) := show (60 : Int32).toInt = 60 by decide
    refine mIn  ?_
    intro r2 g2a
    try simp only [t2.o, t9.o] at g2a
    refine ⟨fun q10 => ?_, fun q10 => ?_⟩
    · have c11 := j_eq q10 (ti_r (e := r2)) t2
      exact k _ _ _ (h1)
    · have c12 := j_ne q10 (ti_r (e := r2)) t2
      have t13 : TI (2 : Int32) (2) := show (2 : Int32).toInt = 2 by decide
      refine ⟨?_, ?_⟩
      · exact jj_in (e := (2 : Int32)) (A := 2) t13 (by omega)
      have t14 : TI (I1 45 ((2 : Int32).toNatClampNeg)) (I1 45 2).toInt := ti_r (e := I1 45 2)
      have t15 : TI (24 : Int32) (24) := show (24 : Int32).toInt = 24 by decide
      refine ⟨fun q16 => ?_, fun q16 => ?_⟩
      · have c17 := j_lt q16 t15 t14
        exact k _ _ _ (h1)
      · have c18 := j_nlt q16 t15 t14
        exact mBegan_68 k _ p1 ((I1 45 ((0 : Int32).toNatClampNeg)) * (I1 45 ((1 : Int32).toNatClampNeg))) ((0 : Int64)) ((0 : Int64)) ((0 : Int64)) ((0 : Int32)) I1 J1 rfl (h1) (by (try simp only [t6.o, t2.o, true_or, or_true, true_and, and_true]); first | done | omega) (by (try simp only [t6.o, t2.o, true_or, or_true, true_and, and_true]); first | done | omega) (by (try simp only [t6.o, t2.o, true_or, or_true, true_and, and_true]); first | done | omega) (by (try simp only [t6.o, t2.o, true_or, or_true, true_and, and_true]); first | done | omega)
  · have c19 := j_ne q7 (ti_r (e := (I1 43 3))) t6
    exact k _ _ _ (h1)
theorem mParts_87 {S : Nat × (Nat → Int32)} {d : Nat} {x : mX} {I0 : rI0} {J0 : rJ0} {Tl : Int32 × Option Int32} {R C : Int} {Q : Int32 → rI0 → rJ0 → Prop} (k : ∀ r I J, (Mz_ I0 J0 Tl R C I J) → Q r I J) : ∀ (n : Nat) (l1 : Int32) (l2 : Int32) (l3 : Int32) (I : rI0) (J : rJ0), (Neq (61 - l3.toInt).toNat n) → (Mz_ I0 J0 Tl R C I J) → (0 ≤ l3.toInt) → (l3.toInt ≤ 61) → wp S (d + 6) 231 87 [some (.ref 43), some (.int l1), some (.int l2), some (.int l3)] [] (wv x I J) (rI x Q) := by
  refine lpn ?_
  intro n ih
  intro l1 l2 l3 I J hm h e0 e1
  have bh := h.bnd
  refine v231_43_87 ?_
  have t1 : TI (60 : Int32) (60) := show (60 : Int32).toInt = 60 by decide
  refine ⟨fun q2 => ?_, fun q2 => ?_⟩
  · have c3 := j_lt q2 t1 (ti_r (e := l3))
    exact k _ _ _ (h)
  · have c4 := j_nlt q2 t1 (ti_r (e := l3))
    refine ⟨?_, ?_⟩
    · exact jj_in (e := (l3)) (A := l3.toInt) ti_r (by omega)
    refine ⟨?_, ?_⟩
    · exact jj_in (e := (l3)) (A := l3.toInt) ti_r (by omega)
    refine ⟨fun q5 => ?_, fun q5 => ?_⟩
    · refine ⟨?_, ?_⟩
      · exact jj_in (e := (l3)) (A := l3.toInt) ti_r (by omega)
      refine ⟨?_, ?_⟩
      · exact jj_in (e := (l3)) (A := l3.toInt) ti_r (by omega)
      refine ⟨fun q6 => ?_, fun q6 => ?_⟩
      · have t7 : TI (1 : Int32) (1) := show (1 : Int32).toInt = 1 by decide
        have t8 : TI (l3 + (1 : Int32)) (l3.toInt + 1) := ti_add ti_r t7 (by omega)
        exact ih _ (mih hm (by (try simp only [t8.o, true_or, or_true, true_and, and_true]); first | done | omega) (by omega)) l1 l2 (l3 + (1 : Int32)) I J rfl (h) (by (try simp only [t8.o, true_or, or_true, true_and, and_true]); first | done | omega) (by (try simp only [t8.o, true_or, or_true, true_and, and_true]); first | done | omega)
      · exact k _ _ _ (h)
    · exact k _ _ _ (h)
theorem mParts_37 {S : Nat × (Nat → Int32)} {d : Nat} {x : mX} {I0 : rI0} {J0 : rJ0} {Tl : Int32 × Option Int32} {R C : Int} {Q : Int32 → rI0 → rJ0 → Prop} (k : ∀ r I J, (Mz_ I0 J0 Tl R C I J) → Q r I J) : ∀ (n : Nat) (l1 : Int32) (l2 : Int32) (l3 : Int32) (I : rI0) (J : rJ0), (Neq (61 - l3.toInt).toNat n) → (Mz_ I0 J0 Tl R C I J) → (0 ≤ l3.toInt) → (l3.toInt ≤ 61) → wp S (d + 6) 231 37 [some (.ref 43), some (.int l1), some (.int l2), some (.int l3)] [] (wv x I J) (rI x Q) := by
  refine lpn ?_
  intro n ih
  intro l1 l2 l3 I J hm h e0 e1
  have bh := h.bnd
  refine v231_43_37 ?_
  have t1 : TI (60 : Int32) (60) := show (60 : Int32).toInt = 60 by decide
  refine ⟨fun q2 => ?_, fun q2 => ?_⟩
  · have c3 := j_lt q2 t1 (ti_r (e := l3))
    refine mHeight (h) ?_
    intro r1 I1 J1 h1 g1a g1b g1c
    have bh1 := h1.bnd
    have t4 : TI (0 : Int32) (0) := show (0 : Int32).toInt = 0 by decide
    exact mParts_87 k _ l1 l2 ((0 : Int32)) I1 J1 rfl (h1) (by (try simp only [t4.o, true_or, or_true, true_and, and_true]); first | done | omega) (by (try simp only [t4.o, true_or, or_true, true_and, and_true]); first | done | omega)
  · have c5 := j_nlt q2 t1 (ti_r (e := l3))
    refine ⟨?_, ?_⟩
    · exact jj_in (e := (l3)) (A := l3.toInt) ti_r (by omega)
    refine ⟨?_, ?_⟩
    · exact jj_in (e := (l3)) (A := l3.toInt) ti_r (by omega)
    refine ⟨?_, ?_⟩
    · exact jj_in (e := (l3)) (A := l3.toInt) ti_r (by omega)
    refine ⟨?_, ?_⟩
    · exact jj_in (e := (l3)) (A := l3.toInt) ti_r (by omega)
    have t6 : TI (1 : Int32) (1) := show (1 : Int32).toInt = 1 by decide
    have t7 : TI (l3 + (1 : Int32)) (l3.toInt + 1) := ti_add ti_r t6 (by omega)
    exact ih _ (mih hm (by (try simp only [t7.o, true_or, or_true, true_and, and_true]); first | done | omega) (by omega)) l1 l2 (l3 + (1 : Int32)) I (mSet (mSet J 61 l3.toNatClampNeg (J 52 l3.toNatClampNeg)) 62 l3.toNatClampNeg (J 53 l3.toNatClampNeg)) rfl (Mz_.sk (n := 62) (k := l3.toNatClampNeg) (Mz_.sk (n := 61) (k := l3.toNatClampNeg) (h) (by decide)) (by decide)) (by (try simp only [t7.o, true_or, or_true, true_and, and_true]); first | done | omega) (by (try simp only [t7.o, true_or, or_true, true_and, and_true]); first | done | omega)
theorem mParts {S : Nat × (Nat → Int32)} {d : Nat} {x : mX} {I0 : rI0} {J0 : rJ0} {Tl : Int32 × Option Int32} {R C : Int} {I : rI0} {J : rJ0} {p1 : Int32} {p2 : Int32} {Q : Int32 → rI0 → rJ0 → Prop} (h : Mz_ I0 J0 Tl R C I J) (k : ∀ r I J, (Mz_ I0 J0 Tl R C I J) → Q r I J) : wcI S (d + 6) 231 [.ref 43, .int p1, .int p2] x I J Q := by
  have bh := h.bnd
  refine c231_43 ?_
  obtain ⟨I1, eI1⟩ : ∃ z, z = (mSet I 43 0 (0 : Int32)) := ⟨_, rfl⟩
  rw [← eI1]
  have hI1 : Mz_ I0 J0 Tl R C I1 J := by rw [eI1]; exact (Mz_.si (n := 43) (k := 0) (h) (by decide))
  have zI1_47 : (I1 43 47).toInt = (I 43 47).toInt := by rw [eI1]; exact (ti_r : TI (I 43 47) (I 43 47).toInt)
  have zI1_42 : (I1 43 42).toInt = (I 43 42).toInt := by rw [eI1]; exact (ti_r : TI (I 43 42) (I 43 42).toInt)
  have zI1_63 : (I1 43 63).toInt = (I 43 63).toInt := by rw [eI1]; exact (ti_r : TI (I 43 63) (I 43 63).toInt)
  have zI1_3 : (I1 43 3).toInt = (I 43 3).toInt := by rw [eI1]; exact (ti_r : TI (I 43 3) (I 43 3).toInt)
  have yI1 : I1 45 = I 45 := by rw [eI1]; rfl
  have bhI1 := hI1.bnd
  refine mSeat (hI1) ?_
  intro r1 g1a
  have t2 : TI (0 : Int32) (0) := show (0 : Int32).toInt = 0 by decide
  refine ⟨fun q3 => ?_, fun q3 => ?_⟩
  · have c4 := j_eq q3 (ti_r (e := r1)) t2
    exact k _ _ _ (hI1)
  · have c5 := j_ne q3 (ti_r (e := r1)) t2
    refine mSeat (hI1) ?_
    intro r2 g2a
    refine ⟨fun q6 => ?_, fun q6 => ?_⟩
    · have c7 := j_eq q6 (ti_r (e := r2)) t2
      exact k _ _ _ (hI1)
    · have c8 := j_ne q6 (ti_r (e := r2)) t2
      refine mHeight (hI1) ?_
      intro r3 I3 J3 h3 g3a g3b g3c
      have bh3 := h3.bnd
      exact mParts_37 k _ p1 p2 ((0 : Int32)) I3 J3 rfl (h3) (by (try simp only [t2.o, true_or, or_true, true_and, and_true]); first | done | omega) (by (try simp only [t2.o, true_or, or_true, true_and, and_true]); first | done | omega)
theorem mUnlike {S : Nat × (Nat → Int32)} {d : Nat} {x : mX} {I0 : rI0} {J0 : rJ0} {Tl : Int32 × Option Int32} {R C : Int} {I : rI0} {J : rJ0} {p1 : Int32} {p2 : Int32} {Q : Int32 → rI0 → rJ0 → Prop} (h : Mz_ I0 J0 Tl R C I J) (k : ∀ r, (r.toInt = 0 ∨ (r.toInt = 1 ∧ (0 ≤ p1.toInt ∧ p1.toInt < 64 ∧ 1 ≤ (I 45 ((6 : Int32) + p1).toNatClampNeg).toInt) ∧ (0 ≤ p2.toInt ∧ p2.toInt < 64 ∧ 1 ≤ (I 45 ((6 : Int32) + p2).toNatClampNeg).toInt))) → Q r I J) : wcI S (d + 2) 233 [.ref 43, .int p1, .int p2] x I J Q := by
  have bh := h.bnd
  refine c233_43 ?_
  refine mSeat (h) ?_
  intro r1 g1a
  have t1 : TI (0 : Int32) (0) := show (0 : Int32).toInt = 0 by decide
  refine ⟨fun q2 => ?_, fun q2 => ?_⟩
  · have c3 := j_eq q2 (ti_r (e := r1)) t1
    exact k _ (by (try simp only [t1.o, true_or, or_true, true_and, and_true]); first | done | omega)
  · have c4 := j_ne q2 (ti_r (e := r1)) t1
    refine mSeat (h) ?_
    intro r2 g2a
    refine ⟨fun q5 => ?_, fun q5 => ?_⟩
    · have c6 := j_eq q5 (ti_r (e := r2)) t1
      exact k _ (by (try simp only [t1.o, true_or, or_true, true_and, and_true]); first | done | omega)
    · have c7 := j_ne q5 (ti_r (e := r2)) t1
      have t8 : TI (6 : Int32) (6) := show (6 : Int32).toInt = 6 by decide
      have t9 : TI ((6 : Int32) + p1) (6 + p1.toInt) := ti_add t8 ti_r (by omega)
      refine ⟨?_, ?_⟩
      · exact jj_in (e := ((6 : Int32) + p1)) (A := (6 + p1.toInt)) t9 (by omega)
      have w10 := Mz_.kt h (e := ((6 : Int32) + p1)) (A := (6 + p1.toInt)) t9 (by omega)
      have t11 : TI ((6 : Int32) + p2) (6 + p2.toInt) := ti_add t8 ti_r (by omega)
      refine ⟨?_, ?_⟩
      · exact jj_in (e := ((6 : Int32) + p2)) (A := (6 + p2.toInt)) t11 (by omega)
      have w12 := Mz_.kt h (e := ((6 : Int32) + p2)) (A := (6 + p2.toInt)) t11 (by omega)
      refine ⟨fun q13 => ?_, fun q13 => ?_⟩
      · have c14 := j_eq q13 (ti_r (e := (I 45 (((6 : Int32) + p1).toNatClampNeg)))) (ti_r (e := (I 45 (((6 : Int32) + p2).toNatClampNeg))))
        exact k _ (by (try simp only [t1.o, true_or, or_true, true_and, and_true]); first | done | omega)
      · have c15 := j_ne q13 (ti_r (e := (I 45 (((6 : Int32) + p1).toNatClampNeg)))) (ti_r (e := (I 45 (((6 : Int32) + p2).toNatClampNeg))))
        have t16 : TI (1 : Int32) (1) := show (1 : Int32).toInt = 1 by decide
        exact k _ (by (try simp only [t16.o, true_or, or_true, true_and, and_true]); first | done | omega)
theorem mExchanged_65 {S : Nat × (Nat → Int32)} {d : Nat} {x : mX} {I0 : rI0} {J0 : rJ0} {Tl : Int32 × Option Int32} {R C : Int} {Q : Int32 → rI0 → rJ0 → Prop} {N56 : Nat} (k : ∀ r I J, (Mz_ I0 J0 Tl R C I J) → Q r I J) (K56 : ∀ (l1 : Int32) (l2 : Int32) (I : rI0) (J : rJ0), (Mz_ I0 J0 Tl R C I J) → ((64 - l2.toInt).toNat < N56) → (l1.toInt ≤ 64) → (0 ≤ l2.toInt) → wp S (d + 6) 234 56 [some (.ref 43), some (.int l1), some (.int l2), none] [] (wv x I J) (rI x Q)) : ∀ (n : Nat) (l1 : Int32) (l2 : Int32) (l3 : Int32) (I : rI0) (J : rJ0), (Neq (64 - l3.toInt).toNat n) → (Mz_ I0 J0 Tl R C I J) → (l1.toInt ≤ 64) → (0 ≤ l2.toInt) → (l2.toInt < 64) → (0 ≤ l3.toInt) → (Nle (64 - l2.toInt).toNat N56) → wp S (d + 6) 234 65 [some (.ref 43), some (.int l1), some (.int l2), some (.int l3)] [] (wv x I J) (rI x Q) := by
  refine lpn ?_
  intro n ih
  intro l1 l2 l3 I J hm h e0 e1 e2 e3 a0
  have bh := h.bnd
  refine v234_43_65 ?_
  refine ⟨fun q1 => ?_, fun q1 => ?_⟩
  · have c2 := j_lt q1 (ti_r (e := l3)) (ti_r (e := l1))
    refine mUnlike (h) ?_
    intro r1 g1a
    have t3 : TI (0 : Int32) (0) := show (0 : Int32).toInt = 0 by decide
    refine ⟨fun q4 => ?_, fun q4 => ?_⟩
    · have c5 := j_eq q4 (ti_r (e := r1)) t3
      have t6 : TI (1 : Int32) (1) := show (1 : Int32).toInt = 1 by decide
      have t7 : TI (l3 + (1 : Int32)) (l3.toInt + 1) := ti_add ti_r t6 (by omega)
      exact ih _ (mih hm (by (try simp only [t7.o, true_or, or_true, true_and, and_true]); first | done | omega) (by omega)) l1 l2 (l3 + (1 : Int32)) I J rfl (h) (by (try simp only [t7.o, true_or, or_true, true_and, and_true]); first | done | omega) (by (try simp only [t7.o, true_or, or_true, true_and, and_true]); first | done | omega) (by (try simp only [t7.o, true_or, or_true, true_and, and_true]); first | done | omega) (by (try simp only [t7.o, true_or, or_true, true_and, and_true]); first | done | omega) (mle a0 (by (try simp only [t7.o, true_or, or_true, true_and, and_true]); first | done | omega))
    · have c8 := j_ne q4 (ti_r (e := r1)) t3
      refine mChange (h) (by omega) ?_
      intro I2 J2 h2 g2a g2b
      have bh2 := h2.bnd
      refine mHeight (h2) ?_
      intro r3 I3 J3 h3 g3a g3b g3c
      have bh3 := h3.bnd
      have x1 : (I3 45 ((6 : Int32) + l2).toNatClampNeg).toInt = (I 45 ((6 : Int32) + l3).toNatClampNeg).toInt := by rw [g3b, g2a.1]
      have x2 : (I3 45 ((6 : Int32) + l3).toNatClampNeg).toInt = (I 45 ((6 : Int32) + l2).toNatClampNeg).toInt := by rw [g3b, g2a.2]
      refine mChange (h3) (by omega) ?_
      intro I4 J4 h4 g4a g4b
      have bh4 := h4.bnd
      refine ⟨fun q9 => ?_, fun q9 => ?_⟩
      · have c10 := j_eq q9 (ti_r (e := (I4 43 45))) t3
        have t11 : TI (1 : Int32) (1) := show (1 : Int32).toInt = 1 by decide
        have t12 : TI (l3 + (1 : Int32)) (l3.toInt + 1) := ti_add ti_r t11 (by omega)
        exact ih _ (mih hm (by (try simp only [t12.o, true_or, or_true, true_and, and_true]); first | done | omega) (by omega)) l1 l2 (l3 + (1 : Int32)) I4 J4 rfl (h4) (by (try simp only [t12.o, true_or, or_true, true_and, and_true]); first | done | omega) (by (try simp only [t12.o, true_or, or_true, true_and, and_true]); first | done | omega) (by (try simp only [t12.o, true_or, or_true, true_and, and_true]); first | done | omega) (by (try simp only [t12.o, true_or, or_true, true_and, and_true]); first | done | omega) (mle a0 (by (try simp only [t12.o, true_or, or_true, true_and, and_true]); first | done | omega))
      · have c13 := j_ne q9 (ti_r (e := (I4 43 45))) t3
        exact k _ _ _ (h4)
  · have c14 := j_nlt q1 (ti_r (e := l3)) (ti_r (e := l1))
    have t15 : TI (1 : Int32) (1) := show (1 : Int32).toInt = 1 by decide
    have t16 : TI (l2 + (1 : Int32)) (l2.toInt + 1) := ti_add ti_r t15 (by omega)
    exact K56 l1 (l2 + (1 : Int32)) I J (h) (mlt a0 (by (try simp only [t16.o, true_or, or_true, true_and, and_true]); first | done | omega) (by omega)) (by (try simp only [t16.o, true_or, or_true, true_and, and_true]); first | done | omega) (by (try simp only [t16.o, true_or, or_true, true_and, and_true]); first | done | omega)
theorem mExchanged_56 {S : Nat × (Nat → Int32)} {d : Nat} {x : mX} {I0 : rI0} {J0 : rJ0} {Tl : Int32 × Option Int32} {R C : Int} {Q : Int32 → rI0 → rJ0 → Prop} (k : ∀ r I J, (Mz_ I0 J0 Tl R C I J) → Q r I J) : ∀ (n : Nat) (l1 : Int32) (l2 : Int32) (I : rI0) (J : rJ0), (Neq (64 - l2.toInt).toNat n) → (Mz_ I0 J0 Tl R C I J) → (l1.toInt ≤ 64) → (0 ≤ l2.toInt) → wp S (d + 6) 234 56 [some (.ref 43), some (.int l1), some (.int l2), none] [] (wv x I J) (rI x Q) := by
  refine lpn ?_
  intro n ih
  intro l1 l2 I J hm h e0 e1
  have bh := h.bnd
  refine v234_43_56 ?_
  refine ⟨fun q1 => ?_, fun q1 => ?_⟩
  · have c2 := j_lt q1 (ti_r (e := l2)) (ti_r (e := l1))
    have t3 : TI (1 : Int32) (1) := show (1 : Int32).toInt = 1 by decide
    have t4 : TI (l2 + (1 : Int32)) (l2.toInt + 1) := ti_add ti_r t3 (by omega)
    exact mExchanged_65 k (fun l1_ l2_ I_ J_ h_ hlt f0_ f1_ => ih _ hlt l1_ l2_ I_ J_ rfl h_ f0_ f1_) _ l1 l2 (l2 + (1 : Int32)) I J rfl (h) (by (try simp only [t4.o, true_or, or_true, true_and, and_true]); first | done | omega) (by (try simp only [t4.o, true_or, or_true, true_and, and_true]); first | done | omega) (by (try simp only [t4.o, true_or, or_true, true_and, and_true]); first | done | omega) (by (try simp only [t4.o, true_or, or_true, true_and, and_true]); first | done | omega) (mleq hm (by (try simp only [t4.o, true_or, or_true, true_and, and_true]); first | done | omega))
  · have c5 := j_nlt q1 (ti_r (e := l2)) (ti_r (e := l1))
    exact k _ _ _ (h)
theorem mExchanged {S : Nat × (Nat → Int32)} {d : Nat} {x : mX} {I0 : rI0} {J0 : rJ0} {Tl : Int32 × Option Int32} {R C : Int} {I : rI0} {J : rJ0} {Q : Int32 → rI0 → rJ0 → Prop} (h : Mz_ I0 J0 Tl R C I J) (k : ∀ r I J, (Mz_ I0 J0 Tl R C I J) → Q r I J) : wcI S (d + 6) 234 [.ref 43] x I J Q := by
  have bh := h.bnd
  refine c234_43 ?_
  have t1 : TI (2 : Int32) (2) := show (2 : Int32).toInt = 2 by decide
  refine ⟨?_, ?_⟩
  · exact jj_in (e := (2 : Int32)) (A := 2) t1 (by omega)
  have t2 : TI (I 45 ((2 : Int32).toNatClampNeg)) (I 45 2).toInt := ti_r (e := I 45 2)
  have t3 : TI (24 : Int32) (24) := show (24 : Int32).toInt = 24 by decide
  refine ⟨fun q4 => ?_, fun q4 => ?_⟩
  · have c5 := j_lt q4 t3 t2
    exact k _ _ _ (Mz_.si (n := 43) (k := 0) (h) (by decide))
  · have c6 := j_nlt q4 t3 t2
    obtain ⟨I7, eI7⟩ : ∃ z, z = (mSet I 43 0 (0 : Int32)) := ⟨_, rfl⟩
    rw [← eI7]
    have hI7 : Mz_ I0 J0 Tl R C I7 J := by rw [eI7]; exact (Mz_.si (n := 43) (k := 0) (h) (by decide))
    have zI7_47 : (I7 43 47).toInt = (I 43 47).toInt := by rw [eI7]; exact (ti_r : TI (I 43 47) (I 43 47).toInt)
    have zI7_42 : (I7 43 42).toInt = (I 43 42).toInt := by rw [eI7]; exact (ti_r : TI (I 43 42) (I 43 42).toInt)
    have zI7_63 : (I7 43 63).toInt = (I 43 63).toInt := by rw [eI7]; exact (ti_r : TI (I 43 63) (I 43 63).toInt)
    have zI7_3 : (I7 43 3).toInt = (I 43 3).toInt := by rw [eI7]; exact (ti_r : TI (I 43 3) (I 43 3).toInt)
    have yI7 : I7 45 = I 45 := by rw [eI7]; rfl
    have bhI7 := hI7.bnd
    refine mHeight (hI7) ?_
    intro r1 I1 J1 h1 g1a g1b g1c
    have bh1 := h1.bnd
    have t8 : TI (0 : Int32) (0) := show (0 : Int32).toInt = 0 by decide
    refine ⟨fun q9 => ?_, fun q9 => ?_⟩
    · have c10 := j_eq q9 (ti_r (e := (I1 43 45))) t8
      refine ⟨?_, ?_⟩
      · exact jj_in (e := (0 : Int32)) (A := 0) t8 (by omega)
      have t11 : TI (I1 45 ((0 : Int32).toNatClampNeg)) (I1 45 0).toInt := ti_r (e := I1 45 0)
      have t12 : TI (1 : Int32) (1) := show (1 : Int32).toInt = 1 by decide
      refine ⟨?_, ?_⟩
      · exact jj_in (e := (1 : Int32)) (A := 1) t12 (by omega)
      have t13 : TI (I1 45 ((1 : Int32).toNatClampNeg)) (I1 45 1).toInt := ti_r (e := I1 45 1)
      have ut14 : 0 ≤ (I1 45 0).toInt * (I1 45 1).toInt ∧ (I1 45 0).toInt * (I1 45 1).toInt ≤ 64 := i_mb (by omega) (by omega)
      have vt14 := i_mp (A := (I1 45 0).toInt) (B := (I1 45 1).toInt) (by omega) (by omega)
      have t14 : TI ((I1 45 ((0 : Int32).toNatClampNeg)) * (I1 45 ((1 : Int32).toNatClampNeg))) ((I1 45 0).toInt * (I1 45 1).toInt) := ti_mul t11 t13 (by omega)
      exact mExchanged_56 k _ ((I1 45 ((0 : Int32).toNatClampNeg)) * (I1 45 ((1 : Int32).toNatClampNeg))) ((0 : Int32)) I1 J1 rfl (h1) (by (try simp only [t14.o, t8.o, true_or, or_true, true_and, and_true]); first | done | omega) (by (try simp only [t14.o, t8.o, true_or, or_true, true_and, and_true]); first | done | omega)
    · have c15 := j_ne q9 (ti_r (e := (I1 43 45))) t8
      exact k _ _ _ (h1)
theorem mExchange {S : Nat × (Nat → Int32)} {d : Nat} {x : mX} {I0 : rI0} {J0 : rJ0} {Tl : Int32 × Option Int32} {R C : Int} {I : rI0} {J : rJ0} {p1 : Int32} {p2 : Int32} {Q : Int32 → rI0 → rJ0 → Prop} (h : Mz_ I0 J0 Tl R C I J) (k : ∀ r I J, (Mz_ I0 J0 Tl R C I J) → Q r I J) : wcI S (d + 2) 235 [.ref 43, .int p1, .int p2] x I J Q := by
  have bh := h.bnd
  refine c235_43 ?_
  obtain ⟨I1, eI1⟩ : ∃ z, z = (mSet I 43 0 (0 : Int32)) := ⟨_, rfl⟩
  rw [← eI1]
  have hI1 : Mz_ I0 J0 Tl R C I1 J := by rw [eI1]; exact (Mz_.si (n := 43) (k := 0) (h) (by decide))
  have zI1_47 : (I1 43 47).toInt = (I 43 47).toInt := by rw [eI1]; exact (ti_r : TI (I 43 47) (I 43 47).toInt)
  have zI1_42 : (I1 43 42).toInt = (I 43 42).toInt := by rw [eI1]; exact (ti_r : TI (I 43 42) (I 43 42).toInt)
  have zI1_63 : (I1 43 63).toInt = (I 43 63).toInt := by rw [eI1]; exact (ti_r : TI (I 43 63) (I 43 63).toInt)
  have zI1_3 : (I1 43 3).toInt = (I 43 3).toInt := by rw [eI1]; exact (ti_r : TI (I 43 3) (I 43 3).toInt)
  have yI1 : I1 45 = I 45 := by rw [eI1]; rfl
  have bhI1 := hI1.bnd
  refine mSeat (hI1) ?_
  intro r1 g1a
  have t2 : TI (0 : Int32) (0) := show (0 : Int32).toInt = 0 by decide
  refine ⟨fun q3 => ?_, fun q3 => ?_⟩
  · have c4 := j_eq q3 (ti_r (e := r1)) t2
    exact k _ _ _ (hI1)
  · have c5 := j_ne q3 (ti_r (e := r1)) t2
    refine mSeat (hI1) ?_
    intro r2 g2a
    refine ⟨fun q6 => ?_, fun q6 => ?_⟩
    · have c7 := j_eq q6 (ti_r (e := r2)) t2
      exact k _ _ _ (hI1)
    · have c8 := j_ne q6 (ti_r (e := r2)) t2
      refine ⟨fun q9 => ?_, fun q9 => ?_⟩
      · have c10 := j_eq q9 (ti_r (e := p1)) (ti_r (e := p2))
        exact k _ _ _ (hI1)
      · have c11 := j_ne q9 (ti_r (e := p1)) (ti_r (e := p2))
        refine mChange (hI1) (by omega) ?_
        intro I3 J3 h3 g3a g3b
        have bh3 := h3.bnd
        exact k _ _ _ (h3)
theorem mArranges_26 {S : Nat × (Nat → Int32)} {d : Nat} {x : mX} {I0 : rI0} {J0 : rJ0} {Tl : Int32 × Option Int32} {R C : Int} {A : Int} {Q : Int32 → rI0 → rJ0 → Prop} {N16 : Nat} (k : ∀ r I J, (Mz_ I0 J0 Tl R C I J) → ((r.toInt = 0 ∨ r.toInt = 1) ∧ (I 43 63).toInt = A) → Q r I J) (K16 : ∀ (l1 : Int32) (l2 : Int32) (l3 : Int32) (I : rI0) (J : rJ0), (Mz_ I0 J0 Tl R C I J) → ((64 - l3.toInt).toNat < N16) → (l2.toInt ≤ 64) → (0 ≤ l3.toInt) → ((I 43 63).toInt = A) → wp S (d + 6) 236 16 [some (.ref 43), some (.int l1), some (.int l2), some (.int l3), none] [] (wv x I J) (rI x Q)) : ∀ (n : Nat) (l1 : Int32) (l2 : Int32) (l3 : Int32) (l4 : Int32) (I : rI0) (J : rJ0), (Neq (64 - l4.toInt).toNat n) → (Mz_ I0 J0 Tl R C I J) → (l2.toInt ≤ 64) → (0 ≤ l3.toInt) → (l3.toInt < 64) → (0 ≤ l4.toInt) → ((I 43 63).toInt = A) → (Nle (64 - l3.toInt).toNat N16) → wp S (d + 6) 236 26 [some (.ref 43), some (.int l1), some (.int l2), some (.int l3), some (.int l4)] [] (wv x I J) (rI x Q) := by
  refine lpn ?_
  intro n ih
  intro l1 l2 l3 l4 I J hm h e0 e1 e2 e3 e4 a0
  have bh := h.bnd
  refine v236_43_26 ?_
  refine ⟨fun q1 => ?_, fun q1 => ?_⟩
  · have c2 := j_lt q1 (ti_r (e := l4)) (ti_r (e := l2))
    refine mUnlike (h) ?_
    intro r1 g1a
    have t3 : TI (0 : Int32) (0) := show (0 : Int32).toInt = 0 by decide
    refine ⟨fun q4 => ?_, fun q4 => ?_⟩
    · have c5 := j_eq q4 (ti_r (e := r1)) t3
      have t6 : TI (1 : Int32) (1) := show (1 : Int32).toInt = 1 by decide
      have t7 : TI (l4 + (1 : Int32)) (l4.toInt + 1) := ti_add ti_r t6 (by omega)
      exact ih _ (mih hm (by (try simp only [t7.o, true_or, or_true, true_and, and_true]); first | done | omega) (by omega)) l1 l2 l3 (l4 + (1 : Int32)) I J rfl (h) (by (try simp only [t7.o, true_or, or_true, true_and, and_true]); first | done | omega) (by (try simp only [t7.o, true_or, or_true, true_and, and_true]); first | done | omega) (by (try simp only [t7.o, true_or, or_true, true_and, and_true]); first | done | omega) (by (try simp only [t7.o, true_or, or_true, true_and, and_true]); first | done | omega) (by (try simp only [t7.o, true_or, or_true, true_and, and_true]); first | done | omega) (mle a0 (by (try simp only [t7.o, true_or, or_true, true_and, and_true]); first | done | omega))
    · have c8 := j_ne q4 (ti_r (e := r1)) t3
      refine mChange (h) (by omega) ?_
      intro I2 J2 h2 g2a g2b
      have bh2 := h2.bnd
      have y2 := congrArg Int32.toInt (congrFun g2b 63)
      refine mHeight (h2) ?_
      intro r3 I3 J3 h3 g3a g3b g3c
      have bh3 := h3.bnd
      refine ⟨fun q9 => ?_, fun q9 => ?_⟩
      · have c10 := j_lt q9 (ti_r (e := l1)) (ti_r (e := r3))
        have t11 : TI (1 : Int32) (1) := show (1 : Int32).toInt = 1 by decide
        exact k _ _ _ (h3) (by (try simp only [t11.o, true_or, or_true, true_and, and_true]); first | done | omega)
      · have c12 := j_nlt q9 (ti_r (e := l1)) (ti_r (e := r3))
        have x1 : (I3 45 ((6 : Int32) + l3).toNatClampNeg).toInt = (I 45 ((6 : Int32) + l4).toNatClampNeg).toInt := by rw [g3b, g2a.1]
        have x2 : (I3 45 ((6 : Int32) + l4).toNatClampNeg).toInt = (I 45 ((6 : Int32) + l3).toNatClampNeg).toInt := by rw [g3b, g2a.2]
        refine mChange (h3) (by omega) ?_
        intro I4 J4 h4 g4a g4b
        have bh4 := h4.bnd
        have y4 := congrArg Int32.toInt (congrFun g4b 63)
        have t13 : TI (1 : Int32) (1) := show (1 : Int32).toInt = 1 by decide
        have t14 : TI (l4 + (1 : Int32)) (l4.toInt + 1) := ti_add ti_r t13 (by omega)
        exact ih _ (mih hm (by (try simp only [t14.o, true_or, or_true, true_and, and_true]); first | done | omega) (by omega)) l1 l2 l3 (l4 + (1 : Int32)) I4 J4 rfl (h4) (by (try simp only [t14.o, true_or, or_true, true_and, and_true]); first | done | omega) (by (try simp only [t14.o, true_or, or_true, true_and, and_true]); first | done | omega) (by (try simp only [t14.o, true_or, or_true, true_and, and_true]); first | done | omega) (by (try simp only [t14.o, true_or, or_true, true_and, and_true]); first | done | omega) (by (try simp only [t14.o, true_or, or_true, true_and, and_true]); first | done | omega) (mle a0 (by (try simp only [t14.o, true_or, or_true, true_and, and_true]); first | done | omega))
  · have c15 := j_nlt q1 (ti_r (e := l4)) (ti_r (e := l2))
    have t16 : TI (1 : Int32) (1) := show (1 : Int32).toInt = 1 by decide
    have t17 : TI (l3 + (1 : Int32)) (l3.toInt + 1) := ti_add ti_r t16 (by omega)
    exact K16 l1 l2 (l3 + (1 : Int32)) I J (h) (mlt a0 (by (try simp only [t17.o, true_or, or_true, true_and, and_true]); first | done | omega) (by omega)) (by (try simp only [t17.o, true_or, or_true, true_and, and_true]); first | done | omega) (by (try simp only [t17.o, true_or, or_true, true_and, and_true]); first | done | omega) (by (try simp only [t17.o, true_or, or_true, true_and, and_true]); first | done | omega)
theorem mArranges_16 {S : Nat × (Nat → Int32)} {d : Nat} {x : mX} {I0 : rI0} {J0 : rJ0} {Tl : Int32 × Option Int32} {R C : Int} {A : Int} {Q : Int32 → rI0 → rJ0 → Prop} (k : ∀ r I J, (Mz_ I0 J0 Tl R C I J) → ((r.toInt = 0 ∨ r.toInt = 1) ∧ (I 43 63).toInt = A) → Q r I J) : ∀ (n : Nat) (l1 : Int32) (l2 : Int32) (l3 : Int32) (I : rI0) (J : rJ0), (Neq (64 - l3.toInt).toNat n) → (Mz_ I0 J0 Tl R C I J) → (l2.toInt ≤ 64) → (0 ≤ l3.toInt) → ((I 43 63).toInt = A) → wp S (d + 6) 236 16 [some (.ref 43), some (.int l1), some (.int l2), some (.int l3), none] [] (wv x I J) (rI x Q) := by
  refine lpn ?_
  intro n ih
  intro l1 l2 l3 I J hm h e0 e1 e2
  have bh := h.bnd
  refine v236_43_16 ?_
  refine ⟨fun q1 => ?_, fun q1 => ?_⟩
  · have c2 := j_lt q1 (ti_r (e := l3)) (ti_r (e := l2))
    have t3 : TI (1 : Int32) (1) := show (1 : Int32).toInt = 1 by decide
    have t4 : TI (l3 + (1 : Int32)) (l3.toInt + 1) := ti_add ti_r t3 (by omega)
    exact mArranges_26 k (fun l1_ l2_ l3_ I_ J_ h_ hlt f0_ f1_ f2_ => ih _ hlt l1_ l2_ l3_ I_ J_ rfl h_ f0_ f1_ f2_) _ l1 l2 l3 (l3 + (1 : Int32)) I J rfl (h) (by (try simp only [t4.o, true_or, or_true, true_and, and_true]); first | done | omega) (by (try simp only [t4.o, true_or, or_true, true_and, and_true]); first | done | omega) (by (try simp only [t4.o, true_or, or_true, true_and, and_true]); first | done | omega) (by (try simp only [t4.o, true_or, or_true, true_and, and_true]); first | done | omega) (by (try simp only [t4.o, true_or, or_true, true_and, and_true]); first | done | omega) (mleq hm (by (try simp only [t4.o, true_or, or_true, true_and, and_true]); first | done | omega))
  · have c5 := j_nlt q1 (ti_r (e := l3)) (ti_r (e := l2))
    have t6 : TI (0 : Int32) (0) := show (0 : Int32).toInt = 0 by decide
    exact k _ _ _ (h) (by (try simp only [t6.o, true_or, or_true, true_and, and_true]); first | done | omega)
theorem mArranges {S : Nat × (Nat → Int32)} {d : Nat} {x : mX} {I0 : rI0} {J0 : rJ0} {Tl : Int32 × Option Int32} {R C : Int} {A : Int} {I : rI0} {J : rJ0} {p1 : Int32} {Q : Int32 → rI0 → rJ0 → Prop} (h : Mz_ I0 J0 Tl R C I J) (hg : (I 43 63).toInt = A) (k : ∀ r I J, (Mz_ I0 J0 Tl R C I J) → ((r.toInt = 0 ∨ r.toInt = 1) ∧ (I 43 63).toInt = A) → Q r I J) : wcI S (d + 6) 236 [.ref 43, .int p1] x I J Q := by
  have bh := h.bnd
  refine c236_43 ?_
  have t1 : TI (0 : Int32) (0) := show (0 : Int32).toInt = 0 by decide
  refine ⟨?_, ?_⟩
  · exact jj_in (e := (0 : Int32)) (A := 0) t1 (by omega)
  have t2 : TI (I 45 ((0 : Int32).toNatClampNeg)) (I 45 0).toInt := ti_r (e := I 45 0)
  have t3 : TI (1 : Int32) (1) := show (1 : Int32).toInt = 1 by decide
  refine ⟨?_, ?_⟩
  · exact jj_in (e := (1 : Int32)) (A := 1) t3 (by omega)
  have t4 : TI (I 45 ((1 : Int32).toNatClampNeg)) (I 45 1).toInt := ti_r (e := I 45 1)
  have ut5 : 0 ≤ (I 45 0).toInt * (I 45 1).toInt ∧ (I 45 0).toInt * (I 45 1).toInt ≤ 64 := i_mb (by omega) (by omega)
  have vt5 := i_mp (A := (I 45 0).toInt) (B := (I 45 1).toInt) (by omega) (by omega)
  have t5 : TI ((I 45 ((0 : Int32).toNatClampNeg)) * (I 45 ((1 : Int32).toNatClampNeg))) ((I 45 0).toInt * (I 45 1).toInt) := ti_mul t2 t4 (by omega)
  exact mArranges_16 k _ p1 ((I 45 ((0 : Int32).toNatClampNeg)) * (I 45 ((1 : Int32).toNatClampNeg))) ((0 : Int32)) I J rfl (h) (by (try simp only [t5.o, t1.o, true_or, or_true, true_and, and_true]); first | done | omega) (by (try simp only [t5.o, t1.o, true_or, or_true, true_and, and_true]); first | done | omega) (by (try simp only [t5.o, t1.o, true_or, or_true, true_and, and_true]); first | done | omega)
theorem mArrange_36 {S : Nat × (Nat → Int32)} {d : Nat} {x : mX} {I0 : rI0} {J0 : rJ0} {Tl : Int32 × Option Int32} {R C : Int} {Q : Int32 → rI0 → rJ0 → Prop} (k : ∀ r I J, (Mz_ I0 J0 Tl R C I J) → Q r I J) : ∀ (n : Nat) (l1 : Int32) (I : rI0) (J : rJ0), (Neq (20 - (I 43 63).toInt).toNat n) → (Mz_ I0 J0 Tl R C I J) → (0 ≤ (I 43 63).toInt) → ((I 43 63).toInt ≤ 20) → wp S (d + 7) 237 36 [some (.ref 43), some (.int l1)] [] (wv x I J) (rI x Q) := by
  refine lpn ?_
  intro n ih
  intro l1 I J hm h e0 e1
  have bh := h.bnd
  refine v237_43_36 ?_
  have t1 : TI (20 : Int32) (20) := show (20 : Int32).toInt = 20 by decide
  refine ⟨fun q2 => ?_, fun q2 => ?_⟩
  · have c3 := j_lt q2 (ti_r (e := (I 43 63))) t1
    refine mArranges (h) rfl ?_
    intro r1 I1 J1 h1 g1a
    have bh1 := h1.bnd
    have t4 : TI (0 : Int32) (0) := show (0 : Int32).toInt = 0 by decide
    refine ⟨fun q5 => ?_, fun q5 => ?_⟩
    · have c6 := j_eq q5 (ti_r (e := r1)) t4
      exact k _ _ _ (h1)
    · have c7 := j_ne q5 (ti_r (e := r1)) t4
      have t8 : TI (1 : Int32) (1) := show (1 : Int32).toInt = 1 by decide
      have t9 : TI ((I1 43 63) + (1 : Int32)) ((I1 43 63).toInt + 1) := ti_add ti_r t8 (by omega)
      have z10 : TI ((mSet I1 43 63 ((I1 43 63) + (1 : Int32))) 43 63) ((I1 43 63).toInt + 1) := (t9 : TI ((I1 43 63) + (1 : Int32)) ((I1 43 63).toInt + 1))
      exact ih _ (mih hm (by (try simp only [z10.o, true_or, or_true, true_and, and_true]); first | done | omega) (by omega)) (I1 43 44) (mSet I1 43 63 ((I1 43 63) + (1 : Int32))) J1 rfl (Mz_.si (n := 43) (k := 63) (h1) (by decide)) (by (try simp only [z10.o, true_or, or_true, true_and, and_true]); first | done | omega) (by (try simp only [z10.o, true_or, or_true, true_and, and_true]); first | done | omega)
  · have c11 := j_nlt q2 (ti_r (e := (I 43 63))) t1
    exact k _ _ _ (h)
theorem mArrange {S : Nat × (Nat → Int32)} {d : Nat} {x : mX} {I0 : rI0} {J0 : rJ0} {Tl : Int32 × Option Int32} {R C : Int} {I : rI0} {J : rJ0} {Q : Int32 → rI0 → rJ0 → Prop} (h : Mz_ I0 J0 Tl R C I J) (k : ∀ r I J, (Mz_ I0 J0 Tl R C I J) → Q r I J) : wcI S (d + 7) 237 [.ref 43] x I J Q := by
  have bh := h.bnd
  refine c237_43 ?_
  have t1 : TI (2 : Int32) (2) := show (2 : Int32).toInt = 2 by decide
  refine ⟨?_, ?_⟩
  · exact jj_in (e := (2 : Int32)) (A := 2) t1 (by omega)
  have t2 : TI (I 45 ((2 : Int32).toNatClampNeg)) (I 45 2).toInt := ti_r (e := I 45 2)
  have t3 : TI (24 : Int32) (24) := show (24 : Int32).toInt = 24 by decide
  refine ⟨fun q4 => ?_, fun q4 => ?_⟩
  · have c5 := j_lt q4 t3 t2
    exact k _ _ _ (Mz_.si (n := 43) (k := 0) (h) (by decide))
  · have c6 := j_nlt q4 t3 t2
    obtain ⟨I7, eI7⟩ : ∃ z, z = (mSet (mSet I 43 0 (0 : Int32)) 43 63 (0 : Int32)) := ⟨_, rfl⟩
    rw [← eI7]
    have hI7 : Mz_ I0 J0 Tl R C I7 J := by rw [eI7]; exact (Mz_.si (n := 43) (k := 63) (Mz_.si (n := 43) (k := 0) (h) (by decide)) (by decide))
    have zI7_47 : (I7 43 47).toInt = (I 43 47).toInt := by rw [eI7]; exact (ti_r : TI (I 43 47) (I 43 47).toInt)
    have zI7_42 : (I7 43 42).toInt = (I 43 42).toInt := by rw [eI7]; exact (ti_r : TI (I 43 42) (I 43 42).toInt)
    have t8 : TI (0 : Int32) (0) := show (0 : Int32).toInt = 0 by decide
    have zI7_63 : (I7 43 63).toInt = 0 := by rw [eI7]; exact (t8 : TI (0 : Int32) 0)
    have zI7_3 : (I7 43 3).toInt = (I 43 3).toInt := by rw [eI7]; exact (ti_r : TI (I 43 3) (I 43 3).toInt)
    have yI7 : I7 45 = I 45 := by rw [eI7]; rfl
    have bhI7 := hI7.bnd
    refine mHeight (hI7) ?_
    intro r1 I1 J1 h1 g1a g1b g1c
    have bh1 := h1.bnd
    exact mArrange_36 k _ r1 I1 J1 rfl (h1) (by omega) (by omega)
theorem mStarts {S : Nat × (Nat → Int32)} {d : Nat} {x : mX} {I0 : rI0} {J0 : rJ0} {Tl : Int32 × Option Int32} {R C : Int} {I : rI0} {J : rJ0} {p1 : Int32} {Q : Int32 → rI0 → rJ0 → Prop} (h : Mz_ I0 J0 Tl R C I J) (k : ∀ r I J, (Mz_ I0 J0 Tl R C I J) → Q r I J) : wcI S (d + 6) 239 [.ref 43, .int p1] x I J Q := by
  have bh := h.bnd
  refine c239_43 ?_
  obtain ⟨I1, eI1⟩ : ∃ z, z = (mSet I 43 0 (0 : Int32)) := ⟨_, rfl⟩
  rw [← eI1]
  have hI1 : Mz_ I0 J0 Tl R C I1 J := by rw [eI1]; exact (Mz_.si (n := 43) (k := 0) (h) (by decide))
  have zI1_47 : (I1 43 47).toInt = (I 43 47).toInt := by rw [eI1]; exact (ti_r : TI (I 43 47) (I 43 47).toInt)
  have zI1_42 : (I1 43 42).toInt = (I 43 42).toInt := by rw [eI1]; exact (ti_r : TI (I 43 42) (I 43 42).toInt)
  have zI1_63 : (I1 43 63).toInt = (I 43 63).toInt := by rw [eI1]; exact (ti_r : TI (I 43 63) (I 43 63).toInt)
  have zI1_3 : (I1 43 3).toInt = (I 43 3).toInt := by rw [eI1]; exact (ti_r : TI (I 43 3) (I 43 3).toInt)
  have yI1 : I1 45 = I 45 := by rw [eI1]; rfl
  have bhI1 := hI1.bnd
  refine mSeat (hI1) ?_
  intro r1 g1a
  have t2 : TI (0 : Int32) (0) := show (0 : Int32).toInt = 0 by decide
  refine ⟨fun q3 => ?_, fun q3 => ?_⟩
  · have c4 := j_eq q3 (ti_r (e := r1)) t2
    exact k _ _ _ (hI1)
  · have c5 := j_ne q3 (ti_r (e := r1)) t2
    refine mHeight (hI1) ?_
    intro r2 I2 J2 h2 g2a g2b g2c
    have bh2 := h2.bnd
    exact k _ _ _ (h2)
theorem mLeader_23 {S : Nat × (Nat → Int32)} {d : Nat} {x : mX} {I0 : rI0} {J0 : rJ0} {Tl : Int32 × Option Int32} {R C : Int} {Q : Int32 → rI0 → rJ0 → Prop} (k : ∀ r I J, (Mz_ I0 J0 Tl R C I J) → Q r I J) : ∀ (n : Nat) (l1 : Int32) (l2 : Int32) (l3 : Int32) (l4 : Int32) (I : rI0) (J : rJ0), (Neq (64 - l4.toInt).toNat n) → (Mz_ I0 J0 Tl R C I J) → (0 ≤ l4.toInt) → (l4.toInt ≤ 64) → (-1 ≤ l2.toInt) → (l2.toInt < 64) → wp S (d + 6) 240 23 [some (.ref 43), some (.int l1), some (.int l2), some (.int l3), some (.int l4), none] [] (wv x I J) (rI x Q) := by
  refine lpn ?_
  intro n ih
  intro l1 l2 l3 l4 I J hm h e0 e1 e2 e3
  have bh := h.bnd
  refine v240_43_23 ?_
  have t1 : TI (0 : Int32) (0) := show (0 : Int32).toInt = 0 by decide
  refine ⟨?_, ?_⟩
  · exact jj_in (e := (0 : Int32)) (A := 0) t1 (by omega)
  have t2 : TI (I 45 ((0 : Int32).toNatClampNeg)) (I 45 0).toInt := ti_r (e := I 45 0)
  have t3 : TI (1 : Int32) (1) := show (1 : Int32).toInt = 1 by decide
  refine ⟨?_, ?_⟩
  · exact jj_in (e := (1 : Int32)) (A := 1) t3 (by omega)
  have t4 : TI (I 45 ((1 : Int32).toNatClampNeg)) (I 45 1).toInt := ti_r (e := I 45 1)
  have ut5 : 0 ≤ (I 45 0).toInt * (I 45 1).toInt ∧ (I 45 0).toInt * (I 45 1).toInt ≤ 64 := i_mb (by omega) (by omega)
  have vt5 := i_mp (A := (I 45 0).toInt) (B := (I 45 1).toInt) (by omega) (by omega)
  have t5 : TI ((I 45 ((0 : Int32).toNatClampNeg)) * (I 45 ((1 : Int32).toNatClampNeg))) ((I 45 0).toInt * (I 45 1).toInt) := ti_mul t2 t4 (by omega)
  refine ⟨fun q6 => ?_, fun q6 => ?_⟩
  · have c7 := j_lt q6 (ti_r (e := l4)) t5
    refine mSeat (h) ?_
    intro r1 g1a
    refine ⟨fun q8 => ?_, fun q8 => ?_⟩
    · have c9 := j_eq q8 (ti_r (e := r1)) t1
      have t10 : TI (l4 + (1 : Int32)) (l4.toInt + 1) := ti_add ti_r t3 (by omega)
      exact ih _ (mih hm (by (try simp only [t10.o, true_or, or_true, true_and, and_true]); first | done | omega) (by omega)) l1 l2 l3 (l4 + (1 : Int32)) I J rfl (h) (by (try simp only [t10.o, true_or, or_true, true_and, and_true]); first | done | omega) (by (try simp only [t10.o, true_or, or_true, true_and, and_true]); first | done | omega) (by (try simp only [t10.o, true_or, or_true, true_and, and_true]); first | done | omega) (by (try simp only [t10.o, true_or, or_true, true_and, and_true]); first | done | omega)
    · have c11 := j_ne q8 (ti_r (e := r1)) t1
      refine mHeight (h) ?_
      intro r2 I2 J2 h2 g2a g2b g2c
      have bh2 := h2.bnd
      refine ⟨fun q12 => ?_, fun q12 => ?_⟩
      · have c13 := j_lt q12 (ti_r (e := r2)) (ti_r (e := l3))
        have t14 : TI (l4 + (1 : Int32)) (l4.toInt + 1) := ti_add ti_r t3 (by omega)
        exact ih _ (mih hm (by (try simp only [t14.o, true_or, or_true, true_and, and_true]); first | done | omega) (by omega)) l1 l2 l3 (l4 + (1 : Int32)) I2 J2 rfl (h2) (by (try simp only [t14.o, true_or, or_true, true_and, and_true]); first | done | omega) (by (try simp only [t14.o, true_or, or_true, true_and, and_true]); first | done | omega) (by (try simp only [t14.o, true_or, or_true, true_and, and_true]); first | done | omega) (by (try simp only [t14.o, true_or, or_true, true_and, and_true]); first | done | omega)
      · have c15 := j_nlt q12 (ti_r (e := r2)) (ti_r (e := l3))
        refine ⟨fun q16 => ?_, fun q16 => ?_⟩
        · have c17 := j_eq q16 (ti_r (e := r2)) (ti_r (e := l3))
          refine mPrice (h2) (by omega) ?_
          intro r3
          refine mPrice (h2) (by omega) ?_
          intro r4
          refine ⟨fun q18 => ?_, fun q18 => ?_⟩
          · have c19 := j_lt q18 (ti_r (e := r3)) (ti_r (e := r4))
            have t20 : TI (l4 + (1 : Int32)) (l4.toInt + 1) := ti_add ti_r t3 (by omega)
            exact ih _ (mih hm (by (try simp only [t20.o, true_or, or_true, true_and, and_true]); first | done | omega) (by omega)) l1 l4 r2 (l4 + (1 : Int32)) I2 J2 rfl (h2) (by (try simp only [t20.o, true_or, or_true, true_and, and_true]); first | done | omega) (by (try simp only [t20.o, true_or, or_true, true_and, and_true]); first | done | omega) (by (try simp only [t20.o, true_or, or_true, true_and, and_true]); first | done | omega) (by (try simp only [t20.o, true_or, or_true, true_and, and_true]); first | done | omega)
          · have c21 := j_nlt q18 (ti_r (e := r3)) (ti_r (e := r4))
            have t22 : TI (l4 + (1 : Int32)) (l4.toInt + 1) := ti_add ti_r t3 (by omega)
            exact ih _ (mih hm (by (try simp only [t22.o, true_or, or_true, true_and, and_true]); first | done | omega) (by omega)) l1 l2 l3 (l4 + (1 : Int32)) I2 J2 rfl (h2) (by (try simp only [t22.o, true_or, or_true, true_and, and_true]); first | done | omega) (by (try simp only [t22.o, true_or, or_true, true_and, and_true]); first | done | omega) (by (try simp only [t22.o, true_or, or_true, true_and, and_true]); first | done | omega) (by (try simp only [t22.o, true_or, or_true, true_and, and_true]); first | done | omega)
        · have c23 := j_ne q16 (ti_r (e := r2)) (ti_r (e := l3))
          have t24 : TI (l4 + (1 : Int32)) (l4.toInt + 1) := ti_add ti_r t3 (by omega)
          exact ih _ (mih hm (by (try simp only [t24.o, true_or, or_true, true_and, and_true]); first | done | omega) (by omega)) l1 l4 r2 (l4 + (1 : Int32)) I2 J2 rfl (h2) (by (try simp only [t24.o, true_or, or_true, true_and, and_true]); first | done | omega) (by (try simp only [t24.o, true_or, or_true, true_and, and_true]); first | done | omega) (by (try simp only [t24.o, true_or, or_true, true_and, and_true]); first | done | omega) (by (try simp only [t24.o, true_or, or_true, true_and, and_true]); first | done | omega)
  · have c25 := j_nlt q6 (ti_r (e := l4)) t5
    refine ⟨fun q26 => ?_, fun q26 => ?_⟩
    · have c27 := j_eq q26 (ti_r (e := l1)) t1
      exact k _ _ _ (h)
    · have c28 := j_ne q26 (ti_r (e := l1)) t1
      exact k _ _ _ (h)
theorem mLeader {S : Nat × (Nat → Int32)} {d : Nat} {x : mX} {I0 : rI0} {J0 : rJ0} {Tl : Int32 × Option Int32} {R C : Int} {I : rI0} {J : rJ0} {p1 : Int32} {Q : Int32 → rI0 → rJ0 → Prop} (h : Mz_ I0 J0 Tl R C I J) (k : ∀ r I J, (Mz_ I0 J0 Tl R C I J) → Q r I J) : wcI S (d + 6) 240 [.ref 43, .int p1] x I J Q := by
  have bh := h.bnd
  refine c240_43 ?_
  have t1 : TI (0 : Int32) (0) := show (0 : Int32).toInt = 0 by decide
  have t2 : TI (1 : Int32) (1) := show (1 : Int32).toInt = 1 by decide
  refine mIn  ?_
  intro r1 g1a
  try simp only [t1.o, t2.o] at g1a
  refine ⟨fun q3 => ?_, fun q3 => ?_⟩
  · have c4 := j_eq q3 (ti_r (e := r1)) t1
    exact k _ _ _ (Mz_.si (n := 43) (k := 0) (h) (by decide))
  · have c5 := j_ne q3 (ti_r (e := r1)) t1
    have t6 : TI (-1 : Int32) (-1) := show (-1 : Int32).toInt = -1 by decide
    exact mLeader_23 k _ p1 ((-1 : Int32)) ((-1 : Int32)) ((0 : Int32)) (mSet I 43 0 (0 : Int32)) J rfl (Mz_.si (n := 43) (k := 0) (h) (by decide)) (by (try simp only [t6.o, t1.o, true_or, or_true, true_and, and_true]); first | done | omega) (by (try simp only [t6.o, t1.o, true_or, or_true, true_and, and_true]); first | done | omega) (by (try simp only [t6.o, t1.o, true_or, or_true, true_and, and_true]); first | done | omega) (by (try simp only [t6.o, t1.o, true_or, or_true, true_and, and_true]); first | done | omega)
end MT1
section MT2
variable {S : Nat × (Nat → Int32)} {d : Nat} {x : mX} {I I0 : rI0} {J J0 : rJ0} {Tl : Int32} {F : Option Int32} {R C : Int}
theorem i_of (v : Int32) (h : 0 ≤ v.toInt ∧ v.toInt ≤ 940) : ∃ n, n ≤ 940 ∧ v = nI n := ⟨v.toInt.toNat, by omega, Int32.toInt_inj.mp (by rw [nI_toInt (by omega)]; omega)⟩
theorem Mz_.s44 {k : Nat} {v : Int32} (h : Mz_ I0 J0 (Tl, F) R C I J) : Mz_ (mSet I0 44 k v) J0 (Tl, F) R C (mSet I 44 k v) J := by
  obtain ⟨h1, e0, e1, u, w⟩ := h
  have m : MN (mSet I 44 k v) := by
    have m := h1.1
    unfold MN TKm at *
    rw [mSet_ne (by decide)]
    exact m
  refine ⟨h1.up m (mSet_ne (by decide)) (mSet_ne (by decide)) (mSet_ne (by decide)) (mSet_ne (by decide)) (mSet_ne (by decide)) (mSet_ne (by decide)) (by rw [mSet_ne (by decide)]) rfl, by rw [mSet_ne (by decide)]; exact e0, by rw [mSet_ne (by decide)]; exact e1, ⟨⟨fun b hb => ?_, by rw [mSet_ne (by decide)]; exact u.1.2⟩, by rw [mSet_ne (by decide), mSet_ne (by decide)]; exact u.2.1, by rw [mSet_ne (by decide)]; exact u.2.2⟩, w⟩
  by_cases z : b = 44
  · subst z
    unfold mSet va_up
    rw [if_pos rfl, if_pos rfl, u.1.1 44 (by omega)]
  · rw [mSet_ne z, mSet_ne z]
    exact u.1.1 b hb
def b8 (v s : Int32) : Int32 := vp_nar .byte ((v >>> (s &&& 31)).toInt8.toInt32)
def m4 (I0 : rI0) (n : Nat) (p : Int32) : rI0 := mSet (mSet (mSet (mSet I0 44 n (b8 p 24)) 44 (n + 1) (b8 p 16)) 44 (n + 2) (b8 p 8)) 44 (n + 3) (b8 p 0)
theorem mF1 {l1 l2 : Int32} {n : Nat} {Q : rI0 → rJ0 → Prop} (hl : ¬ l2 < 0) (hn : n < 940) (h : Mz_ I0 J0 ((nI n), F) R C I J) (k : ∀ I', Mz_ (mSet I0 44 n (b8 l1 l2)) J0 ((nI (n + 1)), F) R C I' J → wp S d 148 3 [some (.ref 43), some (.int l1), some (.int (l2 + -8))] [] (wv x I' J) (rV x Q)) : wp S d 148 3 [some (.ref 43), some (.int l1), some (.int l2)] [] (wv x I J) (rV x Q) := by
  have e : I 43 2 = nI n := h.2.2.2.1.1.2
  refine v148_43_3 ⟨fun q => absurd q hl, fun _ => ⟨by rw [e]; exact nI_in hn (by omega), k _ ?_⟩⟩
  have c : (I 43 2).toNatClampNeg = n := by rw [e, nI_clamp (by omega)]
  rw [nI_succ, ← e, c]
  exact (h.s44 (k := n) (v := b8 l1 l2)).s2 (by rw [e, ← nI_succ, nI_toInt (by omega)]; omega)
theorem mFour {p1 : Int32} {n : Nat} {Q : rI0 → rJ0 → Prop} (hn : n + 4 ≤ 940) (h : Mz_ I0 J0 ((nI n), F) R C I J) (k : ∀ I', Mz_ (m4 I0 n p1) J0 ((nI (n + 4)), F) R C I' J → Q I' J) : wcV S d 148 [.ref 43, .int p1] x I J Q :=
  c148_43 (mF1 (by decide) (by omega) h (fun I1 h1 => mF1 (by decide) (by omega) h1 (fun I2 h2 => mF1 (by decide) (by omega) h2 (fun I3 h3 => mF1 (by decide) (by omega) h3 (fun I4 h4 => v148_43_3 ⟨fun _ => k _ h4, fun q => absurd (by decide) q⟩)))))
theorem mFeed {p1 p2 p3 p4 p5 : Int32} {n : Nat} {Q : Int32 → rI0 → rJ0 → Prop} (en : Tl = nI n) (hn : n ≤ 940) (h : Mz_ I0 J0 (Tl, F) R C I J) (k0 : (940 : Int32) < Tl + 20 → ∀ I' J', Mz_ I0 J0 (Tl, F) R C I' J' → Q (-1) I' J') (k1 : ¬ (940 : Int32) < Tl + 20 → ∀ I' J', Mz_ (m4 (m4 (m4 (m4 (m4 I0 n p1) (n + 4) p2) (n + 8) p3) (n + 12) p4) (n + 16) p5) J0 ((Tl + 20), F) R C I' J' → Q (Tl + 20) I' J') : wcI S (d + 1) 147 [.ref 43, .int p1, .int p2, .int p3, .int p4, .int p5] x I J Q := by
  have h0 : Mz_ I0 J0 (Tl, F) R C (mSet I 43 0 0) J := h.si (by decide)
  have e : I 43 2 = Tl := h.2.2.2.1.1.2
  subst en
  refine c147_43 ⟨fun q => k0 (by rw [← e]; exact q) _ _ h0, fun q => ?_⟩
  rw [e] at q
  have q1 := i_nlt q
  have l : (nI n + (20 : Int32)).toInt = ((n + 20 : Nat) : Int) := by
    show (nI n + nI 20).toInt = _
    rw [nI_add, nI_toInt (by omega)]
  have l9 : (940 : Int32).toInt = 940 := by decide
  rw [l, l9] at q1
  refine mFour (n := n) (by omega) h0 (fun I1 h1 => mFour (by omega) h1 (fun I2 h2 => mFour (by omega) h2 (fun I3 h3 => mFour (by omega) h3 (fun I4 h4 => mFour (by omega) h4 (fun I5 h5 => ?_)))))
  have e5 : nI (n + 4 + 4 + 4 + 4 + 4) = nI n + 20 := (nI_add n 20).symm
  rw [e5] at h5
  have r5 : I5 43 2 = nI n + 20 := h5.2.2.2.1.1.2
  rw [r5]
  exact k1 q _ _ h5
theorem mEnd {p : Int32} {Q : Int32 → rI0 → rJ0 → Prop} (h : Mz_ I0 J0 (Tl, F) R C I J) (k0 : p < 0 ∨ Tl < p → ∀ I' J', Mz_ I0 J0 (Tl, F) R C I' J' → Q 0 I' J') (k1 : ¬ p < 0 → ¬ Tl < p → ∀ I' J', Mz_ I0 J0 (p, F) R C I' J' → Q 1 I' J') : wcI S d 149 [.ref 43, .int p] x I J Q := by
  have h0 : Mz_ I0 J0 (Tl, F) R C (mSet I 43 0 0) J := h.si (by decide)
  have e : I 43 2 = Tl := h.2.2.2.1.1.2
  have b := h.1.1.1
  have l0 : (0 : Int32).toInt = 0 := by decide
  refine c149_43 ⟨fun q => k0 (Or.inl q) _ _ h0, fun q0 => ⟨fun q => k0 (Or.inr (by rw [← e]; exact q)) _ _ h0, fun q1 => k1 q0 (by rw [← e]; exact q1) _ _ (h0.s2 ?_)⟩⟩
  have q0 := i_nlt q0
  have q1 := i_nlt q1
  omega
end MT2
