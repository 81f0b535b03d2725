section MS1
theorem mIn {S : Nat × (Nat → Int32)} {d : Nat} {x : mX} {I : rI0} {J : rJ0} {p0 : Int32} {p1 : Int32} {p2 : Int32} {Q : Int32 → rI0 → rJ0 → Prop} (k : ∀ r, (r.toInt = 0 ∨ (r.toInt = 1 ∧ p1.toInt ≤ p0.toInt ∧ p0.toInt ≤ p2.toInt)) → Q r I J) : wcI S (d + 0) 151 [.int p0, .int p1, .int p2] x I J Q := by
  refine c151 ?_
  refine ⟨fun q1 => ?_, fun q1 => ?_⟩
  · have c2 := j_lt q1 (ti_r (e := p0)) (ti_r (e := p1))
    have t3 : TI (0 : Int32) (0) := show (0 : Int32).toInt = 0 by decide
    exact k _ (by (try simp only [t3.o, true_or, or_true, true_and, and_true]); first | done | omega)
  · have c4 := j_nlt q1 (ti_r (e := p0)) (ti_r (e := p1))
    refine ⟨fun q5 => ?_, fun q5 => ?_⟩
    · have c6 := j_lt q5 (ti_r (e := p2)) (ti_r (e := p0))
      have t7 : TI (0 : Int32) (0) := show (0 : Int32).toInt = 0 by decide
      exact k _ (by (try simp only [t7.o, true_or, or_true, true_and, and_true]); first | done | omega)
    · have c8 := j_nlt q5 (ti_r (e := p2)) (ti_r (e := p0))
      have t9 : TI (1 : Int32) (1) := show (1 : Int32).toInt = 1 by decide
      exact k _ (by (try simp only [t9.o, true_or, or_true, true_and, and_true]); first | done | omega)
theorem mHas {S : Nat × (Nat → Int32)} {d : Nat} {x : mX} {I : rI0} {J : rJ0} {p0 : Int32} {p1 : Int32} {Q : Int32 → rI0 → rJ0 → Prop} (k : ∀ r, (r.toInt = 0 ∨ r.toInt = 1) → Q r I J) : wcI S (d + 0) 152 [.int p0, .int p1] x I J Q := by
  refine c152 ?_
  obtain ⟨g2, t1, bt1⟩ := ti_and (p0 >>> (p1 &&& 31)) (m := (1 : Int32)) 1 (by decide)
  have t3 : TI (1 : Int32) (1) := show (1 : Int32).toInt = 1 by decide
  refine ⟨fun q4 => ?_, fun q4 => ?_⟩
  · have c5 := j_eq q4 t1 t3
    exact k _ (by (try simp only [t3.o, true_or, or_true, true_and, and_true]); first | done | omega)
  · have c6 := j_ne q4 t1 t3
    have t7 : TI (0 : Int32) (0) := show (0 : Int32).toInt = 0 by decide
    exact k _ (by (try simp only [t7.o, true_or, or_true, true_and, and_true]); first | done | omega)
theorem mHolds {S : Nat × (Nat → Int32)} {d : Nat} {x : mX} {I : rI0} {J : rJ0} {p0 : Int64} {p1 : Int32} {Q : Int32 → rI0 → rJ0 → Prop} (k : ∀ r, (r.toInt = 0 ∨ r.toInt = 1) → Q r I J) : wcI S (d + 0) 153 [.long p0, .int p1] x I J Q := by
  refine c153 ?_
  refine ⟨fun q1 => ?_, fun q1 => ?_⟩
  · have t2 : TI (1 : Int32) (1) := show (1 : Int32).toInt = 1 by decide
    exact k _ (by (try simp only [t2.o, true_or, or_true, true_and, and_true]); first | done | omega)
  · have t3 : TI (0 : Int32) (0) := show (0 : Int32).toInt = 0 by decide
    exact k _ (by (try simp only [t3.o, true_or, or_true, true_and, and_true]); first | done | omega)
theorem mOctet {S : Nat × (Nat → Int32)} {d : Nat} {x : mX} {I : rI0} {J : rJ0} {p1 : Int32} {Q : Int32 → rI0 → rJ0 → Prop} (hp : 0 ≤ p1.toInt ∧ p1.toInt < 940) (k : ∀ r, (0 ≤ r.toInt ∧ r.toInt ≤ 255) → Q r I J) : wcI S (d + 0) 155 [.ref 43, .int p1] x I J Q := by
  refine c155_43 ?_
  refine ⟨?_, ?_⟩
  · exact jj_in (e := (p1)) (A := p1.toInt) ti_r (by omega)
  obtain ⟨g2, t1, bt1⟩ := ti_and (I 44 p1.toNatClampNeg) (m := (255 : Int32)) 8 (by decide)
  exact k _ (by (try simp only [t1.o, true_or, or_true, true_and, and_true]); first | done | omega)
theorem mThr {S : Nat × (Nat → Int32)} {d : Nat} {x : mX} {I0 : rI0} {J0 : rJ0} {Tl : Int32 × Option Int32} {R C : Int} {I : rI0} {J : rJ0} {p1 : Int32} {Q : Int32 → rI0 → rJ0 → Prop} (h : Mz_ I0 J0 Tl R C I J) (hp : p1.toInt = 0 ∨ p1.toInt = 1) (k : ∀ r I J, (Mz_ I0 J0 Tl R C I J) → (r.toInt = p1.toInt) → Q r I J) : wcI S (d + 0) 146 [.ref 43, .int p1] x I J Q := by
  have bh := h.bnd
  refine c146_43 ?_
  have t1 : TI (0 : Int32) (0) := show (0 : Int32).toInt = 0 by decide
  refine ⟨fun q2 => ?_, fun q2 => ?_⟩
  · have c3 := j_eq q2 (ti_r (e := p1)) t1
    refine ⟨jj_b01 (v := (p1)) (A := p1.toInt) ti_r (by omega), ?_⟩
    exact k _ _ _ (Mz_.si (n := 43) (k := 0) (h) (by decide)) (by omega)
  · have c4 := j_ne q2 (ti_r (e := p1)) t1
    refine ⟨jj_b01 (v := (p1)) (A := p1.toInt) ti_r (by omega), ?_⟩
    exact k _ _ _ (Mz_.si (n := 43) (k := 0) (h) (by decide)) (by omega)
theorem mSeat {S : Nat × (Nat → Int32)} {d : Nat} {x : mX} {I0 : rI0} {J0 : rJ0} {Tl : Int32 × Option Int32} {R C : Int} {I : rI0} {J : rJ0} {p1 : Int32} {Q : Int32 → rI0 → rJ0 → Prop} (h : Mz_ I0 J0 Tl R C I J) (k : ∀ r, (r.toInt = 0 ∨ (r.toInt = 1 ∧ 0 ≤ p1.toInt ∧ p1.toInt < 64 ∧ 1 ≤ (I 45 ((6 : Int32) + p1).toNatClampNeg).toInt ∧ 1 ≤ C)) → Q r I J) : wcI S (d + 1) 183 [.ref 43, .int p1] x I J Q := by
  have bh := h.bnd
  refine c183_43 ?_
  have t1 : TI (0 : Int32) (0) := show (0 : Int32).toInt = 0 by decide
  refine ⟨?_, ?_⟩
  · exact jj_in (e := (0 : Int32)) (A := 0) t1 (by omega)
  have t2 : TI (I 45 ((0 : Int32).toNatClampNeg)) (I 45 0).toInt := ti_r (e := I 45 0)
  have t3 : TI (1 : Int32) (1) := show (1 : Int32).toInt = 1 by decide
  refine ⟨?_, ?_⟩
  · exact jj_in (e := (1 : Int32)) (A := 1) t3 (by omega)
  have t4 : TI (I 45 ((1 : Int32).toNatClampNeg)) (I 45 1).toInt := ti_r (e := I 45 1)
  have ut5 : 0 ≤ (I 45 0).toInt * (I 45 1).toInt ∧ (I 45 0).toInt * (I 45 1).toInt ≤ 64 := i_mb (by omega) (by omega)
  have vt5 := i_mp (A := (I 45 0).toInt) (B := (I 45 1).toInt) (by omega) (by omega)
  have t5 : TI ((I 45 ((0 : Int32).toNatClampNeg)) * (I 45 ((1 : Int32).toNatClampNeg))) ((I 45 0).toInt * (I 45 1).toInt) := ti_mul t2 t4 (by omega)
  have t6 : TI (((I 45 ((0 : Int32).toNatClampNeg)) * (I 45 ((1 : Int32).toNatClampNeg))) - (1 : Int32)) (((I 45 0).toInt * (I 45 1).toInt) - 1) := ti_sub t5 t3 (by omega)
  refine mIn  ?_
  intro r1 g1a
  try simp only [t1.o, t6.o] at g1a
  refine ⟨fun q7 => ?_, fun q7 => ?_⟩
  · have c8 := j_eq q7 (ti_r (e := r1)) t1
    exact k _ (by (try simp only [t1.o, true_or, or_true, true_and, and_true]); first | done | omega)
  · have c9 := j_ne q7 (ti_r (e := r1)) t1
    have t10 : TI (6 : Int32) (6) := show (6 : Int32).toInt = 6 by decide
    have t11 : TI ((6 : Int32) + p1) (6 + p1.toInt) := ti_add t10 ti_r (by omega)
    refine ⟨?_, ?_⟩
    · exact jj_in (e := ((6 : Int32) + p1)) (A := (6 + p1.toInt)) t11 (by omega)
    have w12 := Mz_.kt h (e := ((6 : Int32) + p1)) (A := (6 + p1.toInt)) t11 (by omega)
    refine ⟨fun q13 => ?_, fun q13 => ?_⟩
    · have c14 := j_lt q13 t1 (ti_r (e := (I 45 (((6 : Int32) + p1).toNatClampNeg))))
      exact k _ (by (try simp only [t3.o, true_or, or_true, true_and, and_true]); first | done | omega)
    · have c15 := j_nlt q13 t1 (ti_r (e := (I 45 (((6 : Int32) + p1).toNatClampNeg))))
      exact k _ (by (try simp only [t1.o, true_or, or_true, true_and, and_true]); first | done | omega)
theorem mSeatAt {S : Nat × (Nat → Int32)} {d : Nat} {x : mX} {I0 : rI0} {J0 : rJ0} {Tl : Int32 × Option Int32} {R C : Int} {I : rI0} {J : rJ0} {p1 : Int32} {p2 : Int32} {Q : Int32 → rI0 → rJ0 → Prop} (h : Mz_ I0 J0 Tl R C I J) (k : ∀ r, (r.toInt = 0 ∨ (r.toInt = 1 ∧ 0 ≤ p1.toInt ∧ p1.toInt ≤ 7 ∧ 0 ≤ p2.toInt ∧ p2.toInt ≤ 7)) → Q r I J) : wcI S (d + 1) 184 [.ref 43, .int p1, .int p2] x I J Q := by
  have bh := h.bnd
  refine c184_43 ?_
  have t1 : TI (0 : Int32) (0) := show (0 : Int32).toInt = 0 by decide
  refine ⟨?_, ?_⟩
  · exact jj_in (e := (0 : Int32)) (A := 0) t1 (by omega)
  have t2 : TI (I 45 ((0 : Int32).toNatClampNeg)) (I 45 0).toInt := ti_r (e := I 45 0)
  have t3 : TI (1 : Int32) (1) := show (1 : Int32).toInt = 1 by decide
  have t4 : TI ((I 45 ((0 : Int32).toNatClampNeg)) - (1 : Int32)) ((I 45 0).toInt - 1) := ti_sub t2 t3 (by omega)
  refine mIn  ?_
  intro r1 g1a
  try simp only [t1.o, t4.o] at g1a
  refine ⟨fun q5 => ?_, fun q5 => ?_⟩
  · have c6 := j_eq q5 (ti_r (e := r1)) t1
    exact k _ (by (try simp only [t1.o, true_or, or_true, true_and, and_true]); first | done | omega)
  · have c7 := j_ne q5 (ti_r (e := r1)) t1
    refine ⟨?_, ?_⟩
    · exact jj_in (e := (1 : Int32)) (A := 1) t3 (by omega)
    have t8 : TI (I 45 ((1 : Int32).toNatClampNeg)) (I 45 1).toInt := ti_r (e := I 45 1)
    have t9 : TI ((I 45 ((1 : Int32).toNatClampNeg)) - (1 : Int32)) ((I 45 1).toInt - 1) := ti_sub t8 t3 (by omega)
    refine mIn  ?_
    intro r2 g2a
    try simp only [t1.o, t9.o] at g2a
    refine ⟨fun q10 => ?_, fun q10 => ?_⟩
    · have c11 := j_eq q10 (ti_r (e := r2)) t1
      exact k _ (by (try simp only [t1.o, true_or, or_true, true_and, and_true]); first | done | omega)
    · have c12 := j_ne q10 (ti_r (e := r2)) t1
      refine ⟨?_, ?_⟩
      · exact jj_in (e := (1 : Int32)) (A := 1) t3 (by omega)
      have t13 : TI (6 : Int32) (6) := show (6 : Int32).toInt = 6 by decide
      have ut14 : 0 ≤ (I 45 1).toInt * p1.toInt ∧ (I 45 1).toInt * p1.toInt ≤ 64 := i_mb (by omega) (by omega)
      have vt14 := i_mp (A := (I 45 1).toInt) (B := p1.toInt) (by omega) (by omega)
      have t14 : TI ((I 45 ((1 : Int32).toNatClampNeg)) * p1) ((I 45 1).toInt * p1.toInt) := ti_mul t8 ti_r (by omega)
      have t15 : TI ((6 : Int32) + ((I 45 ((1 : Int32).toNatClampNeg)) * p1)) (6 + ((I 45 1).toInt * p1.toInt)) := ti_add t13 t14 (by omega)
      have t16 : TI (((6 : Int32) + ((I 45 ((1 : Int32).toNatClampNeg)) * p1)) + p2) ((6 + ((I 45 1).toInt * p1.toInt)) + p2.toInt) := ti_add t15 ti_r (by omega)
      refine ⟨?_, ?_⟩
      · exact jj_in (e := (((6 : Int32) + ((I 45 ((1 : Int32).toNatClampNeg)) * p1)) + p2)) (A := ((6 + ((I 45 1).toInt * p1.toInt)) + p2.toInt)) t16 (by omega)
      refine ⟨fun q17 => ?_, fun q17 => ?_⟩
      · have c18 := j_lt q17 t1 (ti_r (e := (I 45 ((((6 : Int32) + ((I 45 ((1 : Int32).toNatClampNeg)) * p1)) + p2).toNatClampNeg))))
        exact k _ (by (try simp only [t3.o, true_or, or_true, true_and, and_true]); first | done | omega)
      · have c19 := j_nlt q17 t1 (ti_r (e := (I 45 ((((6 : Int32) + ((I 45 ((1 : Int32).toNatClampNeg)) * p1)) + p2).toNatClampNeg))))
        exact k _ (by (try simp only [t1.o, true_or, or_true, true_and, and_true]); first | done | omega)
theorem mBitAt {S : Nat × (Nat → Int32)} {d : Nat} {x : mX} {I0 : rI0} {J0 : rJ0} {Tl : Int32 × Option Int32} {R C : Int} {I : rI0} {J : rJ0} {p1 : Int32} {p2 : Int32} {Q : Int64 → rI0 → rJ0 → Prop} (h : Mz_ I0 J0 Tl R C I J) (k : ∀ r, Q r I J) : wcJ S (d + 2) 185 [.ref 43, .int p1, .int p2] x I J Q := by
  have bh := h.bnd
  refine c185_43 ?_
  refine mSeatAt (h) ?_
  intro r1 g1a
  have t1 : TI (0 : Int32) (0) := show (0 : Int32).toInt = 0 by decide
  refine ⟨fun q2 => ?_, fun q2 => ?_⟩
  · have c3 := j_eq q2 (ti_r (e := r1)) t1
    exact k _
  · have c4 := j_ne q2 (ti_r (e := r1)) t1
    have t5 : TI (1 : Int32) (1) := show (1 : Int32).toInt = 1 by decide
    refine ⟨?_, ?_⟩
    · exact jj_in (e := (1 : Int32)) (A := 1) t5 (by omega)
    have t6 : TI (I 45 ((1 : Int32).toNatClampNeg)) (I 45 1).toInt := ti_r (e := I 45 1)
    exact k _
theorem mMoment0 {S : Nat × (Nat → Int32)} {d : Nat} {x : mX} {I : rI0} {J : rJ0} {p0 : Int32} {Q : Int32 → rI0 → rJ0 → Prop} (k : ∀ r, (r.toInt = 0 ∨ (r.toInt = 1 ∧ 0 ≤ p0.toInt ∧ p0.toInt ≤ 600)) → Q r I J) : wcI S (d + 1) 203 [.int p0] x I J Q := by
  refine c203 ?_
  have t1 : TI (0 : Int32) (0) := show (0 : Int32).toInt = 0 by decide
  have t2 : TI (600 : Int32) (600) := show (600 : Int32).toInt = 600 by decide
  refine mIn  ?_
  intro r1 g1a
  try simp only [t1.o, t2.o] at g1a
  refine ⟨jj_b01 (v := (r1)) (A := r1.toInt) ti_r (by omega), ?_⟩
  exact k _ (by omega)
theorem mLevel {S : Nat × (Nat → Int32)} {d : Nat} {x : mX} {I : rI0} {J : rJ0} {p1 : Int32} {Q : Int32 → rI0 → rJ0 → Prop} (k : ∀ r, Q r I J) : wcI S (d + 1) 196 [.ref 43, .int p1] x I J Q := by
  refine c196_43 ?_
  refine mHolds  ?_
  intro r1 g1a
  have t1 : TI (0 : Int32) (0) := show (0 : Int32).toInt = 0 by decide
  refine ⟨fun q2 => ?_, fun q2 => ?_⟩
  · have c3 := j_eq q2 (ti_r (e := r1)) t1
    refine mHolds  ?_
    intro r2 g2a
    refine ⟨fun q4 => ?_, fun q4 => ?_⟩
    · have c5 := j_eq q4 (ti_r (e := r2)) t1
      exact k _
    · have c6 := j_ne q4 (ti_r (e := r2)) t1
      exact k _
  · have c7 := j_ne q2 (ti_r (e := r1)) t1
    exact k _
theorem mHeldOf {S : Nat × (Nat → Int32)} {d : Nat} {x : mX} {I : rI0} {J : rJ0} {p1 : Int32} {Q : Int32 → rI0 → rJ0 → Prop} (k : ∀ r, Q r I J) : wcI S (d + 1) 197 [.ref 43, .int p1] x I J Q := by
  refine c197_43 ?_
  refine mHolds  ?_
  intro r1 g1a
  have t1 : TI (0 : Int32) (0) := show (0 : Int32).toInt = 0 by decide
  refine ⟨fun q2 => ?_, fun q2 => ?_⟩
  · have c3 := j_eq q2 (ti_r (e := r1)) t1
    refine mHolds  ?_
    intro r2 g2a
    refine ⟨fun q4 => ?_, fun q4 => ?_⟩
    · have c5 := j_eq q4 (ti_r (e := r2)) t1
      exact k _
    · have c6 := j_ne q4 (ti_r (e := r2)) t1
      exact k _
  · have c7 := j_ne q2 (ti_r (e := r1)) t1
    refine mHolds  ?_
    intro r3 g3a
    refine ⟨fun q8 => ?_, fun q8 => ?_⟩
    · have c9 := j_eq q8 (ti_r (e := r3)) t1
      exact k _
    · have c10 := j_ne q8 (ti_r (e := r3)) t1
      exact k _
theorem mLay_244 {S : Nat × (Nat → Int32)} {d : Nat} {x : mX} {I0 : rI0} {J0 : rJ0} {Tl : Int32 × Option Int32} {R C K A : Int} {g : Nat → Int32} {Q : rI0 → rJ0 → Prop} {N64 : Nat} (k : ∀ I J, (Mk_ I0 J0 Tl R C K A g I J) → Q I J) (K64 : ∀ (l1 : Int64) (l3 : Int32) (I : rI0) (J : rJ0), (Mk_ I0 J0 Tl R C K A g I J) → ((64 - l3.toInt).toNat < N64) → (0 ≤ l3.toInt) → (l3.toInt ≤ 64) → wp S (d + 3) 186 64 [some (.ref 43), some (.long l1), none, some (.int l3), none, none, none, none, none, none, none, none, none] [] (wv x I J) (rV x Q)) : ∀ (l1 : Int64) (l3 : Int32) (l4 : Int32) (l5 : Int32) (l6 : Int64) (l8 : Int64) (l10 : Int32) (l11 : Int32) (I : rI0) (J : rJ0), (Mk_ I0 J0 Tl R C K A g I J) → (0 ≤ l3.toInt) → (l3.toInt < 64) → (0 ≤ l4.toInt) → (l4.toInt ≤ 63) → (0 ≤ l5.toInt) → (l5.toInt ≤ 8) → (Nle (64 - l3.toInt).toNat N64) → wp S (d + 3) 186 244 [some (.ref 43), some (.long l1), none, some (.int l3), some (.int l4), some (.int l5), some (.long l6), none, some (.long l8), none, some (.int l10), some (.int l11), none] [] (wv x I J) (rV x Q) := by
  intro l1 l3 l4 l5 l6 l8 l10 l11 I J h e0 e1 e2 e3 e4 e5 a0
  have bh := h.bnd
  refine v186_43_244 ?_
  have t1 : TI (6 : Int32) (6) := show (6 : Int32).toInt = 6 by decide
  have t2 : TI ((6 : Int32) * l3) (6 * l3.toInt) := ti_mul t1 ti_r (by omega)
  refine ⟨?_, ?_⟩
  · exact jj_in (e := ((6 : Int32) * l3)) (A := (6 * l3.toInt)) t2 (by omega)
  refine mBitAt (Mk_.sk (n := 51) (k := (((6 : Int32) * l3).toNatClampNeg)) (h) (by decide)).1 ?_
  intro r1
  have t3 : TI (1 : Int32) (1) := show (1 : Int32).toInt = 1 by decide
  have t4 : TI (((6 : Int32) * l3) + (1 : Int32)) ((6 * l3.toInt) + 1) := ti_add t2 t3 (by omega)
  refine ⟨?_, ?_⟩
  · exact jj_in (e := (((6 : Int32) * l3) + (1 : Int32))) (A := ((6 * l3.toInt) + 1)) t4 (by omega)
  refine mBitAt (Mk_.sk (n := 51) (k := ((((6 : Int32) * l3) + (1 : Int32)).toNatClampNeg)) (Mk_.sk (n := 51) (k := (((6 : Int32) * l3).toNatClampNeg)) (h) (by decide)) (by decide)).1 ?_
  intro r2
  refine mBitAt (Mk_.sk (n := 51) (k := ((((6 : Int32) * l3) + (1 : Int32)).toNatClampNeg)) (Mk_.sk (n := 51) (k := (((6 : Int32) * l3).toNatClampNeg)) (h) (by decide)) (by decide)).1 ?_
  intro r3
  have t5 : TI (2 : Int32) (2) := show (2 : Int32).toInt = 2 by decide
  have t6 : TI (((6 : Int32) * l3) + (2 : Int32)) ((6 * l3.toInt) + 2) := ti_add t2 t5 (by omega)
  refine ⟨?_, ?_⟩
  · exact jj_in (e := (((6 : Int32) * l3) + (2 : Int32))) (A := ((6 * l3.toInt) + 2)) t6 (by omega)
  refine mBitAt (Mk_.sk (n := 51) (k := ((((6 : Int32) * l3) + (2 : Int32)).toNatClampNeg)) (Mk_.sk (n := 51) (k := ((((6 : Int32) * l3) + (1 : Int32)).toNatClampNeg)) (Mk_.sk (n := 51) (k := (((6 : Int32) * l3).toNatClampNeg)) (h) (by decide)) (by decide)) (by decide)).1 ?_
  intro r4
  have t7 : TI (3 : Int32) (3) := show (3 : Int32).toInt = 3 by decide
  have t8 : TI (((6 : Int32) * l3) + (3 : Int32)) ((6 * l3.toInt) + 3) := ti_add t2 t7 (by omega)
  refine ⟨?_, ?_⟩
  · exact jj_in (e := (((6 : Int32) * l3) + (3 : Int32))) (A := ((6 * l3.toInt) + 3)) t8 (by omega)
  have t9 : TI (4 : Int32) (4) := show (4 : Int32).toInt = 4 by decide
  have t10 : TI (((6 : Int32) * l3) + (4 : Int32)) ((6 * l3.toInt) + 4) := ti_add t2 t9 (by omega)
  refine ⟨?_, ?_⟩
  · exact jj_in (e := (((6 : Int32) * l3) + (4 : Int32))) (A := ((6 * l3.toInt) + 4)) t10 (by omega)
  have t11 : TI (5 : Int32) (5) := show (5 : Int32).toInt = 5 by decide
  have t12 : TI (((6 : Int32) * l3) + (5 : Int32)) ((6 * l3.toInt) + 5) := ti_add t2 t11 (by omega)
  refine ⟨?_, ?_⟩
  · exact jj_in (e := (((6 : Int32) * l3) + (5 : Int32))) (A := ((6 * l3.toInt) + 5)) t12 (by omega)
  have t13 : TI (l3 + (1 : Int32)) (l3.toInt + 1) := ti_add ti_r t3 (by omega)
  exact K64 l1 (l3 + (1 : Int32)) I (mSet (mSet (mSet (mSet (mSet (mSet J 51 (((6 : Int32) * l3).toNatClampNeg) l6) 51 ((((6 : Int32) * l3) + (1 : Int32)).toNatClampNeg) r1) 51 ((((6 : Int32) * l3) + (2 : Int32)).toNatClampNeg) (r2 ||| r3)) 51 ((((6 : Int32) * l3) + (3 : Int32)).toNatClampNeg) r4) 51 ((((6 : Int32) * l3) + (4 : Int32)).toNatClampNeg) l8) 51 ((((6 : Int32) * l3) + (5 : Int32)).toNatClampNeg) (l1 &&& (((1 : Int64) <<< (l3.toInt64 &&& 63)) ^^^ (-1 : Int64)))) (Mk_.sk (n := 51) (k := ((((6 : Int32) * l3) + (5 : Int32)).toNatClampNeg)) (Mk_.sk (n := 51) (k := ((((6 : Int32) * l3) + (4 : Int32)).toNatClampNeg)) (Mk_.sk (n := 51) (k := ((((6 : Int32) * l3) + (3 : Int32)).toNatClampNeg)) (Mk_.sk (n := 51) (k := ((((6 : Int32) * l3) + (2 : Int32)).toNatClampNeg)) (Mk_.sk (n := 51) (k := ((((6 : Int32) * l3) + (1 : Int32)).toNatClampNeg)) (Mk_.sk (n := 51) (k := (((6 : Int32) * l3).toNatClampNeg)) (h) (by decide)) (by decide)) (by decide)) (by decide)) (by decide)) (by decide)) (mlt a0 (by (try simp only [t13.o, true_or, or_true, true_and, and_true]); first | done | omega) (by omega)) (by (try simp only [t13.o, true_or, or_true, true_and, and_true]); first | done | omega) (by (try simp only [t13.o, true_or, or_true, true_and, and_true]); first | done | omega)
theorem mLay_206 {S : Nat × (Nat → Int32)} {d : Nat} {x : mX} {I0 : rI0} {J0 : rJ0} {Tl : Int32 × Option Int32} {R C K A : Int} {g : Nat → Int32} {Q : rI0 → rJ0 → Prop} {N190 : Nat} {N64 : Nat} (k : ∀ I J, (Mk_ I0 J0 Tl R C K A g I J) → Q I J) (K190 : ∀ (l1 : Int64) (l3 : Int32) (l4 : Int32) (l5 : Int32) (l6 : Int64) (l8 : Int64) (l10 : Int32) (l11 : Int32) (I : rI0) (J : rJ0), (Mk_ I0 J0 Tl R C K A g I J) → ((4 - l11.toInt).toNat < N190) → (0 ≤ l3.toInt) → (l3.toInt < 64) → (0 ≤ l11.toInt) → (l11.toInt ≤ 4) → (0 ≤ l4.toInt) → (l4.toInt ≤ 63) → (0 ≤ l5.toInt) → (l5.toInt ≤ 8) → (Nle (64 - l3.toInt).toNat N64) → wp S (d + 3) 186 190 [some (.ref 43), some (.long l1), none, some (.int l3), some (.int l4), some (.int l5), some (.long l6), none, some (.long l8), none, some (.int l10), some (.int l11), none] [] (wv x I J) (rV x Q)) : ∀ (n : Nat) (l1 : Int64) (l3 : Int32) (l4 : Int32) (l5 : Int32) (l6 : Int64) (l8 : Int64) (l10 : Int32) (l11 : Int32) (l12 : Int32) (I : rI0) (J : rJ0), (Neq (5 - l12.toInt).toNat n) → (Mk_ I0 J0 Tl R C K A g I J) → (0 ≤ l3.toInt) → (l3.toInt < 64) → (0 ≤ l11.toInt) → (l11.toInt < 4) → (-4 ≤ l12.toInt) → (l12.toInt ≤ 4) → (0 ≤ l4.toInt) → (l4.toInt ≤ 63) → (0 ≤ l5.toInt) → (l5.toInt ≤ 8) → (Nle (4 - l11.toInt).toNat N190) → (Nle (64 - l3.toInt).toNat N64) → wp S (d + 3) 186 206 [some (.ref 43), some (.long l1), none, some (.int l3), some (.int l4), some (.int l5), some (.long l6), none, some (.long l8), none, some (.int l10), some (.int l11), some (.int l12)] [] (wv x I J) (rV x Q) := by
  refine lpn ?_
  intro n ih
  intro l1 l3 l4 l5 l6 l8 l10 l11 l12 I J hm h e0 e1 e2 e3 e4 e5 e6 e7 e8 e9 a0 a1
  have bh := h.bnd
  refine v186_43_206 ?_
  refine ⟨fun q1 => ?_, fun q1 => ?_⟩
  · have c2 := j_lt q1 (ti_r (e := l11)) (ti_r (e := l12))
    have t3 : TI (1 : Int32) (1) := show (1 : Int32).toInt = 1 by decide
    have t4 : TI (l11 + (1 : Int32)) (l11.toInt + 1) := ti_add ti_r t3 (by omega)
    exact K190 l1 l3 l4 l5 l6 l8 l10 (l11 + (1 : Int32)) I J (h) (mlt a0 (by (try simp only [t4.o, true_or, or_true, true_and, and_true]); first | done | omega) (by omega)) (by (try simp only [t4.o, true_or, or_true, true_and, and_true]); first | done | omega) (by (try simp only [t4.o, true_or, or_true, true_and, and_true]); first | done | omega) (by (try simp only [t4.o, true_or, or_true, true_and, and_true]); first | done | omega) (by (try simp only [t4.o, true_or, or_true, true_and, and_true]); first | done | omega) (by (try simp only [t4.o, true_or, or_true, true_and, and_true]); first | done | omega) (by (try simp only [t4.o, true_or, or_true, true_and, and_true]); first | done | omega) (by (try simp only [t4.o, true_or, or_true, true_and, and_true]); first | done | omega) (by (try simp only [t4.o, true_or, or_true, true_and, and_true]); first | done | omega) (mle a1 (by (try simp only [t4.o, true_or, or_true, true_and, and_true]); first | done | omega))
  · have c5 := j_nlt q1 (ti_r (e := l11)) (ti_r (e := l12))
    refine mBitAt (h).1 ?_
    intro r1
    have t6 : TI (1 : Int32) (1) := show (1 : Int32).toInt = 1 by decide
    have t7 : TI (l12 + (1 : Int32)) (l12.toInt + 1) := ti_add ti_r t6 (by omega)
    exact ih _ (mih hm (by (try simp only [t7.o, true_or, or_true, true_and, and_true]); first | done | omega) (by omega)) l1 l3 l4 l5 l6 (l8 ||| r1) l10 l11 (l12 + (1 : Int32)) I J rfl (h) (by (try simp only [t7.o, true_or, or_true, true_and, and_true]); first | done | omega) (by (try simp only [t7.o, true_or, or_true, true_and, and_true]); first | done | omega) (by (try simp only [t7.o, true_or, or_true, true_and, and_true]); first | done | omega) (by (try simp only [t7.o, true_or, or_true, true_and, and_true]); first | done | omega) (by (try simp only [t7.o, true_or, or_true, true_and, and_true]); first | done | omega) (by (try simp only [t7.o, true_or, or_true, true_and, and_true]); first | done | omega) (by (try simp only [t7.o, true_or, or_true, true_and, and_true]); first | done | omega) (by (try simp only [t7.o, true_or, or_true, true_and, and_true]); first | done | omega) (by (try simp only [t7.o, true_or, or_true, true_and, and_true]); first | done | omega) (by (try simp only [t7.o, true_or, or_true, true_and, and_true]); first | done | omega) (mle a0 (by (try simp only [t7.o, true_or, or_true, true_and, and_true]); first | done | omega)) (mle a1 (by (try simp only [t7.o, true_or, or_true, true_and, and_true]); first | done | omega))
theorem mLay_190 {S : Nat × (Nat → Int32)} {d : Nat} {x : mX} {I0 : rI0} {J0 : rJ0} {Tl : Int32 × Option Int32} {R C K A : Int} {g : Nat → Int32} {Q : rI0 → rJ0 → Prop} {N64 : Nat} (k : ∀ I J, (Mk_ I0 J0 Tl R C K A g I J) → Q I J) (K64 : ∀ (l1 : Int64) (l3 : Int32) (I : rI0) (J : rJ0), (Mk_ I0 J0 Tl R C K A g I J) → ((64 - l3.toInt).toNat < N64) → (0 ≤ l3.toInt) → (l3.toInt ≤ 64) → wp S (d + 3) 186 64 [some (.ref 43), some (.long l1), none, some (.int l3), none, none, none, none, none, none, none, none, none] [] (wv x I J) (rV x Q)) : ∀ (n : Nat) (l1 : Int64) (l3 : Int32) (l4 : Int32) (l5 : Int32) (l6 : Int64) (l8 : Int64) (l10 : Int32) (l11 : Int32) (I : rI0) (J : rJ0), (Neq (4 - l11.toInt).toNat n) → (Mk_ I0 J0 Tl R C K A g I J) → (0 ≤ l3.toInt) → (l3.toInt < 64) → (0 ≤ l11.toInt) → (l11.toInt ≤ 4) → (0 ≤ l4.toInt) → (l4.toInt ≤ 63) → (0 ≤ l5.toInt) → (l5.toInt ≤ 8) → (Nle (64 - l3.toInt).toNat N64) → wp S (d + 3) 186 190 [some (.ref 43), some (.long l1), none, some (.int l3), some (.int l4), some (.int l5), some (.long l6), none, some (.long l8), none, some (.int l10), some (.int l11), none] [] (wv x I J) (rV x Q) := by
  refine lpn ?_
  intro n ih
  intro l1 l3 l4 l5 l6 l8 l10 l11 I J hm h e0 e1 e2 e3 e4 e5 e6 e7 a0
  have bh := h.bnd
  refine v186_43_190 ?_
  have t1 : TI (4 : Int32) (4) := show (4 : Int32).toInt = 4 by decide
  refine ⟨fun q2 => ?_, fun q2 => ?_⟩
  · have c3 := j_lt q2 (ti_r (e := l11)) t1
    have t4 : TI (0 : Int32) (0) := show (0 : Int32).toInt = 0 by decide
    refine ⟨fun q5 => ?_, fun q5 => ?_⟩
    · have c6 := j_eq q5 (ti_r (e := l10)) t4
      have t7 : TI (-l11) (-l11.toInt) := ti_neg ti_r (by omega)
      exact mLay_206 k (fun l1_ l3_ l4_ l5_ l6_ l8_ l10_ l11_ I_ J_ h_ hlt f0_ f1_ f2_ f3_ f4_ f5_ f6_ f7_ f8_ => ih _ hlt l1_ l3_ l4_ l5_ l6_ l8_ l10_ l11_ I_ J_ rfl h_ f0_ f1_ f2_ f3_ f4_ f5_ f6_ f7_ f8_) _ l1 l3 l4 l5 l6 l8 l10 l11 (-l11) I J rfl (h) (by (try simp only [t7.o, true_or, or_true, true_and, and_true]); first | done | omega) (by (try simp only [t7.o, true_or, or_true, true_and, and_true]); first | done | omega) (by (try simp only [t7.o, true_or, or_true, true_and, and_true]); first | done | omega) (by (try simp only [t7.o, true_or, or_true, true_and, and_true]); first | done | omega) (by (try simp only [t7.o, true_or, or_true, true_and, and_true]); first | done | omega) (by (try simp only [t7.o, true_or, or_true, true_and, and_true]); first | done | omega) (by (try simp only [t7.o, true_or, or_true, true_and, and_true]); first | done | omega) (by (try simp only [t7.o, true_or, or_true, true_and, and_true]); first | done | omega) (by (try simp only [t7.o, true_or, or_true, true_and, and_true]); first | done | omega) (by (try simp only [t7.o, true_or, or_true, true_and, and_true]); first | done | omega) (mleq hm (by (try simp only [t7.o, true_or, or_true, true_and, and_true]); first | done | omega)) (mle a0 (by (try simp only [t7.o, true_or, or_true, true_and, and_true]); first | done | omega))
    · have c8 := j_ne q5 (ti_r (e := l10)) t4
      exact mLay_244 k K64 l1 l3 l4 l5 l6 l8 l10 l11 I J (h) (by omega) (by omega) (by omega) (by omega) (by omega) (by omega) (mle a0 (by omega))
  · have c9 := j_nlt q2 (ti_r (e := l11)) t1
    exact mLay_244 k K64 l1 l3 l4 l5 l6 l8 l10 l11 I J (h) (by omega) (by omega) (by omega) (by omega) (by omega) (by omega) (mle a0 (by omega))
theorem mLay_107 {S : Nat × (Nat → Int32)} {d : Nat} {x : mX} {I0 : rI0} {J0 : rJ0} {Tl : Int32 × Option Int32} {R C K A : Int} {g : Nat → Int32} {Q : rI0 → rJ0 → Prop} {N64 : Nat} (k : ∀ I J, (Mk_ I0 J0 Tl R C K A g I J) → Q I J) (K64 : ∀ (l1 : Int64) (l3 : Int32) (I : rI0) (J : rJ0), (Mk_ I0 J0 Tl R C K A g I J) → ((64 - l3.toInt).toNat < N64) → (0 ≤ l3.toInt) → (l3.toInt ≤ 64) → wp S (d + 3) 186 64 [some (.ref 43), some (.long l1), none, some (.int l3), none, none, none, none, none, none, none, none, none] [] (wv x I J) (rV x Q)) : ∀ (n : Nat) (l1 : Int64) (l3 : Int32) (l4 : Int32) (l5 : Int32) (l6 : Int64) (l8 : Int32) (I : rI0) (J : rJ0), (Neq (9 - l8.toInt).toNat n) → (Mk_ I0 J0 Tl R C K A g I J) → (0 ≤ l3.toInt) → (l3.toInt < 64) → (0 ≤ l4.toInt) → (l4.toInt ≤ 63) → (0 ≤ l5.toInt) → (l5.toInt ≤ 8) → (0 ≤ l8.toInt) → (l8.toInt ≤ 9) → (l4.toInt ≤ 0 ∨ C ≤ l3.toInt) → (Nle (64 - l3.toInt).toNat N64) → wp S (d + 3) 186 107 [some (.ref 43), some (.long l1), none, some (.int l3), some (.int l4), some (.int l5), some (.long l6), none, some (.int l8), none, none, none, none] [] (wv x I J) (rV x Q) := by
  refine lpn ?_
  intro n ih
  intro l1 l3 l4 l5 l6 l8 I J hm h e0 e1 e2 e3 e4 e5 e6 e7 e8 a0
  have bh := h.bnd
  refine v186_43_107 ?_
  have t1 : TI (9 : Int32) (9) := show (9 : Int32).toInt = 9 by decide
  refine ⟨fun q2 => ?_, fun q2 => ?_⟩
  · have c3 := j_lt q2 (ti_r (e := l8)) t1
    have t4 : TI (4 : Int32) (4) := show (4 : Int32).toInt = 4 by decide
    refine ⟨fun q5 => ?_, fun q5 => ?_⟩
    · have c6 := j_eq q5 (ti_r (e := l8)) t4
      have t7 : TI (1 : Int32) (1) := show (1 : Int32).toInt = 1 by decide
      have t8 : TI (l8 + (1 : Int32)) (l8.toInt + 1) := ti_add ti_r t7 (by omega)
      exact ih _ (mih hm (by (try simp only [t8.o, true_or, or_true, true_and, and_true]); first | done | omega) (by omega)) l1 l3 l4 l5 l6 (l8 + (1 : Int32)) I J rfl (h) (by (try simp only [t8.o, true_or, or_true, true_and, and_true]); first | done | omega) (by (try simp only [t8.o, true_or, or_true, true_and, and_true]); first | done | omega) (by (try simp only [t8.o, true_or, or_true, true_and, and_true]); first | done | omega) (by (try simp only [t8.o, true_or, or_true, true_and, and_true]); first | done | omega) (by (try simp only [t8.o, true_or, or_true, true_and, and_true]); first | done | omega) (by (try simp only [t8.o, true_or, or_true, true_and, and_true]); first | done | omega) (by (try simp only [t8.o, true_or, or_true, true_and, and_true]); first | done | omega) (by (try simp only [t8.o, true_or, or_true, true_and, and_true]); first | done | omega) (by (try simp only [t8.o, true_or, or_true, true_and, and_true]); first | done | omega) (mle a0 (by (try simp only [t8.o, true_or, or_true, true_and, and_true]); first | done | omega))
    · have c9 := j_ne q5 (ti_r (e := l8)) t4
      have t10 : TI (3 : Int32) (3) := show (3 : Int32).toInt = 3 by decide
      refine ⟨?_, ?_⟩
      · exact jj_n0 (e := (3 : Int32)) (A := 3) t10 (by omega)
      obtain ⟨g12, t11, bt11⟩ := ti_div (a := (l8)) (b := (3 : Int32)) (A := l8.toInt) (B := 3) ti_r t10 (by omega) (by omega)
      refine ⟨?_, ?_⟩
      · exact jj_n0 (e := (3 : Int32)) (A := 3) t10 (by omega)
      obtain ⟨g14, t13, bt13⟩ := ti_rem (a := (l8)) (b := (3 : Int32)) (A := l8.toInt) (B := 3) ti_r t10 (by omega) (by omega)
      refine mBitAt (h).1 ?_
      intro r1
      have t15 : TI (1 : Int32) (1) := show (1 : Int32).toInt = 1 by decide
      have t16 : TI (l8 + (1 : Int32)) (l8.toInt + 1) := ti_add ti_r t15 (by omega)
      exact ih _ (mih hm (by (try simp only [t16.o, true_or, or_true, true_and, and_true]); first | done | omega) (by omega)) l1 l3 l4 l5 (l6 ||| r1) (l8 + (1 : Int32)) I J rfl (h) (by (try simp only [t16.o, true_or, or_true, true_and, and_true]); first | done | omega) (by (try simp only [t16.o, true_or, or_true, true_and, and_true]); first | done | omega) (by (try simp only [t16.o, true_or, or_true, true_and, and_true]); first | done | omega) (by (try simp only [t16.o, true_or, or_true, true_and, and_true]); first | done | omega) (by (try simp only [t16.o, true_or, or_true, true_and, and_true]); first | done | omega) (by (try simp only [t16.o, true_or, or_true, true_and, and_true]); first | done | omega) (by (try simp only [t16.o, true_or, or_true, true_and, and_true]); first | done | omega) (by (try simp only [t16.o, true_or, or_true, true_and, and_true]); first | done | omega) (by (try simp only [t16.o, true_or, or_true, true_and, and_true]); first | done | omega) (mle a0 (by (try simp only [t16.o, true_or, or_true, true_and, and_true]); first | done | omega))
  · have c17 := j_nlt q2 (ti_r (e := l8)) t1
    have t18 : TI (0 : Int32) (0) := show (0 : Int32).toInt = 0 by decide
    refine ⟨fun q19 => ?_, fun q19 => ?_⟩
    · have c20 := j_lt q19 t18 (ti_r (e := l4))
      have t21 : TI (1 : Int32) (1) := show (1 : Int32).toInt = 1 by decide
      refine ⟨?_, ?_⟩
      · exact jj_in (e := (1 : Int32)) (A := 1) t21 (by omega)
      have t22 : TI (I 45 ((1 : Int32).toNatClampNeg)) (I 45 1).toInt := ti_r (e := I 45 1)
      have t23 : TI (6 : Int32) (6) := show (6 : Int32).toInt = 6 by decide
      have t24 : TI ((6 : Int32) + l3) (6 + l3.toInt) := ti_add t23 ti_r (by omega)
      have t25 : TI (((6 : Int32) + l3) - (I 45 ((1 : Int32).toNatClampNeg))) ((6 + l3.toInt) - (I 45 1).toInt) := ti_sub t24 t22 (by omega)
      refine ⟨?_, ?_⟩
      · exact jj_in (e := (((6 : Int32) + l3) - (I 45 ((1 : Int32).toNatClampNeg)))) (A := ((6 + l3.toInt) - (I 45 1).toInt)) t25 (by omega)
      refine ⟨fun q26 => ?_, fun q26 => ?_⟩
      · have c27 := j_eq q26 (ti_r (e := (I 45 ((((6 : Int32) + l3) - (I 45 ((1 : Int32).toNatClampNeg))).toNatClampNeg)))) t18
        exact mLay_190 k K64 _ l1 l3 l4 l5 l6 ((0 : Int64)) ((1 : Int32)) ((1 : Int32)) I J rfl (h) (by (try simp only [t21.o, true_or, or_true, true_and, and_true]); first | done | omega) (by (try simp only [t21.o, true_or, or_true, true_and, and_true]); first | done | omega) (by (try simp only [t21.o, true_or, or_true, true_and, and_true]); first | done | omega) (by (try simp only [t21.o, true_or, or_true, true_and, and_true]); first | done | omega) (by (try simp only [t21.o, true_or, or_true, true_and, and_true]); first | done | omega) (by (try simp only [t21.o, true_or, or_true, true_and, and_true]); first | done | omega) (by (try simp only [t21.o, true_or, or_true, true_and, and_true]); first | done | omega) (by (try simp only [t21.o, true_or, or_true, true_and, and_true]); first | done | omega) (mle a0 (by (try simp only [t21.o, true_or, or_true, true_and, and_true]); first | done | omega))
      · have c28 := j_ne q26 (ti_r (e := (I 45 ((((6 : Int32) + l3) - (I 45 ((1 : Int32).toNatClampNeg))).toNatClampNeg)))) t18
        exact mLay_190 k K64 _ l1 l3 l4 l5 l6 ((0 : Int64)) ((0 : Int32)) ((1 : Int32)) I J rfl (h) (by (try simp only [t21.o, true_or, or_true, true_and, and_true]); first | done | omega) (by (try simp only [t21.o, true_or, or_true, true_and, and_true]); first | done | omega) (by (try simp only [t21.o, true_or, or_true, true_and, and_true]); first | done | omega) (by (try simp only [t21.o, true_or, or_true, true_and, and_true]); first | done | omega) (by (try simp only [t21.o, true_or, or_true, true_and, and_true]); first | done | omega) (by (try simp only [t21.o, true_or, or_true, true_and, and_true]); first | done | omega) (by (try simp only [t21.o, true_or, or_true, true_and, and_true]); first | done | omega) (by (try simp only [t21.o, true_or, or_true, true_and, and_true]); first | done | omega) (mle a0 (by (try simp only [t21.o, true_or, or_true, true_and, and_true]); first | done | omega))
    · have c29 := j_nlt q19 t18 (ti_r (e := l4))
      have t30 : TI (1 : Int32) (1) := show (1 : Int32).toInt = 1 by decide
      exact mLay_190 k K64 _ l1 l3 l4 l5 l6 ((0 : Int64)) ((0 : Int32)) ((1 : Int32)) I J rfl (h) (by (try simp only [t30.o, true_or, or_true, true_and, and_true]); first | done | omega) (by (try simp only [t30.o, true_or, or_true, true_and, and_true]); first | done | omega) (by (try simp only [t30.o, true_or, or_true, true_and, and_true]); first | done | omega) (by (try simp only [t30.o, true_or, or_true, true_and, and_true]); first | done | omega) (by (try simp only [t30.o, true_or, or_true, true_and, and_true]); first | done | omega) (by (try simp only [t30.o, true_or, or_true, true_and, and_true]); first | done | omega) (by (try simp only [t30.o, true_or, or_true, true_and, and_true]); first | done | omega) (by (try simp only [t30.o, true_or, or_true, true_and, and_true]); first | done | omega) (mle a0 (by (try simp only [t30.o, true_or, or_true, true_and, and_true]); first | done | omega))
theorem mLay_64 {S : Nat × (Nat → Int32)} {d : Nat} {x : mX} {I0 : rI0} {J0 : rJ0} {Tl : Int32 × Option Int32} {R C K A : Int} {g : Nat → Int32} {Q : rI0 → rJ0 → Prop} (k : ∀ I J, (Mk_ I0 J0 Tl R C K A g I J) → Q I J) : ∀ (n : Nat) (l1 : Int64) (l3 : Int32) (I : rI0) (J : rJ0), (Neq (64 - l3.toInt).toNat n) → (Mk_ I0 J0 Tl R C K A g I J) → (0 ≤ l3.toInt) → (l3.toInt ≤ 64) → wp S (d + 3) 186 64 [some (.ref 43), some (.long l1), none, some (.int l3), none, none, none, none, none, none, none, none, none] [] (wv x I J) (rV x Q) := by
  refine lpn ?_
  intro n ih
  intro l1 l3 I J hm h e0 e1
  have bh := h.bnd
  refine v186_43_64 ?_
  have t1 : TI (0 : Int32) (0) := show (0 : Int32).toInt = 0 by decide
  refine ⟨?_, ?_⟩
  · exact jj_in (e := (0 : Int32)) (A := 0) t1 (by omega)
  have t2 : TI (I 45 ((0 : Int32).toNatClampNeg)) (I 45 0).toInt := ti_r (e := I 45 0)
  have t3 : TI (1 : Int32) (1) := show (1 : Int32).toInt = 1 by decide
  refine ⟨?_, ?_⟩
  · exact jj_in (e := (1 : Int32)) (A := 1) t3 (by omega)
  have t4 : TI (I 45 ((1 : Int32).toNatClampNeg)) (I 45 1).toInt := ti_r (e := I 45 1)
  have ut5 : 0 ≤ (I 45 0).toInt * (I 45 1).toInt ∧ (I 45 0).toInt * (I 45 1).toInt ≤ 64 := i_mb (by omega) (by omega)
  have vt5 := i_mp (A := (I 45 0).toInt) (B := (I 45 1).toInt) (by omega) (by omega)
  have t5 : TI ((I 45 ((0 : Int32).toNatClampNeg)) * (I 45 ((1 : Int32).toNatClampNeg))) ((I 45 0).toInt * (I 45 1).toInt) := ti_mul t2 t4 (by omega)
  refine ⟨fun q6 => ?_, fun q6 => ?_⟩
  · have c7 := j_lt q6 (ti_r (e := l3)) t5
    refine ⟨?_, ?_⟩
    · exact jj_in (e := (1 : Int32)) (A := 1) t3 (by omega)
    refine ⟨?_, ?_⟩
    · exact jj_n0 (e := (I 45 ((1 : Int32).toNatClampNeg))) (A := (I 45 1).toInt) t4 (by omega)
    obtain ⟨g9, t8, bt8⟩ := ti_div (a := (l3)) (b := (I 45 ((1 : Int32).toNatClampNeg))) (A := l3.toInt) (B := (I 45 1).toInt) ti_r t4 (by omega) (by omega)
    refine ⟨?_, ?_⟩
    · exact jj_in (e := (1 : Int32)) (A := 1) t3 (by omega)
    refine ⟨?_, ?_⟩
    · exact jj_n0 (e := (I 45 ((1 : Int32).toNatClampNeg))) (A := (I 45 1).toInt) t4 (by omega)
    obtain ⟨g11, t10, bt10⟩ := ti_rem (a := (l3)) (b := (I 45 ((1 : Int32).toNatClampNeg))) (A := l3.toInt) (B := (I 45 1).toInt) ti_r t4 (by omega) (by omega)
    exact mLay_107 k (fun l1_ l3_ I_ J_ h_ hlt f0_ f1_ => ih _ hlt l1_ l3_ I_ J_ rfl h_ f0_ f1_) _ l1 l3 (l3 / (I 45 ((1 : Int32).toNatClampNeg))) (l3 - l3 / (I 45 ((1 : Int32).toNatClampNeg)) * (I 45 ((1 : Int32).toNatClampNeg))) ((0 : Int64)) ((0 : Int32)) I J rfl (h) (by (try simp only [t8.o, t10.o, t1.o, true_or, or_true, true_and, and_true]); first | done | omega) (by (try simp only [t8.o, t10.o, t1.o, true_or, or_true, true_and, and_true]); first | done | omega) (by (try simp only [t8.o, t10.o, t1.o, true_or, or_true, true_and, and_true]); first | done | omega) (by (try simp only [t8.o, t10.o, t1.o, true_or, or_true, true_and, and_true]); first | done | omega) (by (try simp only [t8.o, t10.o, t1.o, true_or, or_true, true_and, and_true]); first | done | omega) (by (try simp only [t8.o, t10.o, t1.o, true_or, or_true, true_and, and_true]); first | done | omega) (by (try simp only [t8.o, t10.o, t1.o, true_or, or_true, true_and, and_true]); first | done | omega) (by (try simp only [t8.o, t10.o, t1.o, true_or, or_true, true_and, and_true]); first | done | omega) (by (try simp only [t8.o, t10.o, t1.o, true_or, or_true, true_and, and_true]); first | done | omega) (mleq hm (by (try simp only [t8.o, t10.o, t1.o, true_or, or_true, true_and, and_true]); first | done | omega))
  · have c12 := j_nlt q6 (ti_r (e := l3)) t5
    exact k _ _ (h)
theorem mLay_17 {S : Nat × (Nat → Int32)} {d : Nat} {x : mX} {I0 : rI0} {J0 : rJ0} {Tl : Int32 × Option Int32} {R C K A : Int} {g : Nat → Int32} {Q : rI0 → rJ0 → Prop} (k : ∀ I J, (Mk_ I0 J0 Tl R C K A g I J) → Q I J) : ∀ (n : Nat) (l1 : Int64) (l3 : Int32) (I : rI0) (J : rJ0), (Neq (64 - l3.toInt).toNat n) → (Mk_ I0 J0 Tl R C K A g I J) → (0 ≤ l3.toInt) → (l3.toInt ≤ 64) → wp S (d + 3) 186 17 [some (.ref 43), some (.long l1), none, some (.int l3), none, none, none, none, none, none, none, none, none] [] (wv x I J) (rV x Q) := by
  refine lpn ?_
  intro n ih
  intro l1 l3 I J hm h e0 e1
  have bh := h.bnd
  refine v186_43_17 ?_
  have t1 : TI (0 : Int32) (0) := show (0 : Int32).toInt = 0 by decide
  refine ⟨?_, ?_⟩
  · exact jj_in (e := (0 : Int32)) (A := 0) t1 (by omega)
  have t2 : TI (I 45 ((0 : Int32).toNatClampNeg)) (I 45 0).toInt := ti_r (e := I 45 0)
  have t3 : TI (1 : Int32) (1) := show (1 : Int32).toInt = 1 by decide
  refine ⟨?_, ?_⟩
  · exact jj_in (e := (1 : Int32)) (A := 1) t3 (by omega)
  have t4 : TI (I 45 ((1 : Int32).toNatClampNeg)) (I 45 1).toInt := ti_r (e := I 45 1)
  have ut5 : 0 ≤ (I 45 0).toInt * (I 45 1).toInt ∧ (I 45 0).toInt * (I 45 1).toInt ≤ 64 := i_mb (by omega) (by omega)
  have vt5 := i_mp (A := (I 45 0).toInt) (B := (I 45 1).toInt) (by omega) (by omega)
  have t5 : TI ((I 45 ((0 : Int32).toNatClampNeg)) * (I 45 ((1 : Int32).toNatClampNeg))) ((I 45 0).toInt * (I 45 1).toInt) := ti_mul t2 t4 (by omega)
  refine ⟨fun q6 => ?_, fun q6 => ?_⟩
  · have c7 := j_lt q6 (ti_r (e := l3)) t5
    have t8 : TI (6 : Int32) (6) := show (6 : Int32).toInt = 6 by decide
    have t9 : TI ((6 : Int32) + l3) (6 + l3.toInt) := ti_add t8 ti_r (by omega)
    refine ⟨?_, ?_⟩
    · exact jj_in (e := ((6 : Int32) + l3)) (A := (6 + l3.toInt)) t9 (by omega)
    have w10 := Mz_.kt h.1 (e := ((6 : Int32) + l3)) (A := (6 + l3.toInt)) t9 (by omega)
    refine ⟨fun q11 => ?_, fun q11 => ?_⟩
    · have c12 := j_lt q11 t1 (ti_r (e := (I 45 (((6 : Int32) + l3).toNatClampNeg))))
      have t13 : TI (l3 + (1 : Int32)) (l3.toInt + 1) := ti_add ti_r t3 (by omega)
      exact ih _ (mih hm (by (try simp only [t13.o, true_or, or_true, true_and, and_true]); first | done | omega) (by omega)) (l1 ||| ((1 : Int64) <<< (l3.toInt64 &&& 63))) (l3 + (1 : Int32)) I J rfl (h) (by (try simp only [t13.o, true_or, or_true, true_and, and_true]); first | done | omega) (by (try simp only [t13.o, true_or, or_true, true_and, and_true]); first | done | omega)
    · have c14 := j_nlt q11 t1 (ti_r (e := (I 45 (((6 : Int32) + l3).toNatClampNeg))))
      have t15 : TI (l3 + (1 : Int32)) (l3.toInt + 1) := ti_add ti_r t3 (by omega)
      exact ih _ (mih hm (by (try simp only [t15.o, true_or, or_true, true_and, and_true]); first | done | omega) (by omega)) (l1 ||| (0 : Int64)) (l3 + (1 : Int32)) I J rfl (h) (by (try simp only [t15.o, true_or, or_true, true_and, and_true]); first | done | omega) (by (try simp only [t15.o, true_or, or_true, true_and, and_true]); first | done | omega)
  · have c16 := j_nlt q6 (ti_r (e := l3)) t5
    exact mLay_64 k _ l1 ((0 : Int32)) I J rfl (h) (by (try simp only [t1.o, true_or, or_true, true_and, and_true]); first | done | omega) (by (try simp only [t1.o, true_or, or_true, true_and, and_true]); first | done | omega)
theorem mLay {S : Nat × (Nat → Int32)} {d : Nat} {x : mX} {I0 : rI0} {J0 : rJ0} {Tl : Int32 × Option Int32} {R C K A : Int} {g : Nat → Int32} {I : rI0} {J : rJ0} {Q : rI0 → rJ0 → Prop} (h : Mk_ I0 J0 Tl R C K A g I J) (k : ∀ I J, (Mk_ I0 J0 Tl R C K A g I J) → Q I J) : wcV S (d + 3) 186 [.ref 43] x I J Q := by
  have bh := h.bnd
  refine c186_43 ?_
  have t1 : TI (0 : Int32) (0) := show (0 : Int32).toInt = 0 by decide
  refine ⟨fun q2 => ?_, fun q2 => ?_⟩
  · have c3 := j_eq q2 (ti_r (e := (I 43 30))) t1
    exact k _ _ (h)
  · have c4 := j_ne q2 (ti_r (e := (I 43 30))) t1
    exact mLay_17 k _ ((0 : Int64)) ((0 : Int32)) (mSet I 43 30 (0 : Int32)) J rfl (Mk_.si (n := 43) (k := 30) (h) (by decide)) (by (try simp only [t1.o, true_or, or_true, true_and, and_true]); first | done | omega) (by (try simp only [t1.o, true_or, or_true, true_and, and_true]); first | done | omega)
end MS1
