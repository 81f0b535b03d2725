section CC6
variable {S : Nat × (Nat → Int32)} {d : Nat} {x : mX} {I I0 : rI0} {J J0 : rJ0} {t : Int32}
theorem zJoin {p1 p2 : Int32} {p3 : Int64} {Q : Int64 → rI0 → rJ0 → Prop} (hp : 0 ≤ p1.toInt ∧ p1.toInt ≤ 100000) (k : ∀ r, Q r I J) : wcJ S (d + 20) 61 [.ref 41, .int p1, .int p2, .long p3, .int (1 : Int32)] x I J Q := joinedA_41 (i_nI hp.1 hp.2 (by omega)) k
theorem zLast {Q : Int32 → rI0 → rJ0 → Prop} (h : CZ I0 J0 t I J) (k : ∀ r, Q r I J) : wcI S (d + 2) 17 [.ref 3] x I J Q := lastEventA h.1.2.1.1 h.1.2.2.2.1 k
theorem pr_div {a b : Int32} (ha : 0 ≤ a.toInt ∧ a.toInt < 64) (hb : 0 ≤ b.toInt ∧ b.toInt < 64) : (a * 64 + b) / 64 = a ∧ (a * 64 + b) - (a * 64 + b) / 64 * 64 = b ∧ 0 ≤ (a * 64 + b).toInt := by
  have l : (64 : Int32).toInt = 64 := by decide
  have m : (a * 64).toInt = a.toInt * 64 := i_mul rfl l (by omega)
  have s : (a * 64 + b).toInt = a.toInt * 64 + b.toInt := i_add m rfl (by omega)
  have e := i_div s l (by omega) (by omega)
  have e1 : (a * 64 + b) / 64 = a := by
    rw [← Int32.toInt_inj, e.1]
    omega
  refine ⟨e1, ?_, by omega⟩
  rw [e1, ← Int32.toInt_inj, i_sub s m (by omega)]
  omega

theorem zBeAs {S : Nat × (Nat → Int32)} {d : Nat} {x : mX} {I0 : rI0} {J0 : rJ0} {t : Int32} {I : rI0} {J : rJ0} {p2 : Int32} {Q : rI0 → rJ0 → Prop} (h : CZ I0 J0 t I J) (hp : 0 ≤ p2.toInt ∧ p2.toInt ≤ 600) (k : ∀ I J, (CZ I0 J0 t I J) → Q I J) : wcV S (d + 0) 50 [.ref 41, .ref 31, .int p2] x I J Q := by
  have bh := h.bnd
  refine c50_41_31 ?_
  refine ⟨?_, ?_⟩
  · exact i_in (e := (p2)) (A := p2.toInt) rfl (by omega)
  refine ⟨?_, ?_⟩
  · exact i_in (e := (p2)) (A := p2.toInt) rfl (by omega)
  refine ⟨?_, ?_⟩
  · exact i_in (e := (p2)) (A := p2.toInt) rfl (by omega)
  refine ⟨?_, ?_⟩
  · exact i_in (e := (p2)) (A := p2.toInt) rfl (by omega)
  exact k _ _ (CZ.sj (n := 41) (k := 11) (CZ.sj (n := 41) (k := 10) (CZ.sj (n := 41) (k := 9) (CZ.sj (n := 41) (k := 8) (h) (by omega)) (by omega)) (by omega)) (by omega))
theorem zDoes {S : Nat × (Nat → Int32)} {d : Nat} {x : mX} {I : rI0} {J : rJ0} {p1 : Int32} {p2 : Int32} {Q : Int32 → rI0 → rJ0 → Prop} (hp : 0 ≤ p1.toInt ∧ p1.toInt < 12) (k : ∀ r, (r.toInt = 0 ∨ r.toInt = 1) → Q r I J) : wcI S (d + 21) 51 [.ref 41, .int p1, .int p2] x I J Q := by
  refine c51_41 ?_
  refine ⟨?_, ?_⟩
  · exact i_in (e := (p1)) (A := p1.toInt) rfl (by omega)
  have t2 : (20 : Int32).toInt = 20 := by decide
  have t3 : (p1 * (20 : Int32)).toInt = p1.toInt * 20 := i_mul rfl t2 (by omega)
  have t4 : (1 : Int32).toInt = 1 := by decide
  refine zJoin (by omega) ?_
  intro r1
  refine ⟨fun q5 => ?_, fun q5 => ?_⟩
  · have t7 : (0 : Int32).toInt = 0 := by decide
    exact k _ (by omega)
  · exact k _ (by omega)
theorem zSome_17 {S : Nat × (Nat → Int32)} {d : Nat} {x : mX} {I0 : rI0} {J0 : rJ0} {t : Int32} {I : rI0} {J : rJ0} {Q : Int32 → rI0 → rJ0 → Prop} (k : ∀ r, (r.toInt = 0 ∨ r.toInt = 1) → Q r I J) (h : CZ I0 J0 t I J) : ∀ (n : Nat) (l1 : Int32) (l2 : Int32), ((30 - l2.toInt).toNat = n) → (0 ≤ l2.toInt) → (l2.toInt ≤ 30) → (l1.toInt = 0 ∨ l1.toInt = 1) → wp S (d + 0) 19 17 [some (.ref 3), some (.int l1), some (.int l2)] [] (wv x I J) (rI x Q) := by
  refine lpn ?_
  intro n ih
  intro l1 l2 hm e0 e1 e2
  have bh := h.bnd
  refine v19_3_17 ?_
  refine ⟨fun q1 => ?_, fun q1 => ?_⟩
  · have c2 := i_lt q1
    refine ⟨fun q3 => ?_, fun q3 => ?_⟩
    · have c4 := i_lt q3
      have t5 : (30 : Int32).toInt = 30 := by decide
      refine ⟨fun q6 => ?_, fun q6 => ?_⟩
      · have c7 := i_eq q6
        have t8 : (0 : Int32).toInt = 0 := by decide
        refine ⟨?_, ?_⟩
        · exact i_in (e := (l2)) (A := l2.toInt) rfl (by omega)
        refine ⟨fun q10 => ?_, fun q10 => ?_⟩
        · have c11 := i_eq q10
          have t12 : (1 : Int32).toInt = 1 := by decide
          have t13 : (l2 + (1 : Int32)).toInt = l2.toInt + 1 := i_add rfl t12 (by omega)
          exact ih _ (by omega) ((1 : Int32)) (l2 + (1 : Int32)) rfl (by omega) (by omega) (by omega)
        · have c14 := i_ne q10
          have t15 : (1 : Int32).toInt = 1 := by decide
          have t16 : (l2 + (1 : Int32)).toInt = l2.toInt + 1 := i_add rfl t15 (by omega)
          exact ih _ (by omega) ((0 : Int32)) (l2 + (1 : Int32)) rfl (by omega) (by omega) (by omega)
      · have c17 := i_ne q6
        have t18 : (0 : Int32).toInt = 0 := by decide
        have t19 : (1 : Int32).toInt = 1 := by decide
        have t20 : (l2 + (1 : Int32)).toInt = l2.toInt + 1 := i_add rfl t19 (by omega)
        exact ih _ (by omega) ((1 : Int32)) (l2 + (1 : Int32)) rfl (by omega) (by omega) (by omega)
    · have c21 := i_nlt q3
      have t22 : (30 : Int32).toInt = 30 := by decide
      refine ⟨i_b01 (by omega), ?_⟩
      exact k _ (by omega)
  · have c23 := i_nlt q1
    refine ⟨i_b01 (by omega), ?_⟩
    exact k _ (by omega)
theorem zSome {S : Nat × (Nat → Int32)} {d : Nat} {x : mX} {I0 : rI0} {J0 : rJ0} {t : Int32} {I : rI0} {J : rJ0} {Q : Int32 → rI0 → rJ0 → Prop} (h : CZ I0 J0 t I J) (k : ∀ r, (r.toInt = 0 ∨ r.toInt = 1) → Q r I J) : wcI S (d + 0) 19 [.ref 3] x I J Q := by
  have bh := h.bnd
  refine c19_3 ?_
  refine ⟨fun q1 => ?_, fun q1 => ?_⟩
  · have t3 : (0 : Int32).toInt = 0 := by decide
    exact zSome_17 k h _ ((0 : Int32)) ((0 : Int32)) rfl (by omega) (by omega) (by omega)
  · have t5 : (1 : Int32).toInt = 1 := by decide
    have t6 : (0 : Int32).toInt = 0 := by decide
    exact zSome_17 k h _ ((1 : Int32)) ((0 : Int32)) rfl (by omega) (by omega) (by omega)
theorem zFrom {S : Nat × (Nat → Int32)} {d : Nat} {x : mX} {I0 : rI0} {J0 : rJ0} {t : Int32} {I : rI0} {J : rJ0} {Q : Int32 → rI0 → rJ0 → Prop} (h : CZ I0 J0 t I J) (k : ∀ r, (0 ≤ r.toInt) → Q r I J) : wcI S (d + 3) 18 [.ref 3] x I J Q := by
  have bh := h.bnd
  refine c18_3 ?_
  refine zLast (h) ?_
  intro r1
  have t1 : (0 : Int32).toInt = 0 := by decide
  have t2 := i_max (a := (0 : Int32)) (b := (r1)) (A := 0) (B := r1.toInt) t1 rfl
  refine ⟨fun q3 => ?_, fun q3 => ?_⟩
  · have c4 := i_lt q3
    have t5 : (600 : Int32).toInt = 600 := by decide
    have q_ := i_rng (I 4 3)
    refine zSome (h) ?_
    intro r2 g2a
    refine ⟨fun q6 => ?_, fun q6 => ?_⟩
    · have c7 := i_eq q6
      exact k _ (by omega)
    · have c8 := i_ne q6
      have t9 : (1 : Int32).toInt = 1 := by decide
      have t10 : ((I 4 3) + (1 : Int32)).toInt = (I 4 3).toInt + 1 := i_add rfl t9 (by omega)
      have t11 := i_max (a := (if (0 : Int32) < r1 then r1 else (0 : Int32))) (b := ((I 4 3) + (1 : Int32))) (A := (if (0 : Int32) < r1 then r1 else (0 : Int32)).toInt) (B := ((I 4 3).toInt + 1)) rfl t10
      exact k _ (by omega)
  · have c12 := i_nlt q3
    have t13 : (600 : Int32).toInt = 600 := by decide
    exact k _ (by omega)
theorem zLaw {S : Nat × (Nat → Int32)} {d : Nat} {x : mX} {I : rI0} {J : rJ0} {p1 : Int32} {p2 : Int32} {Q : Int32 → rI0 → rJ0 → Prop} (k : ∀ r, Q r I J) : wcI S (d + 0) 104 [.ref 0, .int p1, .int p2] x I J Q := by
  refine c104_0 ?_
  refine ⟨fun q1 => ?_, fun q1 => ?_⟩
  · have c2 := i_lt q1
    have t3 : (0 : Int32).toInt = 0 := by decide
    exact k _
  · have c4 := i_nlt q1
    have t5 : (0 : Int32).toInt = 0 := by decide
    refine ⟨fun q6 => ?_, fun q6 => ?_⟩
    · have c7 := i_lt q6
      have t8 : (6 : Int32).toInt = 6 := by decide
      refine ⟨fun q9 => ?_, fun q9 => ?_⟩
      · have c10 := i_lt q9
        exact k _
      · have c11 := i_nlt q9
        refine ⟨fun q12 => ?_, fun q12 => ?_⟩
        · have c13 := i_lt q12
          have t14 : (1 : Int32).toInt = 1 := by decide
          exact k _
        · have c15 := i_nlt q12
          have t16 : (1 : Int32).toInt = 1 := by decide
          have t17 : (2 : Int32).toInt = 2 := by decide
          have t18 : ((2 : Int32) * p1).toInt = 2 * p1.toInt := i_mul t17 rfl (by omega)
          have t19 : (((2 : Int32) * p1) + p2).toInt = (2 * p1.toInt) + p2.toInt := i_add t18 rfl (by omega)
          refine ⟨?_, ?_⟩
          · exact i_in (e := (((2 : Int32) * p1) + p2)) (A := ((2 * p1.toInt) + p2.toInt)) t19 (by omega)
          exact k _
    · have c21 := i_nlt q6
      have t22 : (6 : Int32).toInt = 6 := by decide
      exact k _
theorem zSees_86 {S : Nat × (Nat → Int32)} {d : Nat} {x : mX} {I0 : rI0} {J0 : rJ0} {t : Int32} {Q : Int32 → rI0 → rJ0 → Prop} (k : ∀ r I J, (CZ I0 J0 t I J) → Q r I J) : ∀ (l1 : Int32) (l2 : Int32) (l3 : Int32) (l4 : Int32) (l5 : Int32) (s0 : Int64) (I : rI0) (J : rJ0), (CZ I0 J0 t I J) → (0 ≤ l1.toInt) → (l1.toInt < 64) → (0 ≤ l3.toInt) → (l3.toInt < 6) → wp S (d + 24) 109 86 [some (.ref 0), some (.int l1), some (.int l2), some (.int l3), some (.int l4), some (.int l5), none, none] [.long s0] (wv x I J) (rI x Q) := by
  intro l1 l2 l3 l4 l5 s0 I J h e0 e1 e2 e3
  have bh := h.bnd
  refine v109_0_86 ?_
  have t1 : (64 : Int32).toInt = 64 := by decide
  have t2 : (l3 * (64 : Int32)).toInt = l3.toInt * 64 := i_mul rfl t1 (by omega)
  have t3 : ((l3 * (64 : Int32)) + l1).toInt = (l3.toInt * 64) + l1.toInt := i_add t2 rfl (by omega)
  refine ⟨?_, ?_⟩
  · exact i_in (e := ((l3 * (64 : Int32)) + l1)) (A := ((l3.toInt * 64) + l1.toInt)) t3 (by omega)
  refine zBits  ?_
  intro r1 g1a
  exact k _ _ _ (h)
theorem zSees {S : Nat × (Nat → Int32)} {d : Nat} {x : mX} {I0 : rI0} {J0 : rJ0} {t : Int32} {I : rI0} {J : rJ0} {p1 : Int32} {p2 : Int32} {p3 : Int32} {p4 : Int32} {Q : Int32 → rI0 → rJ0 → Prop} (h : CZ I0 J0 t I J) (k : ∀ r I J, (CZ I0 J0 t I J) → Q r I J) : wcI S (d + 24) 109 [.ref 0, .int p1, .int p2, .int p3, .int p4] x I J Q := by
  have bh := h.bnd
  refine c109_0 ?_
  refine zSeat (h) ?_
  intro r1 g1a
  refine ⟨fun q1 => ?_, fun q1 => ?_⟩
  · have c2 := i_eq q1
    have t3 : (0 : Int32).toInt = 0 := by decide
    exact k _ _ _ (h)
  · have c4 := i_ne q1
    have t5 : (0 : Int32).toInt = 0 := by decide
    refine zMom  ?_
    intro r2 g2a
    refine ⟨fun q6 => ?_, fun q6 => ?_⟩
    · have c7 := i_eq q6
      exact k _ _ _ (h)
    · have c8 := i_ne q6
      refine ⟨fun q9 => ?_, fun q9 => ?_⟩
      · have c10 := i_lt q9
        exact k _ _ _ (h)
      · have c11 := i_nlt q9
        refine ⟨fun q12 => ?_, fun q12 => ?_⟩
        · have c13 := i_lt q12
          have t14 : (6 : Int32).toInt = 6 := by decide
          refine ⟨fun q15 => ?_, fun q15 => ?_⟩
          · have c16 := i_lt q15
            have t17 : (1 : Int32).toInt = 1 := by decide
            exact k _ _ _ (h)
          · have c18 := i_nlt q15
            have t19 : (1 : Int32).toInt = 1 := by decide
            refine ⟨fun q20 => ?_, fun q20 => ?_⟩
            · have c21 := i_lt q20
              have t22 : (2 : Int32).toInt = 2 := by decide
              exact k _ _ _ (h)
            · have c23 := i_nlt q20
              have t24 : (2 : Int32).toInt = 2 := by decide
              refine zReach (h) ?_
              intro r3 I3 J3 h3 g3a
              have bh3 := h3.bnd
              refine ⟨fun q25 => ?_, fun q25 => ?_⟩
              · have c26 := i_eq q25
                refine ⟨?_, ?_⟩
                · exact i_in (e := (r3)) (A := r3.toInt) rfl (by omega)
                exact zSees_86 k p1 p2 p3 p4 r3 (J3 32 r3.toNatClampNeg) I3 J3 (h3) (by omega) (by omega) (by omega) (by omega)
              · have c28 := i_ne q25
                refine ⟨?_, ?_⟩
                · exact i_in (e := (r3)) (A := r3.toInt) rfl (by omega)
                exact zSees_86 k p1 p2 p3 p4 r3 (J3 33 r3.toNatClampNeg) I3 J3 (h3) (by omega) (by omega) (by omega) (by omega)
        · have c30 := i_nlt q12
          have t31 : (6 : Int32).toInt = 6 := by decide
          exact k _ _ _ (h)
theorem zAt {S : Nat × (Nat → Int32)} {d : Nat} {x : mX} {I0 : rI0} {J0 : rJ0} {t : Int32} {I : rI0} {J : rJ0} {p1 : Int32} {p2 : Int32} {p3 : Int32} {Q : Int32 → rI0 → rJ0 → Prop} (h : CZ I0 J0 t I J) (k : ∀ r I J, (CZ I0 J0 t I J) → Q r I J) : wcI S (d + 24) 110 [.ref 0, .int p1, .int p2, .int p3] x I J Q := by
  have bh := h.bnd
  refine c110_0 ?_
  refine zSeat (h) ?_
  intro r1 g1a
  refine ⟨fun q1 => ?_, fun q1 => ?_⟩
  · have c2 := i_eq q1
    have t3 : (0 : Int32).toInt = 0 := by decide
    exact k _ _ _ (h)
  · have c4 := i_ne q1
    have t5 : (0 : Int32).toInt = 0 := by decide
    refine zMom  ?_
    intro r2 g2a
    refine ⟨fun q6 => ?_, fun q6 => ?_⟩
    · have c7 := i_eq q6
      exact k _ _ _ (h)
    · have c8 := i_ne q6
      refine ⟨fun q9 => ?_, fun q9 => ?_⟩
      · have c10 := i_lt q9
        exact k _ _ _ (h)
      · have c11 := i_nlt q9
        refine ⟨fun q12 => ?_, fun q12 => ?_⟩
        · have c13 := i_lt q12
          have t14 : (1 : Int32).toInt = 1 := by decide
          exact k _ _ _ (h)
        · have c15 := i_nlt q12
          have t16 : (1 : Int32).toInt = 1 := by decide
          refine zReach (h) ?_
          intro r3 I3 J3 h3 g3a
          have bh3 := h3.bnd
          refine ⟨fun q17 => ?_, fun q17 => ?_⟩
          · have c18 := i_eq q17
            refine ⟨?_, ?_⟩
            · exact i_in (e := (r3)) (A := r3.toInt) rfl (by omega)
            refine zBit  ?_
            intro r4
            refine ⟨?_, ?_⟩
            · exact i_in (e := (r3)) (A := r3.toInt) rfl (by omega)
            refine zBit  ?_
            intro r5
            exact k _ _ _ (h3)
          · have c21 := i_ne q17
            refine ⟨?_, ?_⟩
            · exact i_in (e := (r3)) (A := r3.toInt) rfl (by omega)
            refine zBit  ?_
            intro r6
            refine ⟨?_, ?_⟩
            · exact i_in (e := (r3)) (A := r3.toInt) rfl (by omega)
            refine zBit  ?_
            intro r7
            exact k _ _ _ (h3)
theorem zWould {S : Nat × (Nat → Int32)} {d : Nat} {x : mX} {I0 : rI0} {J0 : rJ0} {t : Int32} {I : rI0} {J : rJ0} {p1 : Int32} {p2 : Int32} {p3 : Int32} {Q : Int32 → rI0 → rJ0 → Prop} (h : CZ I0 J0 t I J) (k : ∀ r I J, (CZ I0 J0 t I J) → Q r I J) : wcI S (d + 24) 112 [.ref 0, .int p1, .int p2, .int p3] x I J Q := by
  have bh := h.bnd
  refine c112_0 ?_
  refine zSeat (h) ?_
  intro r1 g1a
  refine ⟨fun q1 => ?_, fun q1 => ?_⟩
  · have c2 := i_eq q1
    have t3 : (0 : Int32).toInt = 0 := by decide
    exact k _ _ _ (h)
  · have c4 := i_ne q1
    have t5 : (0 : Int32).toInt = 0 := by decide
    refine zMom  ?_
    intro r2 g2a
    refine ⟨fun q6 => ?_, fun q6 => ?_⟩
    · have c7 := i_eq q6
      exact k _ _ _ (h)
    · have c8 := i_ne q6
      refine ⟨fun q9 => ?_, fun q9 => ?_⟩
      · have c10 := i_lt q9
        exact k _ _ _ (h)
      · have c11 := i_nlt q9
        refine ⟨fun q12 => ?_, fun q12 => ?_⟩
        · have c13 := i_lt q12
          have t14 : (1 : Int32).toInt = 1 := by decide
          exact k _ _ _ (h)
        · have c15 := i_nlt q12
          have t16 : (1 : Int32).toInt = 1 := by decide
          refine ⟨?_, ?_⟩
          · exact i_in (e := (p1)) (A := p1.toInt) rfl (by omega)
          have t18 : (2 : Int32).toInt = 2 := by decide
          have t19 : ((2 : Int32) * (I 5 p1.toNatClampNeg)).toInt = 2 * (I 5 p1.toNatClampNeg).toInt := i_mul t18 rfl (by omega)
          have t20 : (((2 : Int32) * (I 5 p1.toNatClampNeg)) + p3).toInt = (2 * (I 5 p1.toNatClampNeg).toInt) + p3.toInt := i_add t19 rfl (by omega)
          refine ⟨?_, ?_⟩
          · exact i_in (e := (((2 : Int32) * (I 5 p1.toNatClampNeg)) + p3)) (A := ((2 * (I 5 p1.toNatClampNeg).toInt) + p3.toInt)) t20 (by omega)
          refine ⟨fun q22 => ?_, fun q22 => ?_⟩
          · have c23 := i_eq q22
            have t24 : (-1 : Int32).toInt = -1 := by decide
            exact k _ _ _ (h)
          · have c25 := i_ne q22
            have t26 : (-1 : Int32).toInt = -1 := by decide
            refine zReach (h) ?_
            intro r3 I3 J3 h3 g3a
            have bh3 := h3.bnd
            refine zBeAs (h3) (by omega) ?_
            intro I4 J4 h4
            have bh4 := h4.bnd
            refine zDoes (by omega) ?_
            intro r5 g5a
            refine ⟨fun q27 => ?_, fun q27 => ?_⟩
            · have c28 := i_eq q27
              exact k _ _ _ (h4)
            · have c29 := i_ne q27
              exact k _ _ _ (h4)
theorem zStands_18 {S : Nat × (Nat → Int32)} {d : Nat} {x : mX} {I0 : rI0} {J0 : rJ0} {t : Int32} {Q : Int32 → rI0 → rJ0 → Prop} (k : ∀ r I J, (CZ I0 J0 t I J) → Q r I J) : ∀ (n : Nat) (l1 : Int32) (l2 : Int32) (I : rI0) (J : rJ0), ((601 - l2.toInt).toNat = n) → (CZ I0 J0 t I J) → (0 ≤ l2.toInt) → (l2.toInt ≤ 601) → wp S (d + 24) 113 18 [some (.ref 0), some (.int l1), some (.int l2), none] [] (wv x I J) (rI x Q) := by
  refine lpn ?_
  intro n ih
  intro l1 l2 I J hm h e0 e1
  have bh := h.bnd
  refine v113_0_18 ?_
  refine ⟨fun q1 => ?_, fun q1 => ?_⟩
  · have c2 := i_lt q1
    have t3 : (600 : Int32).toInt = 600 := by decide
    exact k _ _ _ (h)
  · have c4 := i_nlt q1
    have t5 : (600 : Int32).toInt = 600 := by decide
    refine zReach (h) ?_
    intro r1 I1 J1 h1 g1a
    have bh1 := h1.bnd
    refine ⟨fun q6 => ?_, fun q6 => ?_⟩
    · have c7 := i_lt q6
      exact k _ _ _ (h1)
    · have c8 := i_nlt q6
      refine ⟨?_, ?_⟩
      · exact i_in (e := (r1)) (A := r1.toInt) rfl (by omega)
      refine zBit  ?_
      intro r2
      refine ⟨fun q10 => ?_, fun q10 => ?_⟩
      · have c11 := i_eq q10
        have t12 : (1 : Int32).toInt = 1 := by decide
        exact k _ _ _ (h1)
      · have c13 := i_ne q10
        have t14 : (1 : Int32).toInt = 1 := by decide
        have t15 : (l2 + (1 : Int32)).toInt = l2.toInt + 1 := i_add rfl t14 (by omega)
        exact ih _ (by omega) l1 (l2 + (1 : Int32)) I1 J1 rfl (h1) (by omega) (by omega)
theorem zStands {S : Nat × (Nat → Int32)} {d : Nat} {x : mX} {I0 : rI0} {J0 : rJ0} {t : Int32} {I : rI0} {J : rJ0} {p1 : Int32} {Q : Int32 → rI0 → rJ0 → Prop} (h : CZ I0 J0 t I J) (k : ∀ r I J, (CZ I0 J0 t I J) → Q r I J) : wcI S (d + 24) 113 [.ref 0, .int p1] x I J Q := by
  have bh := h.bnd
  refine c113_0 ?_
  refine zSeat (h) ?_
  intro r1 g1a
  refine ⟨fun q1 => ?_, fun q1 => ?_⟩
  · have c2 := i_eq q1
    have t3 : (0 : Int32).toInt = 0 := by decide
    exact k _ _ _ (h)
  · have c4 := i_ne q1
    have t5 : (0 : Int32).toInt = 0 := by decide
    exact zStands_18 k _ p1 ((0 : Int32)) I J rfl (h) (by omega) (by omega)
theorem zCalls_16 {S : Nat × (Nat → Int32)} {d : Nat} {x : mX} {I0 : rI0} {J0 : rJ0} {t : Int32} {Q : Int32 → rI0 → rJ0 → Prop} (k : ∀ r I J, (CZ I0 J0 t I J) → Q r I J) : ∀ (n : Nat) (l1 : Int32) (l2 : Int32) (l3 : Int32) (l4 : Int32) (I : rI0) (J : rJ0), ((l1.toInt - l4.toInt + 1).toNat = n) → (CZ I0 J0 t I J) → (l1.toInt ≤ 600) → (0 ≤ l4.toInt) → wp S (d + 24) 116 16 [some (.ref 0), some (.int l1), some (.int l2), some (.int l3), some (.int l4), none, none] [] (wv x I J) (rI x Q) := by
  refine lpn ?_
  intro n ih
  intro l1 l2 l3 l4 I J hm h e0 e1
  have bh := h.bnd
  refine v116_0_16 ?_
  refine ⟨fun q1 => ?_, fun q1 => ?_⟩
  · have c2 := i_lt q1
    exact k _ _ _ (h)
  · have c3 := i_nlt q1
    refine zReach (h) ?_
    intro r1 I1 J1 h1 g1a
    have bh1 := h1.bnd
    refine ⟨fun q4 => ?_, fun q4 => ?_⟩
    · have c5 := i_lt q4
      exact k _ _ _ (h1)
    · have c6 := i_nlt q4
      refine zUp (h1) ?_
      intro r2 g2a
      refine ⟨fun q7 => ?_, fun q7 => ?_⟩
      · have c8 := i_eq q7
        have t9 : (0 : Int32).toInt = 0 := by decide
        have t10 : (1 : Int32).toInt = 1 := by decide
        have t11 : (l4 + (1 : Int32)).toInt = l4.toInt + 1 := i_add rfl t10 (by omega)
        exact ih _ (by omega) l1 l2 r2 (l4 + (1 : Int32)) I1 J1 rfl (h1) (by omega) (by omega)
      · have c12 := i_ne q7
        have t13 : (0 : Int32).toInt = 0 := by decide
        refine ⟨fun q14 => ?_, fun q14 => ?_⟩
        · have c15 := i_eq q14
          have t16 : (1 : Int32).toInt = 1 := by decide
          have t17 : (l4 + (1 : Int32)).toInt = l4.toInt + 1 := i_add rfl t16 (by omega)
          exact ih _ (by omega) l1 (l2 + (1 : Int32)) r2 (l4 + (1 : Int32)) I1 J1 rfl (h1) (by omega) (by omega)
        · have c18 := i_ne q14
          have t19 : (1 : Int32).toInt = 1 := by decide
          have t20 : (l4 + (1 : Int32)).toInt = l4.toInt + 1 := i_add rfl t19 (by omega)
          exact ih _ (by omega) l1 l2 r2 (l4 + (1 : Int32)) I1 J1 rfl (h1) (by omega) (by omega)
theorem zCalls {S : Nat × (Nat → Int32)} {d : Nat} {x : mX} {I0 : rI0} {J0 : rJ0} {t : Int32} {I : rI0} {J : rJ0} {p1 : Int32} {Q : Int32 → rI0 → rJ0 → Prop} (h : CZ I0 J0 t I J) (k : ∀ r I J, (CZ I0 J0 t I J) → Q r I J) : wcI S (d + 24) 116 [.ref 0, .int p1] x I J Q := by
  have bh := h.bnd
  refine c116_0 ?_
  refine zMom  ?_
  intro r1 g1a
  refine ⟨fun q1 => ?_, fun q1 => ?_⟩
  · have c2 := i_eq q1
    have t3 : (0 : Int32).toInt = 0 := by decide
    exact k _ _ _ (h)
  · have c4 := i_ne q1
    have t5 : (0 : Int32).toInt = 0 := by decide
    exact zCalls_16 k _ p1 ((0 : Int32)) ((0 : Int32)) ((0 : Int32)) I J rfl (h) (by omega) (by omega)
theorem zAgain_19 {S : Nat × (Nat → Int32)} {d : Nat} {x : mX} {I0 : rI0} {J0 : rJ0} {t : Int32} {Q : Int32 → rI0 → rJ0 → Prop} (k : ∀ r I J, (CZ I0 J0 t I J) → Q r I J) : ∀ (n : Nat) (l1 : Int32) (l2 : Int32) (I : rI0) (J : rJ0), ((600 - l2.toInt).toNat = n) → (CZ I0 J0 t I J) → (0 ≤ l2.toInt) → wp S (d + 25) 117 19 [some (.ref 0), some (.int l1), some (.int l2), none] [] (wv x I J) (rI x Q) := by
  refine lpn ?_
  intro n ih
  intro l1 l2 I J hm h e0
  have bh := h.bnd
  refine v117_0_19 ?_
  refine ⟨fun q1 => ?_, fun q1 => ?_⟩
  · have c2 := i_lt q1
    have t3 : (600 : Int32).toInt = 600 := by decide
    refine zBehind (h) (by omega) ?_
    intro r1 I1 J1 h1
    have bh1 := h1.bnd
    refine ⟨fun q4 => ?_, fun q4 => ?_⟩
    · have c5 := i_eq q4
      have t6 : (-1 : Int32).toInt = -1 := by decide
      have t7 : (1 : Int32).toInt = 1 := by decide
      have t8 : (l2 + (1 : Int32)).toInt = l2.toInt + 1 := i_add rfl t7 (by omega)
      exact ih _ (by omega) l1 (l2 + (1 : Int32)) I1 J1 rfl (h1) (by omega)
    · have c9 := i_ne q4
      have t10 : (-1 : Int32).toInt = -1 := by decide
      refine ⟨fun q11 => ?_, fun q11 => ?_⟩
      · have c12 := i_eq q11
        have t13 : (0 : Int32).toInt = 0 := by decide
        exact k _ _ _ (h1)
      · have c14 := i_ne q11
        have t15 : (0 : Int32).toInt = 0 := by decide
        exact k _ _ _ (h1)
  · have c16 := i_nlt q1
    have t17 : (600 : Int32).toInt = 600 := by decide
    exact k _ _ _ (h)
theorem zAgain {S : Nat × (Nat → Int32)} {d : Nat} {x : mX} {I0 : rI0} {J0 : rJ0} {t : Int32} {I : rI0} {J : rJ0} {p1 : Int32} {Q : Int32 → rI0 → rJ0 → Prop} (h : CZ I0 J0 t I J) (k : ∀ r I J, (CZ I0 J0 t I J) → Q r I J) : wcI S (d + 25) 117 [.ref 0, .int p1] x I J Q := by
  have bh := h.bnd
  refine c117_0 ?_
  refine ⟨fun q1 => ?_, fun q1 => ?_⟩
  · have c2 := i_lt q1
    have t3 : (0 : Int32).toInt = 0 := by decide
    exact k _ _ _ (h)
  · have c4 := i_nlt q1
    have t5 : (0 : Int32).toInt = 0 := by decide
    refine ⟨fun q6 => ?_, fun q6 => ?_⟩
    · have c7 := i_lt q6
      have t8 : (1 : Int32).toInt = 1 := by decide
      exact k _ _ _ (h)
    · have c9 := i_nlt q6
      have t10 : (1 : Int32).toInt = 1 := by decide
      refine zFrom (h) ?_
      intro r1 g1a
      exact zAgain_19 k _ p1 r1 I J rfl (h) (by omega)
theorem zPair_21 {S : Nat × (Nat → Int32)} {d : Nat} {x : mX} {I0 : rI0} {J0 : rJ0} {t : Int32} {Q : Int32 → rI0 → rJ0 → Prop} {N10 : Nat} (k : ∀ r I J, (CZ I0 J0 t I J) → (r.toInt = -1 ∨ (0 ≤ r.toInt ∧ ((0 ≤ (r / (64 : Int32)).toInt ∧ (r / (64 : Int32)).toInt < 64 ∧ 0 ≤ (I 5 (r / (64 : Int32)).toNatClampNeg).toInt ∧ (I 5 (r / (64 : Int32)).toNatClampNeg).toInt ≤ 5) ∧ (0 ≤ (r - r / (64 : Int32) * (64 : Int32)).toInt ∧ (r - r / (64 : Int32) * (64 : Int32)).toInt < 64 ∧ 0 ≤ (I 5 (r - r / (64 : Int32) * (64 : Int32)).toNatClampNeg).toInt ∧ (I 5 (r - r / (64 : Int32) * (64 : Int32)).toNatClampNeg).toInt ≤ 5)))) → Q r I J) (K10 : ∀ (l1 : Int32) (l3 : Int32) (I : rI0) (J : rJ0), (CZ I0 J0 t I J) → ((64 - l3.toInt).toNat < N10) → (0 ≤ l3.toInt) → (l3.toInt ≤ 64) → wp S (d + 24) 97 10 [some (.ref 37), some (.int l1), some (.ref 4), some (.int l3), none, none] [] (wv x I J) (rI x Q)) : ∀ (n : Nat) (l1 : Int32) (l3 : Int32) (l4 : Int32) (I : rI0) (J : rJ0), ((64 - l4.toInt).toNat = n) → (CZ I0 J0 t I J) → (0 ≤ l3.toInt) → (l3.toInt < 64) → (0 ≤ l4.toInt) → (l4.toInt ≤ 64) → ((64 - l3.toInt).toNat ≤ N10) → wp S (d + 24) 97 21 [some (.ref 37), some (.int l1), some (.ref 4), some (.int l3), some (.int l4), none] [] (wv x I J) (rI x Q) := by
  refine lpn ?_
  intro n ih
  intro l1 l3 l4 I J hm h e0 e1 e2 e3 a0
  have bh := h.bnd
  refine v97_37_21 ?_
  refine ⟨fun q1 => ?_, fun q1 => ?_⟩
  · have c2 := i_lt q1
    have t3 : (64 : Int32).toInt = 64 := by decide
    refine zSeat (h) ?_
    intro r1 g1a
    refine ⟨fun q4 => ?_, fun q4 => ?_⟩
    · have c5 := i_eq q4
      have t6 : (0 : Int32).toInt = 0 := by decide
      have t7 : (1 : Int32).toInt = 1 := by decide
      have t8 : (l3 + (1 : Int32)).toInt = l3.toInt + 1 := i_add rfl t7 (by omega)
      exact K10 l1 (l3 + (1 : Int32)) I J (h) (by omega) (by omega) (by omega)
    · have c9 := i_ne q4
      have t10 : (0 : Int32).toInt = 0 := by decide
      refine zSeat (h) ?_
      intro r2 g2a
      refine ⟨fun q11 => ?_, fun q11 => ?_⟩
      · have c12 := i_eq q11
        have t13 : (1 : Int32).toInt = 1 := by decide
        have t14 : (l4 + (1 : Int32)).toInt = l4.toInt + 1 := i_add rfl t13 (by omega)
        exact ih _ (by omega) l1 l3 (l4 + (1 : Int32)) I J rfl (h) (by omega) (by omega) (by omega) (by omega) (by omega)
      · have c15 := i_ne q11
        refine ⟨?_, ?_⟩
        · exact i_in (e := (l3)) (A := l3.toInt) rfl (by omega)
        refine ⟨?_, ?_⟩
        · exact i_in (e := (l4)) (A := l4.toInt) rfl (by omega)
        refine ⟨fun q18 => ?_, fun q18 => ?_⟩
        · have c19 := i_eq q18
          have t20 : (1 : Int32).toInt = 1 := by decide
          have t21 : (l4 + (1 : Int32)).toInt = l4.toInt + 1 := i_add rfl t20 (by omega)
          exact ih _ (by omega) l1 l3 (l4 + (1 : Int32)) I J rfl (h) (by omega) (by omega) (by omega) (by omega) (by omega)
        · have c22 := i_ne q18
          refine zExch (h) (by omega) ?_
          intro I3 J3 h3 g3a g3b
          have bh3 := h3.bnd
          refine zHOf (h3) ?_
          intro r4 I4 J4 h4 g4a
          have bh4 := h4.bnd
          have e1' : I4 5 l3.toNatClampNeg = I 5 l4.toNatClampNeg := by rw [g4a, g3a]
          have e2' : I4 5 l4.toNatClampNeg = I 5 l3.toNatClampNeg := by rw [g4a, g3b]
          have e1 := congrArg Int32.toInt e1'
          have e2 := congrArg Int32.toInt e2'
          refine zExch (h4) (by omega) ?_
          intro I5 J5 h5 g5a g5b
          have bh5 := h5.bnd
          refine ⟨fun q23 => ?_, fun q23 => ?_⟩
          · have c24 := i_lt q23
            have pq := pr_div (a := l3) (b := l4) (by omega) (by omega)
            have f1 : (I5 5 l3.toNatClampNeg).toInt = (I 5 l3.toNatClampNeg).toInt := by rw [g5a, e2']
            have f2 : (I5 5 l4.toNatClampNeg).toInt = (I 5 l4.toNatClampNeg).toInt := by rw [g5b, e1']
            refine k _ _ _ (h5) (Or.inr ⟨pq.2.2, ?_⟩)
            rw [pq.2.1, pq.1]
            omega
          · have c25 := i_nlt q23
            have t26 : (1 : Int32).toInt = 1 := by decide
            have t27 : (l4 + (1 : Int32)).toInt = l4.toInt + 1 := i_add rfl t26 (by omega)
            exact ih _ (by omega) l1 l3 (l4 + (1 : Int32)) I5 J5 rfl (h5) (by omega) (by omega) (by omega) (by omega) (by omega)
  · have c28 := i_nlt q1
    have t29 : (64 : Int32).toInt = 64 := by decide
    have t30 : (1 : Int32).toInt = 1 := by decide
    have t31 : (l3 + (1 : Int32)).toInt = l3.toInt + 1 := i_add rfl t30 (by omega)
    exact K10 l1 (l3 + (1 : Int32)) I J (h) (by omega) (by omega) (by omega)
theorem zPair_10 {S : Nat × (Nat → Int32)} {d : Nat} {x : mX} {I0 : rI0} {J0 : rJ0} {t : Int32} {Q : Int32 → rI0 → rJ0 → Prop} (k : ∀ r I J, (CZ I0 J0 t I J) → (r.toInt = -1 ∨ (0 ≤ r.toInt ∧ ((0 ≤ (r / (64 : Int32)).toInt ∧ (r / (64 : Int32)).toInt < 64 ∧ 0 ≤ (I 5 (r / (64 : Int32)).toNatClampNeg).toInt ∧ (I 5 (r / (64 : Int32)).toNatClampNeg).toInt ≤ 5) ∧ (0 ≤ (r - r / (64 : Int32) * (64 : Int32)).toInt ∧ (r - r / (64 : Int32) * (64 : Int32)).toInt < 64 ∧ 0 ≤ (I 5 (r - r / (64 : Int32) * (64 : Int32)).toNatClampNeg).toInt ∧ (I 5 (r - r / (64 : Int32) * (64 : Int32)).toNatClampNeg).toInt ≤ 5)))) → Q r I J) : ∀ (n : Nat) (l1 : Int32) (l3 : Int32) (I : rI0) (J : rJ0), ((64 - l3.toInt).toNat = n) → (CZ I0 J0 t I J) → (0 ≤ l3.toInt) → (l3.toInt ≤ 64) → wp S (d + 24) 97 10 [some (.ref 37), some (.int l1), some (.ref 4), some (.int l3), none, none] [] (wv x I J) (rI x Q) := by
  refine lpn ?_
  intro n ih
  intro l1 l3 I J hm h e0 e1
  have bh := h.bnd
  refine v97_37_10 ?_
  refine ⟨fun q1 => ?_, fun q1 => ?_⟩
  · have c2 := i_lt q1
    have t3 : (64 : Int32).toInt = 64 := by decide
    have t4 : (1 : Int32).toInt = 1 := by decide
    have t5 : (l3 + (1 : Int32)).toInt = l3.toInt + 1 := i_add rfl t4 (by omega)
    exact zPair_21 k (fun l1_ l3_ I_ J_ h_ hlt f0_ f1_ => ih _ hlt l1_ l3_ I_ J_ rfl h_ f0_ f1_) _ l1 l3 (l3 + (1 : Int32)) I J rfl (h) (by omega) (by omega) (by omega) (by omega) (by omega)
  · have c6 := i_nlt q1
    have t7 : (64 : Int32).toInt = 64 := by decide
    exact k _ _ _ (h) (Or.inl (by decide))
theorem zPair {S : Nat × (Nat → Int32)} {d : Nat} {x : mX} {I0 : rI0} {J0 : rJ0} {t : Int32} {I : rI0} {J : rJ0} {p1 : Int32} {Q : Int32 → rI0 → rJ0 → Prop} (h : CZ I0 J0 t I J) (k : ∀ r I J, (CZ I0 J0 t I J) → (r.toInt = -1 ∨ (0 ≤ r.toInt ∧ ((0 ≤ (r / (64 : Int32)).toInt ∧ (r / (64 : Int32)).toInt < 64 ∧ 0 ≤ (I 5 (r / (64 : Int32)).toNatClampNeg).toInt ∧ (I 5 (r / (64 : Int32)).toNatClampNeg).toInt ≤ 5) ∧ (0 ≤ (r - r / (64 : Int32) * (64 : Int32)).toInt ∧ (r - r / (64 : Int32) * (64 : Int32)).toInt < 64 ∧ 0 ≤ (I 5 (r - r / (64 : Int32) * (64 : Int32)).toNatClampNeg).toInt ∧ (I 5 (r - r / (64 : Int32) * (64 : Int32)).toNatClampNeg).toInt ≤ 5)))) → Q r I J) : wcI S (d + 24) 97 [.ref 37, .int p1] x I J Q := by
  have bh := h.bnd
  refine c97_37 ?_
  have t1 : (0 : Int32).toInt = 0 := by decide
  exact zPair_10 k _ p1 ((0 : Int32)) I J rfl (h) (by omega) (by omega)
theorem zParts2 {S : Nat × (Nat → Int32)} {d : Nat} {x : mX} {I0 : rI0} {J0 : rJ0} {t : Int32} {I : rI0} {J : rJ0} {p1 : Int32} {p2 : Int32} {Q : Int32 → rI0 → rJ0 → Prop} (h : CZ I0 J0 t I J) (k : ∀ r I J, (CZ I0 J0 t I J) → Q r I J) : wcI S (d + 25) 129 [.ref 0, .int p1, .int p2] x I J Q := by
  have bh := h.bnd
  refine c129_0 ?_
  refine zSeat (h) ?_
  intro r1 g1a
  refine ⟨fun q1 => ?_, fun q1 => ?_⟩
  · have c2 := i_eq q1
    have t3 : (0 : Int32).toInt = 0 := by decide
    exact k _ _ _ (h)
  · have c4 := i_ne q1
    have t5 : (0 : Int32).toInt = 0 := by decide
    refine zSeat (h) ?_
    intro r2 g2a
    refine ⟨fun q6 => ?_, fun q6 => ?_⟩
    · have c7 := i_eq q6
      exact k _ _ _ (h)
    · have c8 := i_ne q6
      refine zParts (h) ?_
      intro r3 I3 J3 h3
      have bh3 := h3.bnd
      exact k _ _ _ (h3)
theorem zExd {S : Nat × (Nat → Int32)} {d : Nat} {x : mX} {I0 : rI0} {J0 : rJ0} {t : Int32} {I : rI0} {J : rJ0} {Q : Int32 → rI0 → rJ0 → Prop} (h : CZ I0 J0 t I J) (k : ∀ r I J, (CZ I0 J0 t I J) → Q r I J) : wcI S (d + 25) 130 [.ref 0] x I J Q := by
  have bh := h.bnd
  refine c130_0 ?_
  refine zLarge  ?_
  intro r1
  refine ⟨fun q1 => ?_, fun q1 => ?_⟩
  · have c2 := i_eq q1
    have t3 : (0 : Int32).toInt = 0 := by decide
    refine zHeight (h) ?_
    intro r2 I2 J2 h2
    have bh2 := h2.bnd
    refine ⟨fun q4 => ?_, fun q4 => ?_⟩
    · have c5 := i_lt q4
      refine zPair (h2) ?_
      intro r3 I3 J3 h3 g3a
      have bh3 := h3.bnd
      refine ⟨fun q6 => ?_, fun q6 => ?_⟩
      · have c7 := i_eq q6
        have t8 : (-1 : Int32).toInt = -1 := by decide
        exact k _ _ _ (h3)
      · have c9 := i_ne q6
        have t10 : (-1 : Int32).toInt = -1 := by decide
        have t11 : (64 : Int32).toInt = 64 := by decide
        refine ⟨?_, ?_⟩
        · exact i_n0 (e := (64 : Int32)) (A := 64) t11 (by omega)
        refine ⟨?_, ?_⟩
        · exact i_n0 (e := (64 : Int32)) (A := 64) t11 (by omega)
        exact k _ _ _ (h3)
    · have c12 := i_nlt q4
      exact k _ _ _ (h2)
  · have c13 := i_ne q1
    have t14 : (0 : Int32).toInt = 0 := by decide
    exact k _ _ _ (h)
theorem zExg {S : Nat × (Nat → Int32)} {d : Nat} {x : mX} {I0 : rI0} {J0 : rJ0} {t : Int32} {I : rI0} {J : rJ0} {p1 : Int32} {p2 : Int32} {Q : Int32 → rI0 → rJ0 → Prop} (h : CZ I0 J0 t I J) (k : ∀ r I J, (CZ I0 J0 t I J) → Q r I J) : wcI S (d + 3) 131 [.ref 0, .int p1, .int p2] x I J Q := by
  have bh := h.bnd
  refine c131_0 ?_
  refine zSeat (h) ?_
  intro r1 g1a
  refine ⟨fun q1 => ?_, fun q1 => ?_⟩
  · have c2 := i_eq q1
    have t3 : (0 : Int32).toInt = 0 := by decide
    exact k _ _ _ (h)
  · have c4 := i_ne q1
    have t5 : (0 : Int32).toInt = 0 := by decide
    refine zSeat (h) ?_
    intro r2 g2a
    refine ⟨fun q6 => ?_, fun q6 => ?_⟩
    · have c7 := i_eq q6
      exact k _ _ _ (h)
    · have c8 := i_ne q6
      refine ⟨fun q9 => ?_, fun q9 => ?_⟩
      · have c10 := i_eq q9
        exact k _ _ _ (h)
      · have c11 := i_ne q9
        refine zExch (h) (by omega) ?_
        intro I3 J3 h3 g3a g3b
        have bh3 := h3.bnd
        refine zForget (h3) ?_
        intro I4 J4 h4
        have bh4 := h4.bnd
        exact k _ _ _ (h4)
theorem zStarts {S : Nat × (Nat → Int32)} {d : Nat} {x : mX} {I0 : rI0} {J0 : rJ0} {t : Int32} {I : rI0} {J : rJ0} {p1 : Int32} {Q : Int32 → rI0 → rJ0 → Prop} (h : CZ I0 J0 t I J) (k : ∀ r I J, (CZ I0 J0 t I J) → Q r I J) : wcI S (d + 24) 132 [.ref 0, .int p1] x I J Q := by
  have bh := h.bnd
  refine c132_0 ?_
  refine zSeat (h) ?_
  intro r1 g1a
  refine ⟨fun q1 => ?_, fun q1 => ?_⟩
  · have c2 := i_eq q1
    have t3 : (0 : Int32).toInt = 0 := by decide
    exact k _ _ _ (h)
  · have c4 := i_ne q1
    have t5 : (0 : Int32).toInt = 0 := by decide
    refine zHOf (h) ?_
    intro r2 I2 J2 h2 g2a
    have bh2 := h2.bnd
    exact k _ _ _ (h2)
theorem zLeader_18 {S : Nat × (Nat → Int32)} {d : Nat} {x : mX} {I0 : rI0} {J0 : rJ0} {t : Int32} {Q : Int32 → rI0 → rJ0 → Prop} (k : ∀ r I J, (CZ I0 J0 t I J) → Q r I J) : ∀ (n : Nat) (l1 : Int32) (l2 : Int32) (l3 : Int32) (l4 : Int32) (I : rI0) (J : rJ0), ((64 - l4.toInt).toNat = n) → (CZ I0 J0 t I J) → (0 ≤ l4.toInt) → (l4.toInt ≤ 64) → wp S (d + 25) 133 18 [some (.ref 0), some (.int l1), some (.int l2), some (.int l3), some (.int l4), none] [] (wv x I J) (rI x Q) := by
  refine lpn ?_
  intro n ih
  intro l1 l2 l3 l4 I J hm h e0 e1
  have bh := h.bnd
  refine v133_0_18 ?_
  refine ⟨fun q1 => ?_, fun q1 => ?_⟩
  · have c2 := i_lt q1
    have t3 : (64 : Int32).toInt = 64 := by decide
    refine zStarts (h) ?_
    intro r1 I1 J1 h1
    have bh1 := h1.bnd
    refine ⟨fun q4 => ?_, fun q4 => ?_⟩
    · have c5 := i_lt q4
      have t6 : (1 : Int32).toInt = 1 := by decide
      have t7 : (l4 + (1 : Int32)).toInt = l4.toInt + 1 := i_add rfl t6 (by omega)
      exact ih _ (by omega) l1 l4 r1 (l4 + (1 : Int32)) I1 J1 rfl (h1) (by omega) (by omega)
    · have c8 := i_nlt q4
      refine ⟨fun q9 => ?_, fun q9 => ?_⟩
      · have c10 := i_eq q9
        have t11 : (-1 : Int32).toInt = -1 := by decide
        have t12 : (1 : Int32).toInt = 1 := by decide
        have t13 : (l4 + (1 : Int32)).toInt = l4.toInt + 1 := i_add rfl t12 (by omega)
        exact ih _ (by omega) l1 l2 l3 (l4 + (1 : Int32)) I1 J1 rfl (h1) (by omega) (by omega)
      · have c14 := i_ne q9
        have t15 : (-1 : Int32).toInt = -1 := by decide
        refine ⟨fun q16 => ?_, fun q16 => ?_⟩
        · have c17 := i_eq q16
          refine zPrice (h1) ?_
          intro r2
          refine zPrice (h1) ?_
          intro r3
          refine ⟨fun q18 => ?_, fun q18 => ?_⟩
          · have c19 := i_lt q18
            have t20 : (1 : Int32).toInt = 1 := by decide
            have t21 : (l4 + (1 : Int32)).toInt = l4.toInt + 1 := i_add rfl t20 (by omega)
            exact ih _ (by omega) l1 l4 r1 (l4 + (1 : Int32)) I1 J1 rfl (h1) (by omega) (by omega)
          · have c22 := i_nlt q18
            have t23 : (1 : Int32).toInt = 1 := by decide
            have t24 : (l4 + (1 : Int32)).toInt = l4.toInt + 1 := i_add rfl t23 (by omega)
            exact ih _ (by omega) l1 l2 l3 (l4 + (1 : Int32)) I1 J1 rfl (h1) (by omega) (by omega)
        · have c25 := i_ne q16
          have t26 : (1 : Int32).toInt = 1 := by decide
          have t27 : (l4 + (1 : Int32)).toInt = l4.toInt + 1 := i_add rfl t26 (by omega)
          exact ih _ (by omega) l1 l2 l3 (l4 + (1 : Int32)) I1 J1 rfl (h1) (by omega) (by omega)
  · have c28 := i_nlt q1
    have t29 : (64 : Int32).toInt = 64 := by decide
    refine ⟨fun q30 => ?_, fun q30 => ?_⟩
    · have c31 := i_eq q30
      have t32 : (0 : Int32).toInt = 0 := by decide
      exact k _ _ _ (h)
    · have c33 := i_ne q30
      have t34 : (0 : Int32).toInt = 0 := by decide
      exact k _ _ _ (h)
theorem zLeader {S : Nat × (Nat → Int32)} {d : Nat} {x : mX} {I0 : rI0} {J0 : rJ0} {t : Int32} {I : rI0} {J : rJ0} {p1 : Int32} {Q : Int32 → rI0 → rJ0 → Prop} (h : CZ I0 J0 t I J) (k : ∀ r I J, (CZ I0 J0 t I J) → Q r I J) : wcI S (d + 25) 133 [.ref 0, .int p1] x I J Q := by
  have bh := h.bnd
  refine c133_0 ?_
  refine ⟨fun q1 => ?_, fun q1 => ?_⟩
  · have c2 := i_lt q1
    have t3 : (0 : Int32).toInt = 0 := by decide
    exact k _ _ _ (h)
  · have c4 := i_nlt q1
    have t5 : (0 : Int32).toInt = 0 := by decide
    refine ⟨fun q6 => ?_, fun q6 => ?_⟩
    · have c7 := i_lt q6
      have t8 : (1 : Int32).toInt = 1 := by decide
      exact k _ _ _ (h)
    · have c9 := i_nlt q6
      have t10 : (1 : Int32).toInt = 1 := by decide
      exact zLeader_18 k _ p1 ((-1 : Int32)) ((-1 : Int32)) ((0 : Int32)) I J rfl (h) (by omega) (by omega)
theorem zNth_5 {S : Nat × (Nat → Int32)} {d : Nat} {x : mX} {I : rI0} {J : rJ0} {Q : Int64 → rI0 → rJ0 → Prop} (k : ∀ r, Q r I J) : ∀ (n : Nat) (l0 : Int64) (l2 : Int32) (l3 : Int32) (l4 : Int32), ((64 - l4.toInt).toNat = n) → (0 ≤ l4.toInt) → (l4.toInt ≤ 64) → wp S (d + 1) 144 5 [some (.long l0), none, some (.int l2), some (.int l3), some (.int l4)] [] (wv x I J) (rJ x Q) := by
  refine lpn ?_
  intro n ih
  intro l0 l2 l3 l4 hm e0 e1
  refine v144_5 ?_
  refine ⟨fun q1 => ?_, fun q1 => ?_⟩
  · have c2 := i_lt q1
    have t3 : (64 : Int32).toInt = 64 := by decide
    refine zBit  ?_
    intro r1
    refine ⟨fun q4 => ?_, fun q4 => ?_⟩
    · have c5 := i_eq q4
      have t6 : (1 : Int32).toInt = 1 := by decide
      refine ⟨fun q7 => ?_, fun q7 => ?_⟩
      · exact k _
      · have t10 : (l4 + (1 : Int32)).toInt = l4.toInt + 1 := i_add rfl t6 (by omega)
        exact ih _ (by omega) l0 l2 (l3 + (1 : Int32)) (l4 + (1 : Int32)) rfl (by omega) (by omega)
    · have c11 := i_ne q4
      have t12 : (1 : Int32).toInt = 1 := by decide
      have t13 : (l4 + (1 : Int32)).toInt = l4.toInt + 1 := i_add rfl t12 (by omega)
      exact ih _ (by omega) l0 l2 l3 (l4 + (1 : Int32)) rfl (by omega) (by omega)
  · have c14 := i_nlt q1
    have t15 : (64 : Int32).toInt = 64 := by decide
    exact k _
theorem zNth {S : Nat × (Nat → Int32)} {d : Nat} {x : mX} {I : rI0} {J : rJ0} {p0 : Int64} {p1 : Int32} {Q : Int64 → rI0 → rJ0 → Prop} (k : ∀ r, Q r I J) : wcJ S (d + 1) 144 [.long p0, .int p1] x I J Q := by
  refine c144 ?_
  have t1 : (0 : Int32).toInt = 0 := by decide
  exact zNth_5 k _ p0 p1 ((0 : Int32)) ((0 : Int32)) rfl (by omega) (by omega)
theorem zDrawn_91 {S : Nat × (Nat → Int32)} {d : Nat} {x : mX} {I0 : rI0} {J0 : rJ0} {t : Int32} {Q : Int32 → rI0 → rJ0 → Prop} (k : ∀ r I J, (CZ I0 J0 t I J) → Q r I J) : ∀ (l1 : Int32) (l2 : Int32) (l3 : Int32) (l4 : Int64) (l6 : Int32) (l7 : Int32) (I : rI0) (J : rJ0), (CZ I0 J0 t I J) → wp S (d + 2) 134 91 [some (.ref 0), some (.int l1), some (.int l2), some (.int l3), some (.long l4), none, some (.int l6), some (.int l7)] [] (wv x I J) (rI x Q) := by
  intro l1 l2 l3 l4 l6 l7 I J h
  have bh := h.bnd
  refine v134_0_91 ?_
  refine zForget (CZ.sj (n := 3) (k := 5) (h) (by omega)) ?_
  intro I1 J1 h1
  have bh1 := h1.bnd
  exact k _ _ _ (h1)
theorem zDrawn_44 {S : Nat × (Nat → Int32)} {d : Nat} {x : mX} {I0 : rI0} {J0 : rJ0} {t : Int32} {Q : Int32 → rI0 → rJ0 → Prop} (k : ∀ r I J, (CZ I0 J0 t I J) → Q r I J) : ∀ (n : Nat) (l1 : Int32) (l2 : Int32) (l3 : Int32) (l4 : Int64) (l6 : Int32) (l7 : Int32) (I : rI0) (J : rJ0), ((l1.toInt - l7.toInt).toNat = n) → (CZ I0 J0 t I J) → (0 ≤ l7.toInt) → (l7.toInt ≤ l1.toInt) → (l1.toInt ≤ l3.toInt) → (l3.toInt < 2147483648) → wp S (d + 2) 134 44 [some (.ref 0), some (.int l1), some (.int l2), some (.int l3), some (.long l4), none, some (.int l6), some (.int l7)] [] (wv x I J) (rI x Q) := by
  refine lpn ?_
  intro n ih
  intro l1 l2 l3 l4 l6 l7 I J hm h e0 e1 e2 e3
  have bh := h.bnd
  refine v134_0_44 ?_
  refine ⟨fun q1 => ?_, fun q1 => ?_⟩
  · have c2 := i_lt q1
    refine ⟨fun q3 => ?_, fun q3 => ?_⟩
    · have c4 := i_lt q3
      have t5 : (l3 - l7).toInt = l3.toInt - l7.toInt := i_sub rfl rfl (by omega)
      refine ⟨?_, ?_⟩
      · exact i_n0 (e := (l3 - l7)) (A := (l3.toInt - l7.toInt)) t5 (by omega)
      refine zNth  ?_
      intro r1
      have t6 : (1 : Int32).toInt = 1 := by decide
      have t7 : (l7 + (1 : Int32)).toInt = l7.toInt + 1 := i_add rfl t6 (by omega)
      exact ih _ (by omega) l1 l2 l3 r1 ((l6 * (1103515245 : Int32)) + (12345 : Int32)) (l7 + (1 : Int32)) I J rfl (h) (by omega) (by omega) (by omega) (by omega)
    · have c8 := i_nlt q3
      exact zDrawn_91 k l1 l2 l3 l4 l6 l7 I J (h)
  · have c9 := i_nlt q1
    exact zDrawn_91 k l1 l2 l3 l4 l6 l7 I J (h)
theorem zDrawn {S : Nat × (Nat → Int32)} {d : Nat} {x : mX} {I0 : rI0} {J0 : rJ0} {t : Int32} {I : rI0} {J : rJ0} {p1 : Int32} {p2 : Int32} {Q : Int32 → rI0 → rJ0 → Prop} (h : CZ I0 J0 t I J) (k : ∀ r I J, (CZ I0 J0 t I J) → Q r I J) : wcI S (d + 2) 134 [.ref 0, .int p1, .int p2] x I J Q := by
  have bh := h.bnd
  refine c134_0 ?_
  refine zBits  ?_
  intro r1 g1a
  refine ⟨fun q1 => ?_, fun q1 => ?_⟩
  · have c2 := i_lt q1
    have t3 : (1 : Int32).toInt = 1 := by decide
    exact k _ _ _ (h)
  · have c4 := i_nlt q1
    have t5 : (1 : Int32).toInt = 1 := by decide
    refine ⟨fun q6 => ?_, fun q6 => ?_⟩
    · have c7 := i_lt q6
      exact k _ _ _ (h)
    · have c8 := i_nlt q6
      have t9 : (0 : Int32).toInt = 0 := by decide
      exact zDrawn_44 k _ p1 p2 r1 (J 4 5) p2 ((0 : Int32)) I J rfl (h) (by omega) (by omega) (by omega) (by omega)
theorem zArrange_19 {S : Nat × (Nat → Int32)} {d : Nat} {x : mX} {I0 : rI0} {J0 : rJ0} {t : Int32} {Q : Int32 → rI0 → rJ0 → Prop} (k : ∀ r I J, (CZ I0 J0 t I J) → Q r I J) : ∀ (n : Nat) (l1 : Int32) (l2 : Int32) (I : rI0) (J : rJ0), ((20 - l2.toInt).toNat = n) → (CZ I0 J0 t I J) → (0 ≤ l2.toInt) → (l2.toInt ≤ 20) → wp S (d + 25) 135 19 [some (.ref 0), some (.int l1), some (.int l2), none] [] (wv x I J) (rI x Q) := by
  refine lpn ?_
  intro n ih
  intro l1 l2 I J hm h e0 e1
  have bh := h.bnd
  refine v135_0_19 ?_
  refine ⟨fun q1 => ?_, fun q1 => ?_⟩
  · have c2 := i_lt q1
    have t3 : (20 : Int32).toInt = 20 := by decide
    refine zPair (h) ?_
    intro r1 I1 J1 h1 g1a
    have bh1 := h1.bnd
    refine ⟨fun q4 => ?_, fun q4 => ?_⟩
    · have c5 := i_eq q4
      have t6 : (-1 : Int32).toInt = -1 := by decide
      refine zForget (CZ.si (n := 0) (k := 10) (h1) (by omega)) ?_
      intro I2 J2 h2
      have bh2 := h2.bnd
      exact k _ _ _ (h2)
    · have c7 := i_ne q4
      have t8 : (-1 : Int32).toInt = -1 := by decide
      have t9 : (64 : Int32).toInt = 64 := by decide
      refine ⟨?_, ?_⟩
      · exact i_n0 (e := (64 : Int32)) (A := 64) t9 (by omega)
      refine ⟨?_, ?_⟩
      · exact i_n0 (e := (64 : Int32)) (A := 64) t9 (by omega)
      refine zExch (h1) (by omega) ?_
      intro I3 J3 h3 g3a g3b
      have bh3 := h3.bnd
      refine zHOf (h3) ?_
      intro r4 I4 J4 h4 g4a
      have bh4 := h4.bnd
      have t10 : (1 : Int32).toInt = 1 := by decide
      have t11 : (l2 + (1 : Int32)).toInt = l2.toInt + 1 := i_add rfl t10 (by omega)
      exact ih _ (by omega) r4 (l2 + (1 : Int32)) I4 J4 rfl (h4) (by omega) (by omega)
  · have c12 := i_nlt q1
    have t13 : (20 : Int32).toInt = 20 := by decide
    refine zForget (CZ.si (n := 0) (k := 10) (h) (by omega)) ?_
    intro I5 J5 h5
    have bh5 := h5.bnd
    exact k _ _ _ (h5)
theorem zArrange {S : Nat × (Nat → Int32)} {d : Nat} {x : mX} {I0 : rI0} {J0 : rJ0} {t : Int32} {I : rI0} {J : rJ0} {Q : Int32 → rI0 → rJ0 → Prop} (h : CZ I0 J0 t I J) (k : ∀ r I J, (CZ I0 J0 t I J) → Q r I J) : wcI S (d + 25) 135 [.ref 0] x I J Q := by
  have bh := h.bnd
  refine c135_0 ?_
  refine zLarge  ?_
  intro r1
  refine ⟨fun q1 => ?_, fun q1 => ?_⟩
  · have c2 := i_eq q1
    have t3 : (0 : Int32).toInt = 0 := by decide
    refine zHeight (h) ?_
    intro r2 I2 J2 h2
    have bh2 := h2.bnd
    exact zArrange_19 k _ r2 ((0 : Int32)) I2 J2 rfl (h2) (by omega) (by omega)
  · have c4 := i_ne q1
    have t5 : (0 : Int32).toInt = 0 := by decide
    exact k _ _ _ (h)
theorem zCheapest {S : Nat × (Nat → Int32)} {d : Nat} {x : mX} {I0 : rI0} {J0 : rJ0} {t : Int32} {I : rI0} {J : rJ0} {Q : Int32 → rI0 → rJ0 → Prop} (h : CZ I0 J0 t I J) (k : ∀ r I J, (CZ I0 J0 0 I J) → Q r I J) : wcI S (d + 25) 119 [.ref 0] x I J Q := by
  have bh := h.bnd
  refine c119_0 ?_
  refine zTake (h) ?_
  intro r1 I1 J1 h1 g1a
  have bh1 := h1.bnd
  refine zHands (h1) ?_
  intro r2 g2a
  refine ⟨fun q1 => ?_, fun q1 => ?_⟩
  · have c2 := i_eq q1
    have t3 : (0 : Int32).toInt = 0 := by decide
    exact k _ _ _ (h1)
  · have c4 := i_ne q1
    have t5 : (0 : Int32).toInt = 0 := by decide
    refine zCheap (h1) (by omega) ?_
    intro r3 I3 J3 h3
    have bh3 := h3.bnd
    exact k _ _ _ (h3)
theorem zHushP {S : Nat × (Nat → Int32)} {d : Nat} {x : mX} {I0 : rI0} {J0 : rJ0} {t : Int32} {I : rI0} {J : rJ0} {Q : Int32 → rI0 → rJ0 → Prop} (h : CZ I0 J0 t I J) (k : ∀ r I J, (CZ I0 J0 0 I J) → Q r I J) : wcI S (d + 25) 121 [.ref 0] x I J Q := by
  have bh := h.bnd
  refine c121_0 ?_
  refine zTake (h) ?_
  intro r1 I1 J1 h1 g1a
  have bh1 := h1.bnd
  refine zHands (h1) ?_
  intro r2 g2a
  refine ⟨fun q1 => ?_, fun q1 => ?_⟩
  · have c2 := i_eq q1
    have t3 : (0 : Int32).toInt = 0 := by decide
    exact k _ _ _ (h1)
  · have c4 := i_ne q1
    have t5 : (0 : Int32).toInt = 0 := by decide
    refine zHush (h1) (by omega) ?_
    intro r3 I3 J3 h3
    have bh3 := h3.bnd
    exact k _ _ _ (h3)
theorem zCoalP {S : Nat × (Nat → Int32)} {d : Nat} {x : mX} {I0 : rI0} {J0 : rJ0} {t : Int32} {I : rI0} {J : rJ0} {p1 : Int32} {Q : Int32 → rI0 → rJ0 → Prop} (h : CZ I0 J0 t I J) (k : ∀ r I J, (CZ I0 J0 0 I J) → Q r I J) : wcI S (d + 25) 122 [.ref 0, .int p1] x I J Q := by
  have bh := h.bnd
  refine c122_0 ?_
  refine zTake (h) ?_
  intro r1 I1 J1 h1 g1a
  have bh1 := h1.bnd
  refine zHands (h1) ?_
  intro r2 g2a
  refine ⟨fun q1 => ?_, fun q1 => ?_⟩
  · have c2 := i_eq q1
    have t3 : (0 : Int32).toInt = 0 := by decide
    exact k _ _ _ (h1)
  · have c4 := i_ne q1
    have t5 : (0 : Int32).toInt = 0 := by decide
    refine zCoal (h1) (by omega) ?_
    intro r3 I3 J3 h3 g3a
    have bh3 := h3.bnd
    refine ⟨fun q6 => ?_, fun q6 => ?_⟩
    · have c7 := i_eq q6
      have t8 : (-1 : Int32).toInt = -1 := by decide
      exact k _ _ _ (h3)
    · have c9 := i_ne q6
      have t10 : (-1 : Int32).toInt = -1 := by decide
      refine ⟨fun q11 => ?_, fun q11 => ?_⟩
      · have c12 := i_lt q11
        exact k _ _ _ (h3)
      · have c13 := i_nlt q11
        refine ⟨fun q14 => ?_, fun q14 => ?_⟩
        · have c15 := i_lt q14
          refine ⟨?_, ?_⟩
          · exact i_in (e := (p1)) (A := p1.toInt) rfl (by omega)
          exact k _ _ _ (h3)
        · have c17 := i_nlt q14
          exact k _ _ _ (h3)
theorem zWorthP {S : Nat × (Nat → Int32)} {d : Nat} {x : mX} {I0 : rI0} {J0 : rJ0} {t : Int32} {I : rI0} {J : rJ0} {Q : Int32 → rI0 → rJ0 → Prop} (h : CZ I0 J0 t I J) (k : ∀ r I J, (CZ I0 J0 0 I J) → Q r I J) : wcI S (d + 25) 123 [.ref 0] x I J Q := by
  have bh := h.bnd
  refine c123_0 ?_
  refine zTake (h) ?_
  intro r1 I1 J1 h1 g1a
  have bh1 := h1.bnd
  refine zHands (h1) ?_
  intro r2 g2a
  refine ⟨fun q1 => ?_, fun q1 => ?_⟩
  · have c2 := i_eq q1
    have t3 : (0 : Int32).toInt = 0 := by decide
    exact k _ _ _ (h1)
  · have c4 := i_ne q1
    have t5 : (0 : Int32).toInt = 0 := by decide
    refine zWorth (h1) (by omega) ?_
    intro r3 I3 J3 h3
    have bh3 := h3.bnd
    exact k _ _ _ (h3)
theorem zSidesP_25 {S : Nat × (Nat → Int32)} {d : Nat} {x : mX} {I0 : rI0} {J0 : rJ0} {Q : Int32 → rI0 → rJ0 → Prop} (k : ∀ r I J, (CZ I0 J0 0 I J) → Q r I J) : ∀ (l1 : Int32) (s0 : Int32) (I : rI0) (J : rJ0), (CZ I0 J0 0 I J) → (0 ≤ l1.toInt) → (l1.toInt ≤ 940) → wp S (d + 25) 125 25 [some (.ref 0), some (.int l1), none, none] [.int s0] (wv x I J) (rI x Q) := by
  intro l1 s0 I J h e0 e1
  have bh := h.bnd
  refine v125_0_25 ?_
  refine ⟨fun q1 => ?_, fun q1 => ?_⟩
  · have c2 := i_lt q1
    have t3 : (1 : Int32).toInt = 1 := by decide
    exact k _ _ _ (h)
  · have c4 := i_nlt q1
    have t5 : (1 : Int32).toInt = 1 := by decide
    refine ⟨fun q6 => ?_, fun q6 => ?_⟩
    · have c7 := i_lt q6
      have t8 : (6 : Int32).toInt = 6 := by decide
      exact k _ _ _ (h)
    · have c9 := i_nlt q6
      have t10 : (6 : Int32).toInt = 6 := by decide
      refine ⟨fun q11 => ?_, fun q11 => ?_⟩
      · have c12 := i_lt q11
        have t13 : (l1 - (1 : Int32)).toInt = l1.toInt - 1 := i_sub rfl t5 (by omega)
        have t14 : ((l1 - (1 : Int32)) - s0).toInt = (l1.toInt - 1) - s0.toInt := i_sub t13 rfl (by omega)
        exact k _ _ _ (h)
      · have c15 := i_nlt q11
        have t16 : (l1 - (1 : Int32)).toInt = l1.toInt - 1 := i_sub rfl t5 (by omega)
        have t17 : ((l1 - (1 : Int32)) - s0).toInt = (l1.toInt - 1) - s0.toInt := i_sub t16 rfl (by omega)
        refine ⟨fun q18 => ?_, fun q18 => ?_⟩
        · have c19 := i_lt q18
          exact k _ _ _ (h)
        · have c20 := i_nlt q18
          refine zUnlike (h) (by omega) ?_
          intro r1 g1a
          refine ⟨fun q21 => ?_, fun q21 => ?_⟩
          · have c22 := i_eq q21
            have t23 : (0 : Int32).toInt = 0 := by decide
            exact k _ _ _ (h)
          · have c24 := i_ne q21
            have t25 : (0 : Int32).toInt = 0 := by decide
            refine zSides (h) (by omega) ?_
            intro r2 I2 J2 h2
            have bh2 := h2.bnd
            exact k _ _ _ (h2)
theorem zSidesP {S : Nat × (Nat → Int32)} {d : Nat} {x : mX} {I0 : rI0} {J0 : rJ0} {t : Int32} {I : rI0} {J : rJ0} {Q : Int32 → rI0 → rJ0 → Prop} (h : CZ I0 J0 t I J) (k : ∀ r I J, (CZ I0 J0 0 I J) → Q r I J) : wcI S (d + 25) 125 [.ref 0] x I J Q := by
  have bh := h.bnd
  refine c125_0 ?_
  refine zTake (h) ?_
  intro r1 I1 J1 h1 g1a
  have bh1 := h1.bnd
  refine ⟨fun q1 => ?_, fun q1 => ?_⟩
  · have c2 := i_lt q1
    have t3 : (0 : Int32).toInt = 0 := by decide
    refine ⟨?_, ?_⟩
    · exact i_in (e := (0 : Int32)) (A := 0) t3 (by omega)
    exact zSidesP_25 k r1 (I1 2 ((0 : Int32).toNatClampNeg)) I1 J1 (h1) (by omega) (by omega)
  · have c5 := i_nlt q1
    have t6 : (0 : Int32).toInt = 0 := by decide
    exact zSidesP_25 k r1 ((0 : Int32)) I1 J1 (h1) (by omega) (by omega)
theorem zBeganP {S : Nat × (Nat → Int32)} {d : Nat} {x : mX} {I0 : rI0} {J0 : rJ0} {t : Int32} {I : rI0} {J : rJ0} {p1 : Int32} {Q : Int32 → rI0 → rJ0 → Prop} (h : CZ I0 J0 t I J) (k : ∀ r I J, (CZ I0 J0 0 I J) → Q r I J) : wcI S (d + 25) 127 [.ref 0, .int p1] x I J Q := by
  have bh := h.bnd
  refine c127_0 ?_
  refine zTake (h) ?_
  intro r1 I1 J1 h1 g1a
  have bh1 := h1.bnd
  refine ⟨fun q1 => ?_, fun q1 => ?_⟩
  · have c2 := i_lt q1
    have t3 : (0 : Int32).toInt = 0 := by decide
    exact k _ _ _ (h1)
  · have c4 := i_nlt q1
    have t5 : (0 : Int32).toInt = 0 := by decide
    refine ⟨fun q6 => ?_, fun q6 => ?_⟩
    · have c7 := i_lt q6
      have t8 : (60 : Int32).toInt = 60 := by decide
      exact k _ _ _ (h1)
    · have c9 := i_nlt q6
      have t10 : (60 : Int32).toInt = 60 := by decide
      refine zLarge  ?_
      intro r2
      refine ⟨fun q11 => ?_, fun q11 => ?_⟩
      · have c12 := i_eq q11
        refine zCells  ?_
        intro r3
        refine ⟨fun q13 => ?_, fun q13 => ?_⟩
        · have c14 := i_eq q13
          refine zSketch (h1) ?_
          intro r4 I4 J4 h4 g4a
          have bh4 := h4.bnd
          refine ⟨fun q15 => ?_, fun q15 => ?_⟩
          · have c16 := i_eq q15
            exact k _ _ _ (h4)
          · have c17 := i_ne q15
            refine zBegan (h4) ?_
            intro r5 I5 J5 h5
            have bh5 := h5.bnd
            exact k _ _ _ (h5)
        · have c18 := i_ne q13
          exact k _ _ _ (h1)
      · have c19 := i_ne q11
        exact k _ _ _ (h1)
theorem zCues {Q : Int32 → rI0 → rJ0 → Prop} (h : CZ I0 J0 t I J) (k : ∀ r I J, CW I0 J0 0 I J → Q r I J) : wcI S (d + 11) 107 [.ref 0] x I J Q := by
  refine c107_0 (zTake h (fun r I1 J1 h1 g1 => ?_))
  obtain ⟨n, hn, rfl⟩ := i_nI (n := 940) g1.1 g1.2 (by omega)
  refine openA hn (Or.inr rfl) (fun I2 o2 t2 _ => tReadCues ⟨h1.o28 o2, t2⟩ (fun I3 J3 h3 => ?_))
  have h4 : CW I0 J0 0 (mSet I3 0 9 (I3 28 8)) J3 := h3.1.w.s09
  exact ⟨fun _ => zCopy h4 (fun I5 J5 h5 => c6_31 (k _ _ _ h5.fg)), fun _ => k _ _ _ h4⟩
theorem zSeatT {p1 p2 : Int32} {T : mX → rI0 → rJ0 → Prop} {Q : Int32 → rI0 → rJ0 → Prop} (h : CV I J) (kt : 68 + x.1.length < 1000000 ∧ T (xA x (0, 11) 6) (va_up I (68 + x.1.length) (fun _ => 0)) (va_up J (68 + x.1.length) (fun _ => 0))) (k : ∀ v, Q v I J) : wcT S (d + 3) 103 [.ref 0, .int p1, .int p2] x I J T Q := by
  refine c103_0 (isSeatA_4 ⟨fun _ => kt, fun z => absurd rfl z⟩ (fun s hs es hb => ⟨fun _ => kt, fun _ => ⟨fun _ => kt, fun _ => ⟨fun _ => kt, fun _ => ⟨fun _ => zBit (fun r => k r), fun _ => ⟨?_, k _⟩, fun _ => priceOfA h.2.1.1 h.2.1.2.1 (fun v => k v), fun _ => leavesOfA h.2.1.1 h.2.1.2.1 (fun v => k v), fun _ => zBit (fun r => k r), trivial⟩⟩⟩⟩))
  rw [es]
  exact nI_in (by omega) (by omega)
theorem zCueT {p1 p2 : Int32} {T : mX → rI0 → rJ0 → Prop} {Q : Int32 → rI0 → rJ0 → Prop} (h : CV I J) (kt : 68 + x.1.length < 1000000 ∧ T (xA x (0, 11) 6) (va_up I (68 + x.1.length) (fun _ => 0)) (va_up J (68 + x.1.length) (fun _ => 0))) (k : ∀ v, Q v I J) : wcT S (d + 1) 108 [.ref 0, .int p1, .int p2] x I J T Q := by
  have g := h.2.2.2.1.i (by omega)
  refine c108_0 ⟨fun _ => kt, fun a => ⟨fun b => ?_, fun _ => kt⟩⟩
  have a := i_nlt a
  have b := i_lt b
  have z : (0 : Int32).toInt = 0 := by decide
  have hi : ¬ mOut p1 30 := i_in (e := p1) (A := p1.toInt) rfl (by omega)
  exact ⟨fun _ => kt, fun _ => ⟨fun _ => kt, fun _ => ⟨fun _ => ⟨hi, k _⟩, fun _ => ⟨fun _ => ⟨hi, k _⟩, fun _ => ⟨hi, k _⟩⟩⟩⟩⟩
theorem zWorthT {p1 p2 : Int32} {T : mX → rI0 → rJ0 → Prop} {Q : Int32 → rI0 → rJ0 → Prop} (h : CV I J) (kt : 68 + x.1.length < 1000000 ∧ T (xA x (0, 11) 6) (va_up I (68 + x.1.length) (fun _ => 0)) (va_up J (68 + x.1.length) (fun _ => 0))) (k : ∀ v, Q v I J) : wcT S (d + 1) 124 [.ref 0, .int p1, .int p2] x I J T Q := by
  have g := h.2.2.2.2.2.2.2.2.2.1.i (by omega)
  refine c124_0 ⟨fun _ => kt, fun a => ⟨fun b => ?_, fun _ => kt⟩⟩
  have a := i_nlt a
  have b := i_lt b
  have z : (0 : Int32).toInt = 0 := by decide
  have hi : ¬ mOut p1 8 := i_in (e := p1) (A := p1.toInt) rfl (by omega)
  refine ⟨fun _ => kt, fun _ => ⟨fun _ => kt, fun _ => zFact (fun r => ⟨hi, zGcd (fun r2 => ⟨fun _ => k _, fun c => ?_⟩)⟩)⟩⟩
  have hn : ¬ r2 = 0 := fun z => c (by rw [z]; decide)
  exact ⟨fun _ => ⟨hi, hn, k _⟩, fun _ => ⟨hn, k _⟩⟩
theorem CV.cz (h : CV I J) : CZ I J (I 1 1) I J := ⟨h, UN.rf, rfl⟩
end CC6
