section MX0
variable {S : Nat × (Nat → Int32)} {d : Nat} {x : mX} {I I' I0 B0 : rI0} {J J' J0 K0 : rJ0} {Tl : Int32} {R C P : Int}
/-- what peek() tells -/
def pk (I : rI0) : Int32 := if I 43 4 < I 43 3 then I 44 (I 43 4).toNatClampNeg &&& 255 else -1
theorem mPeek {Q : Int32 → rI0 → rJ0 → Prop} (hp : 0 ≤ (I 43 4).toInt ∧ (I 43 3).toInt ≤ 940) (k : ∀ r : Int32, r.toInt = (pk I).toInt ∧ ((r.toInt = -1 ∧ (I 43 3).toInt ≤ (I 43 4).toInt) ∨ (0 ≤ r.toInt ∧ r.toInt ≤ 255 ∧ (I 43 4).toInt < (I 43 3).toInt)) → Q r I J) : wcI S d 158 [.ref 43] x I J Q := by
  refine c158_43 ⟨fun q => ⟨i_in (e := I 43 4) rfl (by have := i_lt q; omega), k _ ⟨?_, Or.inr ?_⟩⟩, fun q => k _ ⟨?_, Or.inl ⟨by decide, i_nlt q⟩⟩⟩
  · unfold pk
    rw [if_pos q]
  · have h1 := i_and (I 44 (I 43 4).toNatClampNeg) (m := 255) 8 (by decide)
    have h2 := i_lt q
    exact ⟨h1.1, h1.2, h2⟩
  · unfold pk
    rw [if_neg q]
def Fr (I : rI0) (J : rJ0) (I' : rI0) (J' : rJ0) : Prop := (∀ b, b ≠ 43 → I' b = I b) ∧ (∀ k, ¬ (k = 4 ∨ k = 9 ∨ k = 10 ∨ k = 11 ∨ k = 12) → I' 43 k = I 43 k) ∧ (∀ b, b ≠ 43 → J' b = J b) ∧ ∀ k, k ≠ 15 → J' 43 k = J 43 k
theorem Fr.rf : Fr I J I J := ⟨fun _ _ => rfl, fun _ _ => rfl, fun _ _ => rfl, fun _ _ => rfl⟩
def Nx_ (B0 : rI0) (K0 : rJ0) (P : Int) (I : rI0) (J : rJ0) : Prop := Fr B0 K0 I J ∧ (0 ≤ (I 43 4).toInt ∧ (I 43 4).toInt ≤ (I 43 3).toInt ∧ (I 43 3).toInt ≤ 940 ∧ P ≤ (I 43 4).toInt)
theorem Nx_.bnd (h : Nx_ B0 K0 P I J) : 0 ≤ (I 43 4).toInt ∧ (I 43 4).toInt ≤ (I 43 3).toInt ∧ (I 43 3).toInt ≤ 940 ∧ P ≤ (I 43 4).toInt := h.2
theorem Nx_.s4 {v : Int32} {M : Int} (h : Nx_ B0 K0 P I J) (hm : (I 43 3).toInt = M) (hv : 0 ≤ v.toInt ∧ v.toInt ≤ M ∧ P ≤ v.toInt) : Nx_ B0 K0 P (mSet I 43 4 v) J := by
  have h3 := h.2.2.2.1
  refine ⟨⟨fun b hb => by rw [mSet_ne hb]; exact h.1.1 b hb, fun k hk => by rw [mSet_x (by omega)]; exact h.1.2.1 k hk, h.1.2.2⟩, ?_⟩
  show 0 ≤ v.toInt ∧ v.toInt ≤ (I 43 3).toInt ∧ (I 43 3).toInt ≤ 940 ∧ P ≤ v.toInt
  omega
theorem Nx_.sf {k : Nat} {v : Int32} (h : Nx_ B0 K0 P I J) (hk : k = 9 ∨ k = 10 ∨ k = 11 ∨ k = 12) : Nx_ B0 K0 P (mSet I 43 k v) J := by
  refine ⟨⟨fun b hb => by rw [mSet_ne hb]; exact h.1.1 b hb, fun j hj => by rw [mSet_x (by omega)]; exact h.1.2.1 j hj, h.1.2.2⟩, ?_⟩
  rw [mSet_x (by omega), mSet_x (by omega)]
  exact h.2
theorem Nx_.sw {v : Int64} (h : Nx_ B0 K0 P I J) : Nx_ B0 K0 P I (mSet J 43 15 v) := ⟨⟨h.1.1, h.1.2.1, fun b hb => by rw [mSet_ne hb]; exact h.1.2.2.1 b hb, fun k hk => by rw [mSet_x (by omega)]; exact h.1.2.2.2 k hk⟩, h.2⟩
end MX0
section MX1
theorem mSmall {S : Nat × (Nat → Int32)} {d : Nat} {x : mX} {I : rI0} {J : rJ0} {p0 : Int32} {Q : Int32 → rI0 → rJ0 → Prop} (k : ∀ r, ((r.toInt = 1 ∧ 97 ≤ p0.toInt ∧ p0.toInt ≤ 122) ∨ (r.toInt = 0 ∧ (p0.toInt < 97 ∨ 122 < p0.toInt))) → Q r I J) : wcI S (d + 0) 159 [.int p0] x I J Q := by
  refine c159 ?_
  have t1 : TI (97 : Int32) (97) := show (97 : Int32).toInt = 97 by decide
  refine ⟨fun q2 => ?_, fun q2 => ?_⟩
  · have c3 := j_lt q2 (ti_r (e := p0)) t1
    have t4 : TI (0 : Int32) (0) := show (0 : Int32).toInt = 0 by decide
    exact k _ (by (try simp only [t4.o, true_or, or_true, true_and, and_true]); first | done | omega)
  · have c5 := j_nlt q2 (ti_r (e := p0)) t1
    have t6 : TI (122 : Int32) (122) := show (122 : Int32).toInt = 122 by decide
    refine ⟨fun q7 => ?_, fun q7 => ?_⟩
    · have c8 := j_lt q7 t6 (ti_r (e := p0))
      have t9 : TI (0 : Int32) (0) := show (0 : Int32).toInt = 0 by decide
      exact k _ (by (try simp only [t9.o, true_or, or_true, true_and, and_true]); first | done | omega)
    · have c10 := j_nlt q7 t6 (ti_r (e := p0))
      have t11 : TI (1 : Int32) (1) := show (1 : Int32).toInt = 1 by decide
      exact k _ (by (try simp only [t11.o, true_or, or_true, true_and, and_true]); first | done | omega)
theorem mDigit {S : Nat × (Nat → Int32)} {d : Nat} {x : mX} {I : rI0} {J : rJ0} {p0 : Int32} {Q : Int32 → rI0 → rJ0 → Prop} (k : ∀ r, ((r.toInt = 1 ∧ 48 ≤ p0.toInt ∧ p0.toInt ≤ 57) ∨ (r.toInt = 0 ∧ (p0.toInt < 48 ∨ 57 < p0.toInt))) → Q r I J) : wcI S (d + 0) 160 [.int p0] x I J Q := by
  refine c160 ?_
  have t1 : TI (48 : Int32) (48) := show (48 : Int32).toInt = 48 by decide
  refine ⟨fun q2 => ?_, fun q2 => ?_⟩
  · have c3 := j_lt q2 (ti_r (e := p0)) t1
    have t4 : TI (0 : Int32) (0) := show (0 : Int32).toInt = 0 by decide
    exact k _ (by (try simp only [t4.o, true_or, or_true, true_and, and_true]); first | done | omega)
  · have c5 := j_nlt q2 (ti_r (e := p0)) t1
    have t6 : TI (57 : Int32) (57) := show (57 : Int32).toInt = 57 by decide
    refine ⟨fun q7 => ?_, fun q7 => ?_⟩
    · have c8 := j_lt q7 t6 (ti_r (e := p0))
      have t9 : TI (0 : Int32) (0) := show (0 : Int32).toInt = 0 by decide
      exact k _ (by (try simp only [t9.o, true_or, or_true, true_and, and_true]); first | done | omega)
    · have c10 := j_nlt q7 t6 (ti_r (e := p0))
      have t11 : TI (1 : Int32) (1) := show (1 : Int32).toInt = 1 by decide
      exact k _ (by (try simp only [t11.o, true_or, or_true, true_and, and_true]); first | done | omega)
theorem xNext_248 {S : Nat × (Nat → Int32)} {d : Nat} {x : mX} {B0 : rI0} {K0 : rJ0} {P : Int} {Q : rI0 → rJ0 → Prop} {N181 : Nat} (k : ∀ I J, (Nx_ B0 K0 P I J) → ((((I 43 9).toInt ≠ 1 ∨ (0 ≤ (I 43 11).toInt ∧ (I 43 11).toInt ≤ 8 ∧ 0 ≤ (I 43 10).toInt ∧ (I 43 10).toInt + (I 43 11).toInt ≤ 940)) ∧ ((I 43 9).toInt ≠ 2 ∨ (0 ≤ (I 43 12).toInt ∧ (I 43 12).toInt ≤ 999))) ∧ ((I 43 9).toInt ≠ 3 ∨ P < (I 43 4).toInt)) → Q I J) (K181 : ∀ (l1 : Int32) (l2 : Int32) (l3 : Int32) (I : rI0) (J : rJ0), (Nx_ B0 K0 P I J) → (((I 43 3).toInt - (I 43 4).toInt).toNat < N181) → (l2.toInt = 0 ∨ l2.toInt = 1) → ((I 43 10).toInt + (I 43 11).toInt = (I 43 4).toInt) → (0 ≤ (I 43 10).toInt) → (0 ≤ (I 43 11).toInt) → (((I 43 11).toInt = 0 ∧ (I 43 12).toInt = 0) ∨ ((I 43 11).toInt = 1 ∧ -48 ≤ (I 43 12).toInt ∧ (I 43 12).toInt ≤ 207) ∨ ((I 43 11).toInt = 2 ∧ -528 ≤ (I 43 12).toInt ∧ (I 43 12).toInt ≤ 2277) ∨ (3 ≤ (I 43 11).toInt ∧ -5328 ≤ (I 43 12).toInt ∧ (I 43 12).toInt ≤ 22977)) → (l3.toInt = 0 ∨ l3.toInt = 1) → (l3.toInt = 0 ∨ l2.toInt = 1 ∨ (((I 43 11).toInt = 0 ∧ (I 43 12).toInt = 0) ∨ ((I 43 11).toInt = 1 ∧ 0 ≤ (I 43 12).toInt ∧ (I 43 12).toInt ≤ 9) ∨ ((I 43 11).toInt = 2 ∧ 0 ≤ (I 43 12).toInt ∧ (I 43 12).toInt ≤ 99) ∨ (3 ≤ (I 43 11).toInt ∧ 0 ≤ (I 43 12).toInt ∧ (I 43 12).toInt ≤ 999))) → wp S (d + 1) 161 181 [some (.ref 43), some (.int l1), some (.int l2), some (.int l3)] [] (wv x I J) (rV x Q)) : ∀ (l1 : Int32) (l2 : Int32) (l3 : Int32) (I : rI0) (J : rJ0), (Nx_ B0 K0 P I J) → (l2.toInt = 0 ∨ l2.toInt = 1) → ((I 43 10).toInt + (I 43 11).toInt = (I 43 4).toInt) → (0 ≤ (I 43 10).toInt) → (0 ≤ (I 43 11).toInt) → (((I 43 11).toInt = 0 ∧ (I 43 12).toInt = 0) ∨ ((I 43 11).toInt = 1 ∧ -48 ≤ (I 43 12).toInt ∧ (I 43 12).toInt ≤ 207) ∨ ((I 43 11).toInt = 2 ∧ -528 ≤ (I 43 12).toInt ∧ (I 43 12).toInt ≤ 2277) ∨ (3 ≤ (I 43 11).toInt ∧ -5328 ≤ (I 43 12).toInt ∧ (I 43 12).toInt ≤ 22977)) → ((I 43 4).toInt < (I 43 3).toInt) → ((97 ≤ (pk I).toInt ∧ (pk I).toInt ≤ 122) ∨ (48 ≤ (pk I).toInt ∧ (pk I).toInt ≤ 57)) → (l3.toInt = 0 ∨ l3.toInt = 1) → (l3.toInt = 0 ∨ l2.toInt = 1 ∨ (48 ≤ (pk I).toInt ∧ (pk I).toInt ≤ 57 ∧ (((I 43 11).toInt = 0 ∧ (I 43 12).toInt = 0) ∨ ((I 43 11).toInt = 1 ∧ 0 ≤ (I 43 12).toInt ∧ (I 43 12).toInt ≤ 9) ∨ ((I 43 11).toInt = 2 ∧ 0 ≤ (I 43 12).toInt ∧ (I 43 12).toInt ≤ 99) ∨ (3 ≤ (I 43 11).toInt ∧ 0 ≤ (I 43 12).toInt ∧ (I 43 12).toInt ≤ 999)))) → (Nle ((I 43 3).toInt - (I 43 4).toInt).toNat N181) → wp S (d + 1) 161 248 [some (.ref 43), some (.int l1), some (.int l2), some (.int l3)] [] (wv x I J) (rV x Q) := by
  intro l1 l2 l3 I J h e0 e1 e2 e3 e4 e5 e6 e7 e8 a0
  have bh := h.bnd
  refine v161_43_248 ?_
  have t1 : TI (3 : Int32) (3) := show (3 : Int32).toInt = 3 by decide
  refine ⟨fun q2 => ?_, fun q2 => ?_⟩
  · have c3 := j_lt q2 (ti_r (e := (I 43 11))) t1
    refine mPeek (by omega) ?_
    intro r1 g1a
    have t4 : TI (1 : Int32) (1) := show (1 : Int32).toInt = 1 by decide
    have t5 : TI ((I 43 4) + (1 : Int32)) ((I 43 4).toInt + 1) := ti_add ti_r t4 (by omega)
    have z6 : TI ((mSet (mSet (mSet I 43 12 ((((10 : Int32) * (I 43 12)) + r1) - (48 : Int32))) 43 11 ((I 43 11) + (1 : Int32))) 43 4 ((I 43 4) + (1 : Int32))) 43 3) (I 43 3).toInt := (ti_r : TI (I 43 3) (I 43 3).toInt)
    have z7 : TI ((mSet (mSet (mSet I 43 12 ((((10 : Int32) * (I 43 12)) + r1) - (48 : Int32))) 43 11 ((I 43 11) + (1 : Int32))) 43 4 ((I 43 4) + (1 : Int32))) 43 4) ((I 43 4).toInt + 1) := (t5 : TI ((I 43 4) + (1 : Int32)) ((I 43 4).toInt + 1))
    have z8 : TI ((mSet (mSet (mSet I 43 12 ((((10 : Int32) * (I 43 12)) + r1) - (48 : Int32))) 43 11 ((I 43 11) + (1 : Int32))) 43 4 ((I 43 4) + (1 : Int32))) 43 10) (I 43 10).toInt := (ti_r : TI (I 43 10) (I 43 10).toInt)
    have t9 : TI ((I 43 11) + (1 : Int32)) ((I 43 11).toInt + 1) := ti_add ti_r t4 (by omega)
    have z10 : TI ((mSet (mSet (mSet I 43 12 ((((10 : Int32) * (I 43 12)) + r1) - (48 : Int32))) 43 11 ((I 43 11) + (1 : Int32))) 43 4 ((I 43 4) + (1 : Int32))) 43 11) ((I 43 11).toInt + 1) := (t9 : TI ((I 43 11) + (1 : Int32)) ((I 43 11).toInt + 1))
    have t11 : TI (10 : Int32) (10) := show (10 : Int32).toInt = 10 by decide
    have t12 : TI ((10 : Int32) * (I 43 12)) (10 * (I 43 12).toInt) := ti_mul t11 ti_r (by omega)
    have t13 : TI (((10 : Int32) * (I 43 12)) + r1) ((10 * (I 43 12).toInt) + r1.toInt) := ti_add t12 ti_r (by omega)
    have t14 : TI (48 : Int32) (48) := show (48 : Int32).toInt = 48 by decide
    have t15 : TI ((((10 : Int32) * (I 43 12)) + r1) - (48 : Int32)) (((10 * (I 43 12).toInt) + r1.toInt) - 48) := ti_sub t13 t14 (by omega)
    have z16 : TI ((mSet (mSet (mSet I 43 12 ((((10 : Int32) * (I 43 12)) + r1) - (48 : Int32))) 43 11 ((I 43 11) + (1 : Int32))) 43 4 ((I 43 4) + (1 : Int32))) 43 12) (((10 * (I 43 12).toInt) + r1.toInt) - 48) := (t15 : TI ((((10 : Int32) * (I 43 12)) + r1) - (48 : Int32)) (((10 * (I 43 12).toInt) + r1.toInt) - 48))
    exact K181 l1 l2 l3 (mSet (mSet (mSet I 43 12 ((((10 : Int32) * (I 43 12)) + r1) - (48 : Int32))) 43 11 ((I 43 11) + (1 : Int32))) 43 4 ((I 43 4) + (1 : Int32))) J (Nx_.s4 (Nx_.sf (k := 11) (Nx_.sf (k := 12) (h) (by decide)) (by decide)) (v := ((I 43 4) + (1 : Int32))) (M := (I 43 3).toInt) rfl (by (try simp only [t5.o, true_or, or_true, true_and, and_true]); first | done | omega)) (mlt a0 (by (try simp only [z6.o, z7.o, z8.o, z10.o, z16.o, true_or, or_true, true_and, and_true]); first | done | omega) (by omega)) (by (try simp only [z6.o, z7.o, z8.o, z10.o, z16.o, true_or, or_true, true_and, and_true]); first | done | omega) (by (try simp only [z6.o, z7.o, z8.o, z10.o, z16.o, true_or, or_true, true_and, and_true]); first | done | omega) (by (try simp only [z6.o, z7.o, z8.o, z10.o, z16.o, true_or, or_true, true_and, and_true]); first | done | omega) (by (try simp only [z6.o, z7.o, z8.o, z10.o, z16.o, true_or, or_true, true_and, and_true]); first | done | omega) (by (try simp only [z6.o, z7.o, z8.o, z10.o, z16.o, true_or, or_true, true_and, and_true]); first | done | omega) (by (try simp only [z6.o, z7.o, z8.o, z10.o, z16.o, true_or, or_true, true_and, and_true]); first | done | omega) (by (try simp only [z6.o, z7.o, z8.o, z10.o, z16.o, true_or, or_true, true_and, and_true]); first | done | omega)
  · have c17 := j_nlt q2 (ti_r (e := (I 43 11))) t1
    have t18 : TI (1 : Int32) (1) := show (1 : Int32).toInt = 1 by decide
    have t19 : TI ((I 43 4) + (1 : Int32)) ((I 43 4).toInt + 1) := ti_add ti_r t18 (by omega)
    have z20 : TI ((mSet (mSet I 43 11 ((I 43 11) + (1 : Int32))) 43 4 ((I 43 4) + (1 : Int32))) 43 3) (I 43 3).toInt := (ti_r : TI (I 43 3) (I 43 3).toInt)
    have z21 : TI ((mSet (mSet I 43 11 ((I 43 11) + (1 : Int32))) 43 4 ((I 43 4) + (1 : Int32))) 43 4) ((I 43 4).toInt + 1) := (t19 : TI ((I 43 4) + (1 : Int32)) ((I 43 4).toInt + 1))
    have z22 : TI ((mSet (mSet I 43 11 ((I 43 11) + (1 : Int32))) 43 4 ((I 43 4) + (1 : Int32))) 43 10) (I 43 10).toInt := (ti_r : TI (I 43 10) (I 43 10).toInt)
    have t23 : TI ((I 43 11) + (1 : Int32)) ((I 43 11).toInt + 1) := ti_add ti_r t18 (by omega)
    have z24 : TI ((mSet (mSet I 43 11 ((I 43 11) + (1 : Int32))) 43 4 ((I 43 4) + (1 : Int32))) 43 11) ((I 43 11).toInt + 1) := (t23 : TI ((I 43 11) + (1 : Int32)) ((I 43 11).toInt + 1))
    have z25 : TI ((mSet (mSet I 43 11 ((I 43 11) + (1 : Int32))) 43 4 ((I 43 4) + (1 : Int32))) 43 12) (I 43 12).toInt := (ti_r : TI (I 43 12) (I 43 12).toInt)
    exact K181 l1 l2 l3 (mSet (mSet I 43 11 ((I 43 11) + (1 : Int32))) 43 4 ((I 43 4) + (1 : Int32))) J (Nx_.s4 (Nx_.sf (k := 11) (h) (by decide)) (v := ((I 43 4) + (1 : Int32))) (M := (I 43 3).toInt) rfl (by (try simp only [t19.o, true_or, or_true, true_and, and_true]); first | done | omega)) (mlt a0 (by (try simp only [z20.o, z21.o, z22.o, z24.o, z25.o, true_or, or_true, true_and, and_true]); first | done | omega) (by omega)) (by (try simp only [z20.o, z21.o, z22.o, z24.o, z25.o, true_or, or_true, true_and, and_true]); first | done | omega) (by (try simp only [z20.o, z21.o, z22.o, z24.o, z25.o, true_or, or_true, true_and, and_true]); first | done | omega) (by (try simp only [z20.o, z21.o, z22.o, z24.o, z25.o, true_or, or_true, true_and, and_true]); first | done | omega) (by (try simp only [z20.o, z21.o, z22.o, z24.o, z25.o, true_or, or_true, true_and, and_true]); first | done | omega) (by (try simp only [z20.o, z21.o, z22.o, z24.o, z25.o, true_or, or_true, true_and, and_true]); first | done | omega) (by (try simp only [z20.o, z21.o, z22.o, z24.o, z25.o, true_or, or_true, true_and, and_true]); first | done | omega) (by (try simp only [z20.o, z21.o, z22.o, z24.o, z25.o, true_or, or_true, true_and, and_true]); first | done | omega)
theorem xNext_221 {S : Nat × (Nat → Int32)} {d : Nat} {x : mX} {B0 : rI0} {K0 : rJ0} {P : Int} {Q : rI0 → rJ0 → Prop} {N181 : Nat} (k : ∀ I J, (Nx_ B0 K0 P I J) → ((((I 43 9).toInt ≠ 1 ∨ (0 ≤ (I 43 11).toInt ∧ (I 43 11).toInt ≤ 8 ∧ 0 ≤ (I 43 10).toInt ∧ (I 43 10).toInt + (I 43 11).toInt ≤ 940)) ∧ ((I 43 9).toInt ≠ 2 ∨ (0 ≤ (I 43 12).toInt ∧ (I 43 12).toInt ≤ 999))) ∧ ((I 43 9).toInt ≠ 3 ∨ P < (I 43 4).toInt)) → Q I J) (K181 : ∀ (l1 : Int32) (l2 : Int32) (l3 : Int32) (I : rI0) (J : rJ0), (Nx_ B0 K0 P I J) → (((I 43 3).toInt - (I 43 4).toInt).toNat < N181) → (l2.toInt = 0 ∨ l2.toInt = 1) → ((I 43 10).toInt + (I 43 11).toInt = (I 43 4).toInt) → (0 ≤ (I 43 10).toInt) → (0 ≤ (I 43 11).toInt) → (((I 43 11).toInt = 0 ∧ (I 43 12).toInt = 0) ∨ ((I 43 11).toInt = 1 ∧ -48 ≤ (I 43 12).toInt ∧ (I 43 12).toInt ≤ 207) ∨ ((I 43 11).toInt = 2 ∧ -528 ≤ (I 43 12).toInt ∧ (I 43 12).toInt ≤ 2277) ∨ (3 ≤ (I 43 11).toInt ∧ -5328 ≤ (I 43 12).toInt ∧ (I 43 12).toInt ≤ 22977)) → (l3.toInt = 0 ∨ l3.toInt = 1) → (l3.toInt = 0 ∨ l2.toInt = 1 ∨ (((I 43 11).toInt = 0 ∧ (I 43 12).toInt = 0) ∨ ((I 43 11).toInt = 1 ∧ 0 ≤ (I 43 12).toInt ∧ (I 43 12).toInt ≤ 9) ∨ ((I 43 11).toInt = 2 ∧ 0 ≤ (I 43 12).toInt ∧ (I 43 12).toInt ≤ 99) ∨ (3 ≤ (I 43 11).toInt ∧ 0 ≤ (I 43 12).toInt ∧ (I 43 12).toInt ≤ 999))) → wp S (d + 1) 161 181 [some (.ref 43), some (.int l1), some (.int l2), some (.int l3)] [] (wv x I J) (rV x Q)) : ∀ (l1 : Int32) (l2 : Int32) (l3 : Int32) (s0 : Int32) (I : rI0) (J : rJ0), (Nx_ B0 K0 P I J) → (l2.toInt = 0 ∨ l2.toInt = 1) → ((I 43 10).toInt + (I 43 11).toInt = (I 43 4).toInt) → (0 ≤ (I 43 10).toInt) → (0 ≤ (I 43 11).toInt) → (((I 43 11).toInt = 0 ∧ (I 43 12).toInt = 0) ∨ ((I 43 11).toInt = 1 ∧ -48 ≤ (I 43 12).toInt ∧ (I 43 12).toInt ≤ 207) ∨ ((I 43 11).toInt = 2 ∧ -528 ≤ (I 43 12).toInt ∧ (I 43 12).toInt ≤ 2277) ∨ (3 ≤ (I 43 11).toInt ∧ -5328 ≤ (I 43 12).toInt ∧ (I 43 12).toInt ≤ 22977)) → ((I 43 4).toInt < (I 43 3).toInt) → ((97 ≤ (pk I).toInt ∧ (pk I).toInt ≤ 122) ∨ (48 ≤ (pk I).toInt ∧ (pk I).toInt ≤ 57)) → (s0.toInt = 0 ∨ s0.toInt = 1) → (s0.toInt = 0 ∨ l2.toInt = 1 ∨ (48 ≤ (pk I).toInt ∧ (pk I).toInt ≤ 57 ∧ (((I 43 11).toInt = 0 ∧ (I 43 12).toInt = 0) ∨ ((I 43 11).toInt = 1 ∧ 0 ≤ (I 43 12).toInt ∧ (I 43 12).toInt ≤ 9) ∨ ((I 43 11).toInt = 2 ∧ 0 ≤ (I 43 12).toInt ∧ (I 43 12).toInt ≤ 99) ∨ (3 ≤ (I 43 11).toInt ∧ 0 ≤ (I 43 12).toInt ∧ (I 43 12).toInt ≤ 999)))) → (Nle ((I 43 3).toInt - (I 43 4).toInt).toNat N181) → wp S (d + 1) 161 221 [some (.ref 43), some (.int l1), some (.int l2), some (.int l3)] [.int s0] (wv x I J) (rV x Q) := by
  intro l1 l2 l3 s0 I J h e0 e1 e2 e3 e4 e5 e6 e7 e8 a0
  have bh := h.bnd
  refine v161_43_221 ?_
  have t1 : TI (8 : Int32) (8) := show (8 : Int32).toInt = 8 by decide
  refine ⟨fun q2 => ?_, fun q2 => ?_⟩
  · have c3 := j_lt q2 (ti_r (e := (I 43 11))) t1
    refine mPeek (by omega) ?_
    intro r1 g1a
    exact xNext_248 k K181 l1 l2 s0 I (mSet J 43 15 (((J 43 15) <<< ((8 : Int32).toInt64 &&& 63)) ||| r1.toInt64)) (Nx_.sw (h)) (by omega) (by omega) (by omega) (by omega) (by omega) (by omega) (by omega) (by omega) (by omega) (mle a0 (by omega))
  · have c4 := j_nlt q2 (ti_r (e := (I 43 11))) t1
    exact xNext_248 k K181 l1 l2 s0 I J (h) (by omega) (by omega) (by omega) (by omega) (by omega) (by omega) (by omega) (by omega) (by omega) (mle a0 (by omega))
theorem xNext_181 {S : Nat × (Nat → Int32)} {d : Nat} {x : mX} {B0 : rI0} {K0 : rJ0} {P : Int} {Q : rI0 → rJ0 → Prop} (k : ∀ I J, (Nx_ B0 K0 P I J) → ((((I 43 9).toInt ≠ 1 ∨ (0 ≤ (I 43 11).toInt ∧ (I 43 11).toInt ≤ 8 ∧ 0 ≤ (I 43 10).toInt ∧ (I 43 10).toInt + (I 43 11).toInt ≤ 940)) ∧ ((I 43 9).toInt ≠ 2 ∨ (0 ≤ (I 43 12).toInt ∧ (I 43 12).toInt ≤ 999))) ∧ ((I 43 9).toInt ≠ 3 ∨ P < (I 43 4).toInt)) → Q I J) : ∀ (n : Nat) (l1 : Int32) (l2 : Int32) (l3 : Int32) (I : rI0) (J : rJ0), (Neq ((I 43 3).toInt - (I 43 4).toInt).toNat n) → (Nx_ B0 K0 P I J) → (l2.toInt = 0 ∨ l2.toInt = 1) → ((I 43 10).toInt + (I 43 11).toInt = (I 43 4).toInt) → (0 ≤ (I 43 10).toInt) → (0 ≤ (I 43 11).toInt) → (((I 43 11).toInt = 0 ∧ (I 43 12).toInt = 0) ∨ ((I 43 11).toInt = 1 ∧ -48 ≤ (I 43 12).toInt ∧ (I 43 12).toInt ≤ 207) ∨ ((I 43 11).toInt = 2 ∧ -528 ≤ (I 43 12).toInt ∧ (I 43 12).toInt ≤ 2277) ∨ (3 ≤ (I 43 11).toInt ∧ -5328 ≤ (I 43 12).toInt ∧ (I 43 12).toInt ≤ 22977)) → (l3.toInt = 0 ∨ l3.toInt = 1) → (l3.toInt = 0 ∨ l2.toInt = 1 ∨ (((I 43 11).toInt = 0 ∧ (I 43 12).toInt = 0) ∨ ((I 43 11).toInt = 1 ∧ 0 ≤ (I 43 12).toInt ∧ (I 43 12).toInt ≤ 9) ∨ ((I 43 11).toInt = 2 ∧ 0 ≤ (I 43 12).toInt ∧ (I 43 12).toInt ≤ 99) ∨ (3 ≤ (I 43 11).toInt ∧ 0 ≤ (I 43 12).toInt ∧ (I 43 12).toInt ≤ 999))) → wp S (d + 1) 161 181 [some (.ref 43), some (.int l1), some (.int l2), some (.int l3)] [] (wv x I J) (rV x Q) := by
  refine lpn ?_
  intro n ih
  intro l1 l2 l3 I J hm h e0 e1 e2 e3 e4 e5 e6
  have bh := h.bnd
  refine v161_43_181 ?_
  refine mPeek (by omega) ?_
  intro r1 g1a
  refine mSmall  ?_
  intro r2 g2a
  have t1 : TI (0 : Int32) (0) := show (0 : Int32).toInt = 0 by decide
  refine ⟨fun q2 => ?_, fun q2 => ?_⟩
  · have c3 := j_eq q2 (ti_r (e := r2)) t1
    refine mPeek (by omega) ?_
    intro r3 g3a
    refine mDigit  ?_
    intro r4 g4a
    refine ⟨fun q4 => ?_, fun q4 => ?_⟩
    · have c5 := j_eq q4 (ti_r (e := r4)) t1
      refine ⟨fun q6 => ?_, fun q6 => ?_⟩
      · have c7 := j_eq q6 (ti_r (e := l3)) t1
        have z8 : TI ((mSet I 43 9 (4 : Int32)) 43 4) (I 43 4).toInt := (ti_r : TI (I 43 4) (I 43 4).toInt)
        have t9 : TI (4 : Int32) (4) := show (4 : Int32).toInt = 4 by decide
        have z10 : TI ((mSet I 43 9 (4 : Int32)) 43 9) 4 := (t9 : TI (4 : Int32) 4)
        have z11 : TI ((mSet I 43 9 (4 : Int32)) 43 10) (I 43 10).toInt := (ti_r : TI (I 43 10) (I 43 10).toInt)
        have z12 : TI ((mSet I 43 9 (4 : Int32)) 43 11) (I 43 11).toInt := (ti_r : TI (I 43 11) (I 43 11).toInt)
        have z13 : TI ((mSet I 43 9 (4 : Int32)) 43 12) (I 43 12).toInt := (ti_r : TI (I 43 12) (I 43 12).toInt)
        exact k _ _ (Nx_.sf (k := 9) (h) (by decide)) (by (try simp only [z8.o, z10.o, z11.o, z12.o, z13.o, true_or, or_true, true_and, and_true]); first | done | omega)
      · have c14 := j_ne q6 (ti_r (e := l3)) t1
        refine ⟨fun q15 => ?_, fun q15 => ?_⟩
        · have c16 := j_eq q15 (ti_r (e := l2)) t1
          have t17 : TI (3 : Int32) (3) := show (3 : Int32).toInt = 3 by decide
          refine ⟨fun q18 => ?_, fun q18 => ?_⟩
          · have c19 := j_lt q18 t17 (ti_r (e := (I 43 11)))
            have z20 : TI ((mSet I 43 9 (4 : Int32)) 43 4) (I 43 4).toInt := (ti_r : TI (I 43 4) (I 43 4).toInt)
            have t21 : TI (4 : Int32) (4) := show (4 : Int32).toInt = 4 by decide
            have z22 : TI ((mSet I 43 9 (4 : Int32)) 43 9) 4 := (t21 : TI (4 : Int32) 4)
            have z23 : TI ((mSet I 43 9 (4 : Int32)) 43 10) (I 43 10).toInt := (ti_r : TI (I 43 10) (I 43 10).toInt)
            have z24 : TI ((mSet I 43 9 (4 : Int32)) 43 11) (I 43 11).toInt := (ti_r : TI (I 43 11) (I 43 11).toInt)
            have z25 : TI ((mSet I 43 9 (4 : Int32)) 43 12) (I 43 12).toInt := (ti_r : TI (I 43 12) (I 43 12).toInt)
            exact k _ _ (Nx_.sf (k := 9) (h) (by decide)) (by (try simp only [z20.o, z22.o, z23.o, z24.o, z25.o, true_or, or_true, true_and, and_true]); first | done | omega)
          · have c26 := j_nlt q18 t17 (ti_r (e := (I 43 11)))
            refine ⟨fun q27 => ?_, fun q27 => ?_⟩
            · have c28 := j_eq q27 (ti_r (e := l2)) t1
              have z29 : TI ((mSet I 43 9 (2 : Int32)) 43 4) (I 43 4).toInt := (ti_r : TI (I 43 4) (I 43 4).toInt)
              have t30 : TI (2 : Int32) (2) := show (2 : Int32).toInt = 2 by decide
              have z31 : TI ((mSet I 43 9 (2 : Int32)) 43 9) 2 := (t30 : TI (2 : Int32) 2)
              have z32 : TI ((mSet I 43 9 (2 : Int32)) 43 10) (I 43 10).toInt := (ti_r : TI (I 43 10) (I 43 10).toInt)
              have z33 : TI ((mSet I 43 9 (2 : Int32)) 43 11) (I 43 11).toInt := (ti_r : TI (I 43 11) (I 43 11).toInt)
              have z34 : TI ((mSet I 43 9 (2 : Int32)) 43 12) (I 43 12).toInt := (ti_r : TI (I 43 12) (I 43 12).toInt)
              exact k _ _ (Nx_.sf (k := 9) (h) (by decide)) (by (try simp only [z29.o, z31.o, z32.o, z33.o, z34.o, true_or, or_true, true_and, and_true]); first | done | omega)
            · have c35 := j_ne q27 (ti_r (e := l2)) t1
              have z36 : TI ((mSet I 43 9 (1 : Int32)) 43 4) (I 43 4).toInt := (ti_r : TI (I 43 4) (I 43 4).toInt)
              have t37 : TI (1 : Int32) (1) := show (1 : Int32).toInt = 1 by decide
              have z38 : TI ((mSet I 43 9 (1 : Int32)) 43 9) 1 := (t37 : TI (1 : Int32) 1)
              have z39 : TI ((mSet I 43 9 (1 : Int32)) 43 10) (I 43 10).toInt := (ti_r : TI (I 43 10) (I 43 10).toInt)
              have z40 : TI ((mSet I 43 9 (1 : Int32)) 43 11) (I 43 11).toInt := (ti_r : TI (I 43 11) (I 43 11).toInt)
              have z41 : TI ((mSet I 43 9 (1 : Int32)) 43 12) (I 43 12).toInt := (ti_r : TI (I 43 12) (I 43 12).toInt)
              exact k _ _ (Nx_.sf (k := 9) (h) (by decide)) (by (try simp only [z36.o, z38.o, z39.o, z40.o, z41.o, true_or, or_true, true_and, and_true]); first | done | omega)
        · have c42 := j_ne q15 (ti_r (e := l2)) t1
          have t43 : TI (8 : Int32) (8) := show (8 : Int32).toInt = 8 by decide
          refine ⟨fun q44 => ?_, fun q44 => ?_⟩
          · have c45 := j_lt q44 t43 (ti_r (e := (I 43 11)))
            have z46 : TI ((mSet I 43 9 (4 : Int32)) 43 4) (I 43 4).toInt := (ti_r : TI (I 43 4) (I 43 4).toInt)
            have t47 : TI (4 : Int32) (4) := show (4 : Int32).toInt = 4 by decide
            have z48 : TI ((mSet I 43 9 (4 : Int32)) 43 9) 4 := (t47 : TI (4 : Int32) 4)
            have z49 : TI ((mSet I 43 9 (4 : Int32)) 43 10) (I 43 10).toInt := (ti_r : TI (I 43 10) (I 43 10).toInt)
            have z50 : TI ((mSet I 43 9 (4 : Int32)) 43 11) (I 43 11).toInt := (ti_r : TI (I 43 11) (I 43 11).toInt)
            have z51 : TI ((mSet I 43 9 (4 : Int32)) 43 12) (I 43 12).toInt := (ti_r : TI (I 43 12) (I 43 12).toInt)
            exact k _ _ (Nx_.sf (k := 9) (h) (by decide)) (by (try simp only [z46.o, z48.o, z49.o, z50.o, z51.o, true_or, or_true, true_and, and_true]); first | done | omega)
          · have c52 := j_nlt q44 t43 (ti_r (e := (I 43 11)))
            refine ⟨fun q53 => ?_, fun q53 => ?_⟩
            · have c54 := j_eq q53 (ti_r (e := l2)) t1
              have z55 : TI ((mSet I 43 9 (2 : Int32)) 43 4) (I 43 4).toInt := (ti_r : TI (I 43 4) (I 43 4).toInt)
              have t56 : TI (2 : Int32) (2) := show (2 : Int32).toInt = 2 by decide
              have z57 : TI ((mSet I 43 9 (2 : Int32)) 43 9) 2 := (t56 : TI (2 : Int32) 2)
              have z58 : TI ((mSet I 43 9 (2 : Int32)) 43 10) (I 43 10).toInt := (ti_r : TI (I 43 10) (I 43 10).toInt)
              have z59 : TI ((mSet I 43 9 (2 : Int32)) 43 11) (I 43 11).toInt := (ti_r : TI (I 43 11) (I 43 11).toInt)
              have z60 : TI ((mSet I 43 9 (2 : Int32)) 43 12) (I 43 12).toInt := (ti_r : TI (I 43 12) (I 43 12).toInt)
              exact k _ _ (Nx_.sf (k := 9) (h) (by decide)) (by (try simp only [z55.o, z57.o, z58.o, z59.o, z60.o, true_or, or_true, true_and, and_true]); first | done | omega)
            · have c61 := j_ne q53 (ti_r (e := l2)) t1
              have z62 : TI ((mSet I 43 9 (1 : Int32)) 43 4) (I 43 4).toInt := (ti_r : TI (I 43 4) (I 43 4).toInt)
              have t63 : TI (1 : Int32) (1) := show (1 : Int32).toInt = 1 by decide
              have z64 : TI ((mSet I 43 9 (1 : Int32)) 43 9) 1 := (t63 : TI (1 : Int32) 1)
              have z65 : TI ((mSet I 43 9 (1 : Int32)) 43 10) (I 43 10).toInt := (ti_r : TI (I 43 10) (I 43 10).toInt)
              have z66 : TI ((mSet I 43 9 (1 : Int32)) 43 11) (I 43 11).toInt := (ti_r : TI (I 43 11) (I 43 11).toInt)
              have z67 : TI ((mSet I 43 9 (1 : Int32)) 43 12) (I 43 12).toInt := (ti_r : TI (I 43 12) (I 43 12).toInt)
              exact k _ _ (Nx_.sf (k := 9) (h) (by decide)) (by (try simp only [z62.o, z64.o, z65.o, z66.o, z67.o, true_or, or_true, true_and, and_true]); first | done | omega)
    · have c68 := j_ne q4 (ti_r (e := r4)) t1
      refine ⟨fun q69 => ?_, fun q69 => ?_⟩
      · have c70 := j_eq q69 (ti_r (e := l3)) t1
        exact xNext_221 k (fun l1_ l2_ l3_ I_ J_ h_ hlt f0_ f1_ f2_ f3_ f4_ f5_ f6_ => ih _ hlt l1_ l2_ l3_ I_ J_ rfl h_ f0_ f1_ f2_ f3_ f4_ f5_ f6_) l1 l2 l3 ((0 : Int32)) I J (h) (by (try simp only [t1.o, true_or, or_true, true_and, and_true]); first | done | omega) (by (try simp only [t1.o, true_or, or_true, true_and, and_true]); first | done | omega) (by (try simp only [t1.o, true_or, or_true, true_and, and_true]); first | done | omega) (by (try simp only [t1.o, true_or, or_true, true_and, and_true]); first | done | omega) (by (try simp only [t1.o, true_or, or_true, true_and, and_true]); first | done | omega) (by (try simp only [t1.o, true_or, or_true, true_and, and_true]); first | done | omega) (by (try simp only [t1.o, true_or, or_true, true_and, and_true]); first | done | omega) (by (try simp only [t1.o, true_or, or_true, true_and, and_true]); first | done | omega) (by (try simp only [t1.o, true_or, or_true, true_and, and_true]); first | done | omega) (mleq hm (by (try simp only [t1.o, true_or, or_true, true_and, and_true]); first | done | omega))
      · have c71 := j_ne q69 (ti_r (e := l3)) t1
        refine mPeek (by omega) ?_
        intro r5 g5a
        refine mSmall  ?_
        intro r6 g6a
        refine ⟨fun q72 => ?_, fun q72 => ?_⟩
        · have c73 := j_eq q72 (ti_r (e := r6)) (ti_r (e := l2))
          have t74 : TI (1 : Int32) (1) := show (1 : Int32).toInt = 1 by decide
          exact xNext_221 k (fun l1_ l2_ l3_ I_ J_ h_ hlt f0_ f1_ f2_ f3_ f4_ f5_ f6_ => ih _ hlt l1_ l2_ l3_ I_ J_ rfl h_ f0_ f1_ f2_ f3_ f4_ f5_ f6_) l1 l2 l3 ((1 : Int32)) I J (h) (by (try simp only [t74.o, true_or, or_true, true_and, and_true]); first | done | omega) (by (try simp only [t74.o, true_or, or_true, true_and, and_true]); first | done | omega) (by (try simp only [t74.o, true_or, or_true, true_and, and_true]); first | done | omega) (by (try simp only [t74.o, true_or, or_true, true_and, and_true]); first | done | omega) (by (try simp only [t74.o, true_or, or_true, true_and, and_true]); first | done | omega) (by (try simp only [t74.o, true_or, or_true, true_and, and_true]); first | done | omega) (by (try simp only [t74.o, true_or, or_true, true_and, and_true]); first | done | omega) (by (try simp only [t74.o, true_or, or_true, true_and, and_true]); first | done | omega) (by (try simp only [t74.o, true_or, or_true, true_and, and_true]); first | done | omega) (mleq hm (by (try simp only [t74.o, true_or, or_true, true_and, and_true]); first | done | omega))
        · have c75 := j_ne q72 (ti_r (e := r6)) (ti_r (e := l2))
          exact xNext_221 k (fun l1_ l2_ l3_ I_ J_ h_ hlt f0_ f1_ f2_ f3_ f4_ f5_ f6_ => ih _ hlt l1_ l2_ l3_ I_ J_ rfl h_ f0_ f1_ f2_ f3_ f4_ f5_ f6_) l1 l2 l3 ((0 : Int32)) I J (h) (by (try simp only [t1.o, true_or, or_true, true_and, and_true]); first | done | omega) (by (try simp only [t1.o, true_or, or_true, true_and, and_true]); first | done | omega) (by (try simp only [t1.o, true_or, or_true, true_and, and_true]); first | done | omega) (by (try simp only [t1.o, true_or, or_true, true_and, and_true]); first | done | omega) (by (try simp only [t1.o, true_or, or_true, true_and, and_true]); first | done | omega) (by (try simp only [t1.o, true_or, or_true, true_and, and_true]); first | done | omega) (by (try simp only [t1.o, true_or, or_true, true_and, and_true]); first | done | omega) (by (try simp only [t1.o, true_or, or_true, true_and, and_true]); first | done | omega) (by (try simp only [t1.o, true_or, or_true, true_and, and_true]); first | done | omega) (mleq hm (by (try simp only [t1.o, true_or, or_true, true_and, and_true]); first | done | omega))
  · have c76 := j_ne q2 (ti_r (e := r2)) t1
    refine ⟨fun q77 => ?_, fun q77 => ?_⟩
    · have c78 := j_eq q77 (ti_r (e := l3)) t1
      exact xNext_221 k (fun l1_ l2_ l3_ I_ J_ h_ hlt f0_ f1_ f2_ f3_ f4_ f5_ f6_ => ih _ hlt l1_ l2_ l3_ I_ J_ rfl h_ f0_ f1_ f2_ f3_ f4_ f5_ f6_) l1 l2 l3 ((0 : Int32)) I J (h) (by (try simp only [t1.o, true_or, or_true, true_and, and_true]); first | done | omega) (by (try simp only [t1.o, true_or, or_true, true_and, and_true]); first | done | omega) (by (try simp only [t1.o, true_or, or_true, true_and, and_true]); first | done | omega) (by (try simp only [t1.o, true_or, or_true, true_and, and_true]); first | done | omega) (by (try simp only [t1.o, true_or, or_true, true_and, and_true]); first | done | omega) (by (try simp only [t1.o, true_or, or_true, true_and, and_true]); first | done | omega) (by (try simp only [t1.o, true_or, or_true, true_and, and_true]); first | done | omega) (by (try simp only [t1.o, true_or, or_true, true_and, and_true]); first | done | omega) (by (try simp only [t1.o, true_or, or_true, true_and, and_true]); first | done | omega) (mleq hm (by (try simp only [t1.o, true_or, or_true, true_and, and_true]); first | done | omega))
    · have c79 := j_ne q77 (ti_r (e := l3)) t1
      refine mPeek (by omega) ?_
      intro r7 g7a
      refine mSmall  ?_
      intro r8 g8a
      refine ⟨fun q80 => ?_, fun q80 => ?_⟩
      · have c81 := j_eq q80 (ti_r (e := r8)) (ti_r (e := l2))
        have t82 : TI (1 : Int32) (1) := show (1 : Int32).toInt = 1 by decide
        exact xNext_221 k (fun l1_ l2_ l3_ I_ J_ h_ hlt f0_ f1_ f2_ f3_ f4_ f5_ f6_ => ih _ hlt l1_ l2_ l3_ I_ J_ rfl h_ f0_ f1_ f2_ f3_ f4_ f5_ f6_) l1 l2 l3 ((1 : Int32)) I J (h) (by (try simp only [t82.o, true_or, or_true, true_and, and_true]); first | done | omega) (by (try simp only [t82.o, true_or, or_true, true_and, and_true]); first | done | omega) (by (try simp only [t82.o, true_or, or_true, true_and, and_true]); first | done | omega) (by (try simp only [t82.o, true_or, or_true, true_and, and_true]); first | done | omega) (by (try simp only [t82.o, true_or, or_true, true_and, and_true]); first | done | omega) (by (try simp only [t82.o, true_or, or_true, true_and, and_true]); first | done | omega) (by (try simp only [t82.o, true_or, or_true, true_and, and_true]); first | done | omega) (by (try simp only [t82.o, true_or, or_true, true_and, and_true]); first | done | omega) (by (try simp only [t82.o, true_or, or_true, true_and, and_true]); first | done | omega) (mleq hm (by (try simp only [t82.o, true_or, or_true, true_and, and_true]); first | done | omega))
      · have c83 := j_ne q80 (ti_r (e := r8)) (ti_r (e := l2))
        exact xNext_221 k (fun l1_ l2_ l3_ I_ J_ h_ hlt f0_ f1_ f2_ f3_ f4_ f5_ f6_ => ih _ hlt l1_ l2_ l3_ I_ J_ rfl h_ f0_ f1_ f2_ f3_ f4_ f5_ f6_) l1 l2 l3 ((0 : Int32)) I J (h) (by (try simp only [t1.o, true_or, or_true, true_and, and_true]); first | done | omega) (by (try simp only [t1.o, true_or, or_true, true_and, and_true]); first | done | omega) (by (try simp only [t1.o, true_or, or_true, true_and, and_true]); first | done | omega) (by (try simp only [t1.o, true_or, or_true, true_and, and_true]); first | done | omega) (by (try simp only [t1.o, true_or, or_true, true_and, and_true]); first | done | omega) (by (try simp only [t1.o, true_or, or_true, true_and, and_true]); first | done | omega) (by (try simp only [t1.o, true_or, or_true, true_and, and_true]); first | done | omega) (by (try simp only [t1.o, true_or, or_true, true_and, and_true]); first | done | omega) (by (try simp only [t1.o, true_or, or_true, true_and, and_true]); first | done | omega) (mleq hm (by (try simp only [t1.o, true_or, or_true, true_and, and_true]); first | done | omega))
theorem xNext_80 {S : Nat × (Nat → Int32)} {d : Nat} {x : mX} {B0 : rI0} {K0 : rJ0} {P : Int} {Q : rI0 → rJ0 → Prop} (k : ∀ I J, (Nx_ B0 K0 P I J) → ((((I 43 9).toInt ≠ 1 ∨ (0 ≤ (I 43 11).toInt ∧ (I 43 11).toInt ≤ 8 ∧ 0 ≤ (I 43 10).toInt ∧ (I 43 10).toInt + (I 43 11).toInt ≤ 940)) ∧ ((I 43 9).toInt ≠ 2 ∨ (0 ≤ (I 43 12).toInt ∧ (I 43 12).toInt ≤ 999))) ∧ ((I 43 9).toInt ≠ 3 ∨ P < (I 43 4).toInt)) → Q I J) : ∀  (I : rI0) (J : rJ0), (Nx_ B0 K0 P I J) → ((I 43 10).toInt = (I 43 4).toInt) → ((I 43 11).toInt = 0) → wp S (d + 1) 161 80 [some (.ref 43), none, none, none] [] (wv x I J) (rV x Q) := by
  intro I J h e0 e1
  have bh := h.bnd
  refine v161_43_80 ?_
  refine mPeek (by omega) ?_
  intro r1 g1a
  have t1 : TI (0 : Int32) (0) := show (0 : Int32).toInt = 0 by decide
  refine ⟨fun q2 => ?_, fun q2 => ?_⟩
  · have c3 := j_lt q2 (ti_r (e := r1)) t1
    have z4 : TI ((mSet I 43 9 (0 : Int32)) 43 4) (I 43 4).toInt := (ti_r : TI (I 43 4) (I 43 4).toInt)
    have z5 : TI ((mSet I 43 9 (0 : Int32)) 43 9) 0 := (t1 : TI (0 : Int32) 0)
    have z6 : TI ((mSet I 43 9 (0 : Int32)) 43 10) (I 43 10).toInt := (ti_r : TI (I 43 10) (I 43 10).toInt)
    have z7 : TI ((mSet I 43 9 (0 : Int32)) 43 11) (I 43 11).toInt := (ti_r : TI (I 43 11) (I 43 11).toInt)
    have z8 : TI ((mSet I 43 9 (0 : Int32)) 43 12) (I 43 12).toInt := (ti_r : TI (I 43 12) (I 43 12).toInt)
    exact k _ _ (Nx_.sf (k := 9) (h) (by decide)) (by (try simp only [z4.o, z5.o, z6.o, z7.o, z8.o, true_or, or_true, true_and, and_true]); first | done | omega)
  · have c9 := j_nlt q2 (ti_r (e := r1)) t1
    refine mSmall  ?_
    intro r2 g2a
    refine ⟨fun q10 => ?_, fun q10 => ?_⟩
    · have c11 := j_eq q10 (ti_r (e := r2)) t1
      refine mDigit  ?_
      intro r3 g3a
      refine ⟨fun q12 => ?_, fun q12 => ?_⟩
      · have c13 := j_eq q12 (ti_r (e := r3)) t1
        have t14 : TI (59 : Int32) (59) := show (59 : Int32).toInt = 59 by decide
        refine ⟨fun q15 => ?_, fun q15 => ?_⟩
        · have c16 := j_eq q15 (ti_r (e := r1)) t14
          have t17 : TI (1 : Int32) (1) := show (1 : Int32).toInt = 1 by decide
          have t18 : TI ((I 43 4) + (1 : Int32)) ((I 43 4).toInt + 1) := ti_add ti_r t17 (by omega)
          have z19 : TI ((mSet (mSet (mSet I 43 9 (3 : Int32)) 43 12 r1) 43 4 ((I 43 4) + (1 : Int32))) 43 4) ((I 43 4).toInt + 1) := (t18 : TI ((I 43 4) + (1 : Int32)) ((I 43 4).toInt + 1))
          have t20 : TI (3 : Int32) (3) := show (3 : Int32).toInt = 3 by decide
          have z21 : TI ((mSet (mSet (mSet I 43 9 (3 : Int32)) 43 12 r1) 43 4 ((I 43 4) + (1 : Int32))) 43 9) 3 := (t20 : TI (3 : Int32) 3)
          have z22 : TI ((mSet (mSet (mSet I 43 9 (3 : Int32)) 43 12 r1) 43 4 ((I 43 4) + (1 : Int32))) 43 10) (I 43 10).toInt := (ti_r : TI (I 43 10) (I 43 10).toInt)
          have z23 : TI ((mSet (mSet (mSet I 43 9 (3 : Int32)) 43 12 r1) 43 4 ((I 43 4) + (1 : Int32))) 43 11) (I 43 11).toInt := (ti_r : TI (I 43 11) (I 43 11).toInt)
          have z24 : TI ((mSet (mSet (mSet I 43 9 (3 : Int32)) 43 12 r1) 43 4 ((I 43 4) + (1 : Int32))) 43 12) r1.toInt := (ti_r : TI (r1) r1.toInt)
          exact k _ _ (Nx_.s4 (Nx_.sf (k := 12) (Nx_.sf (k := 9) (h) (by decide)) (by decide)) (v := ((I 43 4) + (1 : Int32))) (M := (I 43 3).toInt) rfl (by (try simp only [t18.o, true_or, or_true, true_and, and_true]); first | done | omega)) (by (try simp only [z19.o, z21.o, z22.o, z23.o, z24.o, true_or, or_true, true_and, and_true]); first | done | omega)
        · have c25 := j_ne q15 (ti_r (e := r1)) t14
          have t26 : TI (40 : Int32) (40) := show (40 : Int32).toInt = 40 by decide
          refine ⟨fun q27 => ?_, fun q27 => ?_⟩
          · have c28 := j_eq q27 (ti_r (e := r1)) t26
            have t29 : TI (1 : Int32) (1) := show (1 : Int32).toInt = 1 by decide
            have t30 : TI ((I 43 4) + (1 : Int32)) ((I 43 4).toInt + 1) := ti_add ti_r t29 (by omega)
            have z31 : TI ((mSet (mSet (mSet I 43 9 (3 : Int32)) 43 12 r1) 43 4 ((I 43 4) + (1 : Int32))) 43 4) ((I 43 4).toInt + 1) := (t30 : TI ((I 43 4) + (1 : Int32)) ((I 43 4).toInt + 1))
            have t32 : TI (3 : Int32) (3) := show (3 : Int32).toInt = 3 by decide
            have z33 : TI ((mSet (mSet (mSet I 43 9 (3 : Int32)) 43 12 r1) 43 4 ((I 43 4) + (1 : Int32))) 43 9) 3 := (t32 : TI (3 : Int32) 3)
            have z34 : TI ((mSet (mSet (mSet I 43 9 (3 : Int32)) 43 12 r1) 43 4 ((I 43 4) + (1 : Int32))) 43 10) (I 43 10).toInt := (ti_r : TI (I 43 10) (I 43 10).toInt)
            have z35 : TI ((mSet (mSet (mSet I 43 9 (3 : Int32)) 43 12 r1) 43 4 ((I 43 4) + (1 : Int32))) 43 11) (I 43 11).toInt := (ti_r : TI (I 43 11) (I 43 11).toInt)
            have z36 : TI ((mSet (mSet (mSet I 43 9 (3 : Int32)) 43 12 r1) 43 4 ((I 43 4) + (1 : Int32))) 43 12) r1.toInt := (ti_r : TI (r1) r1.toInt)
            exact k _ _ (Nx_.s4 (Nx_.sf (k := 12) (Nx_.sf (k := 9) (h) (by decide)) (by decide)) (v := ((I 43 4) + (1 : Int32))) (M := (I 43 3).toInt) rfl (by (try simp only [t30.o, true_or, or_true, true_and, and_true]); first | done | omega)) (by (try simp only [z31.o, z33.o, z34.o, z35.o, z36.o, true_or, or_true, true_and, and_true]); first | done | omega)
          · have c37 := j_ne q27 (ti_r (e := r1)) t26
            have t38 : TI (41 : Int32) (41) := show (41 : Int32).toInt = 41 by decide
            refine ⟨fun q39 => ?_, fun q39 => ?_⟩
            · have c40 := j_eq q39 (ti_r (e := r1)) t38
              have t41 : TI (1 : Int32) (1) := show (1 : Int32).toInt = 1 by decide
              have t42 : TI ((I 43 4) + (1 : Int32)) ((I 43 4).toInt + 1) := ti_add ti_r t41 (by omega)
              have z43 : TI ((mSet (mSet (mSet I 43 9 (3 : Int32)) 43 12 r1) 43 4 ((I 43 4) + (1 : Int32))) 43 4) ((I 43 4).toInt + 1) := (t42 : TI ((I 43 4) + (1 : Int32)) ((I 43 4).toInt + 1))
              have t44 : TI (3 : Int32) (3) := show (3 : Int32).toInt = 3 by decide
              have z45 : TI ((mSet (mSet (mSet I 43 9 (3 : Int32)) 43 12 r1) 43 4 ((I 43 4) + (1 : Int32))) 43 9) 3 := (t44 : TI (3 : Int32) 3)
              have z46 : TI ((mSet (mSet (mSet I 43 9 (3 : Int32)) 43 12 r1) 43 4 ((I 43 4) + (1 : Int32))) 43 10) (I 43 10).toInt := (ti_r : TI (I 43 10) (I 43 10).toInt)
              have z47 : TI ((mSet (mSet (mSet I 43 9 (3 : Int32)) 43 12 r1) 43 4 ((I 43 4) + (1 : Int32))) 43 11) (I 43 11).toInt := (ti_r : TI (I 43 11) (I 43 11).toInt)
              have z48 : TI ((mSet (mSet (mSet I 43 9 (3 : Int32)) 43 12 r1) 43 4 ((I 43 4) + (1 : Int32))) 43 12) r1.toInt := (ti_r : TI (r1) r1.toInt)
              exact k _ _ (Nx_.s4 (Nx_.sf (k := 12) (Nx_.sf (k := 9) (h) (by decide)) (by decide)) (v := ((I 43 4) + (1 : Int32))) (M := (I 43 3).toInt) rfl (by (try simp only [t42.o, true_or, or_true, true_and, and_true]); first | done | omega)) (by (try simp only [z43.o, z45.o, z46.o, z47.o, z48.o, true_or, or_true, true_and, and_true]); first | done | omega)
            · have c49 := j_ne q39 (ti_r (e := r1)) t38
              have t50 : TI (60 : Int32) (60) := show (60 : Int32).toInt = 60 by decide
              refine ⟨fun q51 => ?_, fun q51 => ?_⟩
              · have c52 := j_lt q51 (ti_r (e := r1)) t50
                have t53 : TI (1 : Int32) (1) := show (1 : Int32).toInt = 1 by decide
                have t54 : TI ((I 43 4) + (1 : Int32)) ((I 43 4).toInt + 1) := ti_add ti_r t53 (by omega)
                have z55 : TI ((mSet (mSet (mSet I 43 9 (4 : Int32)) 43 12 r1) 43 4 ((I 43 4) + (1 : Int32))) 43 4) ((I 43 4).toInt + 1) := (t54 : TI ((I 43 4) + (1 : Int32)) ((I 43 4).toInt + 1))
                have t56 : TI (4 : Int32) (4) := show (4 : Int32).toInt = 4 by decide
                have z57 : TI ((mSet (mSet (mSet I 43 9 (4 : Int32)) 43 12 r1) 43 4 ((I 43 4) + (1 : Int32))) 43 9) 4 := (t56 : TI (4 : Int32) 4)
                have z58 : TI ((mSet (mSet (mSet I 43 9 (4 : Int32)) 43 12 r1) 43 4 ((I 43 4) + (1 : Int32))) 43 10) (I 43 10).toInt := (ti_r : TI (I 43 10) (I 43 10).toInt)
                have z59 : TI ((mSet (mSet (mSet I 43 9 (4 : Int32)) 43 12 r1) 43 4 ((I 43 4) + (1 : Int32))) 43 11) (I 43 11).toInt := (ti_r : TI (I 43 11) (I 43 11).toInt)
                have z60 : TI ((mSet (mSet (mSet I 43 9 (4 : Int32)) 43 12 r1) 43 4 ((I 43 4) + (1 : Int32))) 43 12) r1.toInt := (ti_r : TI (r1) r1.toInt)
                exact k _ _ (Nx_.s4 (Nx_.sf (k := 12) (Nx_.sf (k := 9) (h) (by decide)) (by decide)) (v := ((I 43 4) + (1 : Int32))) (M := (I 43 3).toInt) rfl (by (try simp only [t54.o, true_or, or_true, true_and, and_true]); first | done | omega)) (by (try simp only [z55.o, z57.o, z58.o, z59.o, z60.o, true_or, or_true, true_and, and_true]); first | done | omega)
              · have c61 := j_nlt q51 (ti_r (e := r1)) t50
                have t62 : TI (62 : Int32) (62) := show (62 : Int32).toInt = 62 by decide
                refine ⟨fun q63 => ?_, fun q63 => ?_⟩
                · have c64 := j_lt q63 t62 (ti_r (e := r1))
                  have t65 : TI (1 : Int32) (1) := show (1 : Int32).toInt = 1 by decide
                  have t66 : TI ((I 43 4) + (1 : Int32)) ((I 43 4).toInt + 1) := ti_add ti_r t65 (by omega)
                  have z67 : TI ((mSet (mSet (mSet I 43 9 (4 : Int32)) 43 12 r1) 43 4 ((I 43 4) + (1 : Int32))) 43 4) ((I 43 4).toInt + 1) := (t66 : TI ((I 43 4) + (1 : Int32)) ((I 43 4).toInt + 1))
                  have t68 : TI (4 : Int32) (4) := show (4 : Int32).toInt = 4 by decide
                  have z69 : TI ((mSet (mSet (mSet I 43 9 (4 : Int32)) 43 12 r1) 43 4 ((I 43 4) + (1 : Int32))) 43 9) 4 := (t68 : TI (4 : Int32) 4)
                  have z70 : TI ((mSet (mSet (mSet I 43 9 (4 : Int32)) 43 12 r1) 43 4 ((I 43 4) + (1 : Int32))) 43 10) (I 43 10).toInt := (ti_r : TI (I 43 10) (I 43 10).toInt)
                  have z71 : TI ((mSet (mSet (mSet I 43 9 (4 : Int32)) 43 12 r1) 43 4 ((I 43 4) + (1 : Int32))) 43 11) (I 43 11).toInt := (ti_r : TI (I 43 11) (I 43 11).toInt)
                  have z72 : TI ((mSet (mSet (mSet I 43 9 (4 : Int32)) 43 12 r1) 43 4 ((I 43 4) + (1 : Int32))) 43 12) r1.toInt := (ti_r : TI (r1) r1.toInt)
                  exact k _ _ (Nx_.s4 (Nx_.sf (k := 12) (Nx_.sf (k := 9) (h) (by decide)) (by decide)) (v := ((I 43 4) + (1 : Int32))) (M := (I 43 3).toInt) rfl (by (try simp only [t66.o, true_or, or_true, true_and, and_true]); first | done | omega)) (by (try simp only [z67.o, z69.o, z70.o, z71.o, z72.o, true_or, or_true, true_and, and_true]); first | done | omega)
                · have c73 := j_nlt q63 t62 (ti_r (e := r1))
                  have t74 : TI (1 : Int32) (1) := show (1 : Int32).toInt = 1 by decide
                  have t75 : TI ((I 43 4) + (1 : Int32)) ((I 43 4).toInt + 1) := ti_add ti_r t74 (by omega)
                  have z76 : TI ((mSet (mSet (mSet I 43 9 (3 : Int32)) 43 12 r1) 43 4 ((I 43 4) + (1 : Int32))) 43 4) ((I 43 4).toInt + 1) := (t75 : TI ((I 43 4) + (1 : Int32)) ((I 43 4).toInt + 1))
                  have t77 : TI (3 : Int32) (3) := show (3 : Int32).toInt = 3 by decide
                  have z78 : TI ((mSet (mSet (mSet I 43 9 (3 : Int32)) 43 12 r1) 43 4 ((I 43 4) + (1 : Int32))) 43 9) 3 := (t77 : TI (3 : Int32) 3)
                  have z79 : TI ((mSet (mSet (mSet I 43 9 (3 : Int32)) 43 12 r1) 43 4 ((I 43 4) + (1 : Int32))) 43 10) (I 43 10).toInt := (ti_r : TI (I 43 10) (I 43 10).toInt)
                  have z80 : TI ((mSet (mSet (mSet I 43 9 (3 : Int32)) 43 12 r1) 43 4 ((I 43 4) + (1 : Int32))) 43 11) (I 43 11).toInt := (ti_r : TI (I 43 11) (I 43 11).toInt)
                  have z81 : TI ((mSet (mSet (mSet I 43 9 (3 : Int32)) 43 12 r1) 43 4 ((I 43 4) + (1 : Int32))) 43 12) r1.toInt := (ti_r : TI (r1) r1.toInt)
                  exact k _ _ (Nx_.s4 (Nx_.sf (k := 12) (Nx_.sf (k := 9) (h) (by decide)) (by decide)) (v := ((I 43 4) + (1 : Int32))) (M := (I 43 3).toInt) rfl (by (try simp only [t75.o, true_or, or_true, true_and, and_true]); first | done | omega)) (by (try simp only [z76.o, z78.o, z79.o, z80.o, z81.o, true_or, or_true, true_and, and_true]); first | done | omega)
      · have c82 := j_ne q12 (ti_r (e := r3)) t1
        refine mSmall  ?_
        intro r4 g4a
        have t83 : TI (1 : Int32) (1) := show (1 : Int32).toInt = 1 by decide
        have z84 : TI ((mSet I 43 12 (0 : Int32)) 43 3) (I 43 3).toInt := (ti_r : TI (I 43 3) (I 43 3).toInt)
        have z85 : TI ((mSet I 43 12 (0 : Int32)) 43 4) (I 43 4).toInt := (ti_r : TI (I 43 4) (I 43 4).toInt)
        have z86 : TI ((mSet I 43 12 (0 : Int32)) 43 10) (I 43 10).toInt := (ti_r : TI (I 43 10) (I 43 10).toInt)
        have z87 : TI ((mSet I 43 12 (0 : Int32)) 43 11) (I 43 11).toInt := (ti_r : TI (I 43 11) (I 43 11).toInt)
        have z88 : TI ((mSet I 43 12 (0 : Int32)) 43 12) 0 := (t1 : TI (0 : Int32) 0)
        exact xNext_181 k _ r1 r4 ((1 : Int32)) (mSet I 43 12 (0 : Int32)) (mSet J 43 15 (0 : Int64)) rfl (Nx_.sw (Nx_.sf (k := 12) (h) (by decide))) (by (try simp only [t83.o, z84.o, z85.o, z86.o, z87.o, z88.o, true_or, or_true, true_and, and_true]); first | done | omega) (by (try simp only [t83.o, z84.o, z85.o, z86.o, z87.o, z88.o, true_or, or_true, true_and, and_true]); first | done | omega) (by (try simp only [t83.o, z84.o, z85.o, z86.o, z87.o, z88.o, true_or, or_true, true_and, and_true]); first | done | omega) (by (try simp only [t83.o, z84.o, z85.o, z86.o, z87.o, z88.o, true_or, or_true, true_and, and_true]); first | done | omega) (by (try simp only [t83.o, z84.o, z85.o, z86.o, z87.o, z88.o, true_or, or_true, true_and, and_true]); first | done | omega) (by (try simp only [t83.o, z84.o, z85.o, z86.o, z87.o, z88.o, true_or, or_true, true_and, and_true]); first | done | omega) (by (try simp only [t83.o, z84.o, z85.o, z86.o, z87.o, z88.o, true_or, or_true, true_and, and_true]); first | done | omega)
    · have c89 := j_ne q10 (ti_r (e := r2)) t1
      refine mSmall  ?_
      intro r5 g5a
      have t90 : TI (1 : Int32) (1) := show (1 : Int32).toInt = 1 by decide
      have z91 : TI ((mSet I 43 12 (0 : Int32)) 43 3) (I 43 3).toInt := (ti_r : TI (I 43 3) (I 43 3).toInt)
      have z92 : TI ((mSet I 43 12 (0 : Int32)) 43 4) (I 43 4).toInt := (ti_r : TI (I 43 4) (I 43 4).toInt)
      have z93 : TI ((mSet I 43 12 (0 : Int32)) 43 10) (I 43 10).toInt := (ti_r : TI (I 43 10) (I 43 10).toInt)
      have z94 : TI ((mSet I 43 12 (0 : Int32)) 43 11) (I 43 11).toInt := (ti_r : TI (I 43 11) (I 43 11).toInt)
      have z95 : TI ((mSet I 43 12 (0 : Int32)) 43 12) 0 := (t1 : TI (0 : Int32) 0)
      exact xNext_181 k _ r1 r5 ((1 : Int32)) (mSet I 43 12 (0 : Int32)) (mSet J 43 15 (0 : Int64)) rfl (Nx_.sw (Nx_.sf (k := 12) (h) (by decide))) (by (try simp only [t90.o, z91.o, z92.o, z93.o, z94.o, z95.o, true_or, or_true, true_and, and_true]); first | done | omega) (by (try simp only [t90.o, z91.o, z92.o, z93.o, z94.o, z95.o, true_or, or_true, true_and, and_true]); first | done | omega) (by (try simp only [t90.o, z91.o, z92.o, z93.o, z94.o, z95.o, true_or, or_true, true_and, and_true]); first | done | omega) (by (try simp only [t90.o, z91.o, z92.o, z93.o, z94.o, z95.o, true_or, or_true, true_and, and_true]); first | done | omega) (by (try simp only [t90.o, z91.o, z92.o, z93.o, z94.o, z95.o, true_or, or_true, true_and, and_true]); first | done | omega) (by (try simp only [t90.o, z91.o, z92.o, z93.o, z94.o, z95.o, true_or, or_true, true_and, and_true]); first | done | omega) (by (try simp only [t90.o, z91.o, z92.o, z93.o, z94.o, z95.o, true_or, or_true, true_and, and_true]); first | done | omega)
theorem xNext_0 {S : Nat × (Nat → Int32)} {d : Nat} {x : mX} {B0 : rI0} {K0 : rJ0} {P : Int} {Q : rI0 → rJ0 → Prop} (k : ∀ I J, (Nx_ B0 K0 P I J) → ((((I 43 9).toInt ≠ 1 ∨ (0 ≤ (I 43 11).toInt ∧ (I 43 11).toInt ≤ 8 ∧ 0 ≤ (I 43 10).toInt ∧ (I 43 10).toInt + (I 43 11).toInt ≤ 940)) ∧ ((I 43 9).toInt ≠ 2 ∨ (0 ≤ (I 43 12).toInt ∧ (I 43 12).toInt ≤ 999))) ∧ ((I 43 9).toInt ≠ 3 ∨ P < (I 43 4).toInt)) → Q I J) : ∀ (n : Nat)  (I : rI0) (J : rJ0), (Neq ((I 43 3).toInt - (I 43 4).toInt).toNat n) → (Nx_ B0 K0 P I J) → wp S (d + 1) 161 0 [some (.ref 43), none, none, none] [] (wv x I J) (rV x Q) := by
  refine lpn ?_
  intro n ih
  intro I J hm h
  have bh := h.bnd
  refine v161_43_0 ?_
  refine mPeek (by omega) ?_
  intro r1 g1a
  have t1 : TI (32 : Int32) (32) := show (32 : Int32).toInt = 32 by decide
  refine ⟨fun q2 => ?_, fun q2 => ?_⟩
  · have c3 := j_eq q2 (ti_r (e := r1)) t1
    have t4 : TI (1 : Int32) (1) := show (1 : Int32).toInt = 1 by decide
    have t5 : TI ((I 43 4) + (1 : Int32)) ((I 43 4).toInt + 1) := ti_add ti_r t4 (by omega)
    have z6 : TI ((mSet I 43 4 ((I 43 4) + (1 : Int32))) 43 3) (I 43 3).toInt := (ti_r : TI (I 43 3) (I 43 3).toInt)
    have z7 : TI ((mSet I 43 4 ((I 43 4) + (1 : Int32))) 43 4) ((I 43 4).toInt + 1) := (t5 : TI ((I 43 4) + (1 : Int32)) ((I 43 4).toInt + 1))
    exact ih _ (mih hm (by (try simp only [z6.o, z7.o, true_or, or_true, true_and, and_true]); first | done | omega) (by omega)) (mSet I 43 4 ((I 43 4) + (1 : Int32))) J rfl (Nx_.s4 (h) (v := ((I 43 4) + (1 : Int32))) (M := (I 43 3).toInt) rfl (by (try simp only [t5.o, true_or, or_true, true_and, and_true]); first | done | omega))
  · have c8 := j_ne q2 (ti_r (e := r1)) t1
    refine mPeek (by omega) ?_
    intro r2 g2a
    have t9 : TI (10 : Int32) (10) := show (10 : Int32).toInt = 10 by decide
    refine ⟨fun q10 => ?_, fun q10 => ?_⟩
    · have c11 := j_eq q10 (ti_r (e := r2)) t9
      have t12 : TI (1 : Int32) (1) := show (1 : Int32).toInt = 1 by decide
      have t13 : TI ((I 43 4) + (1 : Int32)) ((I 43 4).toInt + 1) := ti_add ti_r t12 (by omega)
      have z14 : TI ((mSet I 43 4 ((I 43 4) + (1 : Int32))) 43 3) (I 43 3).toInt := (ti_r : TI (I 43 3) (I 43 3).toInt)
      have z15 : TI ((mSet I 43 4 ((I 43 4) + (1 : Int32))) 43 4) ((I 43 4).toInt + 1) := (t13 : TI ((I 43 4) + (1 : Int32)) ((I 43 4).toInt + 1))
      exact ih _ (mih hm (by (try simp only [z14.o, z15.o, true_or, or_true, true_and, and_true]); first | done | omega) (by omega)) (mSet I 43 4 ((I 43 4) + (1 : Int32))) J rfl (Nx_.s4 (h) (v := ((I 43 4) + (1 : Int32))) (M := (I 43 3).toInt) rfl (by (try simp only [t13.o, true_or, or_true, true_and, and_true]); first | done | omega))
    · have c16 := j_ne q10 (ti_r (e := r2)) t9
      refine ⟨fun q17 => ?_, fun q17 => ?_⟩
      · have c18 := j_lt q17 (ti_r (e := (I 43 5))) (ti_r (e := (I 43 3)))
        refine ⟨fun q19 => ?_, fun q19 => ?_⟩
        · have c20 := j_lt q19 (ti_r (e := (I 43 4))) (ti_r (e := (I 43 5)))
          have z21 : TI ((mSet (mSet I 43 10 (I 43 4)) 43 11 (0 : Int32)) 43 3) (I 43 3).toInt := (ti_r : TI (I 43 3) (I 43 3).toInt)
          have z22 : TI ((mSet (mSet I 43 10 (I 43 4)) 43 11 (0 : Int32)) 43 4) (I 43 4).toInt := (ti_r : TI (I 43 4) (I 43 4).toInt)
          have z23 : TI ((mSet (mSet I 43 10 (I 43 4)) 43 11 (0 : Int32)) 43 10) (I 43 4).toInt := (ti_r : TI (I 43 4) (I 43 4).toInt)
          have t24 : TI (0 : Int32) (0) := show (0 : Int32).toInt = 0 by decide
          have z25 : TI ((mSet (mSet I 43 10 (I 43 4)) 43 11 (0 : Int32)) 43 11) 0 := (t24 : TI (0 : Int32) 0)
          exact xNext_80 k (mSet (mSet I 43 10 (I 43 4)) 43 11 (0 : Int32)) J (Nx_.sf (k := 11) (Nx_.sf (k := 10) (h) (by decide)) (by decide)) (by (try simp only [z21.o, z22.o, z23.o, z25.o, true_or, or_true, true_and, and_true]); first | done | omega) (by (try simp only [z21.o, z22.o, z23.o, z25.o, true_or, or_true, true_and, and_true]); first | done | omega)
        · have c26 := j_nlt q19 (ti_r (e := (I 43 4))) (ti_r (e := (I 43 5)))
          have z27 : TI ((mSet (mSet (mSet (mSet I 43 10 (I 43 4)) 43 11 (0 : Int32)) 43 10 (I 43 5)) 43 9 (4 : Int32)) 43 4) (I 43 4).toInt := (ti_r : TI (I 43 4) (I 43 4).toInt)
          have t28 : TI (4 : Int32) (4) := show (4 : Int32).toInt = 4 by decide
          have z29 : TI ((mSet (mSet (mSet (mSet I 43 10 (I 43 4)) 43 11 (0 : Int32)) 43 10 (I 43 5)) 43 9 (4 : Int32)) 43 9) 4 := (t28 : TI (4 : Int32) 4)
          have z30 : TI ((mSet (mSet (mSet (mSet I 43 10 (I 43 4)) 43 11 (0 : Int32)) 43 10 (I 43 5)) 43 9 (4 : Int32)) 43 10) (I 43 5).toInt := (ti_r : TI (I 43 5) (I 43 5).toInt)
          have t31 : TI (0 : Int32) (0) := show (0 : Int32).toInt = 0 by decide
          have z32 : TI ((mSet (mSet (mSet (mSet I 43 10 (I 43 4)) 43 11 (0 : Int32)) 43 10 (I 43 5)) 43 9 (4 : Int32)) 43 11) 0 := (t31 : TI (0 : Int32) 0)
          have z33 : TI ((mSet (mSet (mSet (mSet I 43 10 (I 43 4)) 43 11 (0 : Int32)) 43 10 (I 43 5)) 43 9 (4 : Int32)) 43 12) (I 43 12).toInt := (ti_r : TI (I 43 12) (I 43 12).toInt)
          exact k _ _ (Nx_.sf (k := 9) (Nx_.sf (k := 10) (Nx_.sf (k := 11) (Nx_.sf (k := 10) (h) (by decide)) (by decide)) (by decide)) (by decide)) (by (try simp only [z27.o, z29.o, z30.o, z32.o, z33.o, true_or, or_true, true_and, and_true]); first | done | omega)
      · have c34 := j_nlt q17 (ti_r (e := (I 43 5))) (ti_r (e := (I 43 3)))
        have z35 : TI ((mSet (mSet I 43 10 (I 43 4)) 43 11 (0 : Int32)) 43 3) (I 43 3).toInt := (ti_r : TI (I 43 3) (I 43 3).toInt)
        have z36 : TI ((mSet (mSet I 43 10 (I 43 4)) 43 11 (0 : Int32)) 43 4) (I 43 4).toInt := (ti_r : TI (I 43 4) (I 43 4).toInt)
        have z37 : TI ((mSet (mSet I 43 10 (I 43 4)) 43 11 (0 : Int32)) 43 10) (I 43 4).toInt := (ti_r : TI (I 43 4) (I 43 4).toInt)
        have t38 : TI (0 : Int32) (0) := show (0 : Int32).toInt = 0 by decide
        have z39 : TI ((mSet (mSet I 43 10 (I 43 4)) 43 11 (0 : Int32)) 43 11) 0 := (t38 : TI (0 : Int32) 0)
        exact xNext_80 k (mSet (mSet I 43 10 (I 43 4)) 43 11 (0 : Int32)) J (Nx_.sf (k := 11) (Nx_.sf (k := 10) (h) (by decide)) (by decide)) (by (try simp only [z35.o, z36.o, z37.o, z39.o, true_or, or_true, true_and, and_true]); first | done | omega) (by (try simp only [z35.o, z36.o, z37.o, z39.o, true_or, or_true, true_and, and_true]); first | done | omega)
theorem xNext {S : Nat × (Nat → Int32)} {d : Nat} {x : mX} {B0 : rI0} {K0 : rJ0} {P : Int} {I : rI0} {J : rJ0} {Q : rI0 → rJ0 → Prop} (h : Nx_ B0 K0 P I J) (k : ∀ I J, (Nx_ B0 K0 P I J) → ((((I 43 9).toInt ≠ 1 ∨ (0 ≤ (I 43 11).toInt ∧ (I 43 11).toInt ≤ 8 ∧ 0 ≤ (I 43 10).toInt ∧ (I 43 10).toInt + (I 43 11).toInt ≤ 940)) ∧ ((I 43 9).toInt ≠ 2 ∨ (0 ≤ (I 43 12).toInt ∧ (I 43 12).toInt ≤ 999))) ∧ ((I 43 9).toInt ≠ 3 ∨ P < (I 43 4).toInt)) → Q I J) : wcV S (d + 1) 161 [.ref 43] x I J Q := by
  have bh := h.bnd
  show wp S (d + 1) 161 0 [some (.ref 43), none, none, none] [] (wv x I J) (rV x Q)
  exact xNext_0 k _ I J rfl (h)
end MX1
