section ML0
variable {S : Nat × (Nat → Int32)} {d : Nat} {x : mX} {I I0 B0 : rI0} {J J0 K0 : rJ0} {R C N : Int} {L : Nat} {c : Nat → Int32}
theorem nar01 (v : Int32) : vp_nar .boolean v = 0 ∨ vp_nar .boolean v = 1 := by
  have e : vp_nar .boolean v = v &&& 1 := rfl
  have h := i_and v (m := 1) 1 (by decide)
  rw [e]
  exact i_b01 (by omega)
theorem dpt3 {j : Nat} (h : c j &&& 7 = 3) : dpt c (j + 1) = dpt c j := by
  show dpt c j + _ = _
  rw [if_pos h]
  omega
theorem dpt4 {j : Nat} (h : c j &&& 7 = 4 ∨ c j &&& 7 = 5) : dpt c (j + 1) = dpt c j - 1 := by
  show dpt c j + _ = _
  rw [if_neg (by rcases h with h | h <;> rw [h] <;> decide), if_pos h]
  omega
theorem dpt1 {j : Nat} (h3 : ¬ c j &&& 7 = 3) (h4 : ¬ c j &&& 7 = 4) (h5 : ¬ c j &&& 7 = 5) : dpt c (j + 1) = dpt c j + 1 := by
  show dpt c j + _ = _
  rw [if_neg h3, if_neg (by rintro (z | z); exact h4 z; exact h5 z)]
def LI (B0 : rI0) (K0 : rJ0) (L : Nat) (N : Int) (c : Nat → Int32) (I : rI0) (J : rJ0) : Prop := (∀ b, b ≠ 50 → I b = B0 b) ∧ J = K0 ∧ (∀ k, I 50 k = 0 ∨ I 50 k = 1) ∧ (B0 45 (87 + 42 * L)).toInt = N ∧ N ≤ 40 ∧ L < 12 ∧ (∀ j, B0 45 (88 + 42 * L + j) = c j) ∧ cok c N.toNat
theorem LI.bnd (h : LI B0 K0 L N c I J) : N ≤ 40 ∧ L < 12 := ⟨h.2.2.2.2.1, h.2.2.2.2.2.1⟩
theorem LI.rn (h : LI B0 K0 L N c I J) {e : Int32} (he : e.toInt = 87 + 42 * (L : Int)) : (I 45 e.toNatClampNeg).toInt = N := by
  rw [h.1 45 (by decide), show e.toNatClampNeg = 87 + 42 * L by have := i_cl e (by omega); omega]
  exact h.2.2.2.1
theorem LI.rc (h : LI B0 K0 L N c I J) {e : Int32} {j : Nat} (he : e.toInt = 88 + 42 * (L : Int) + (j : Int)) : I 45 e.toNatClampNeg = c j := by
  rw [h.1 45 (by decide), show e.toNatClampNeg = 88 + 42 * L + j by have := i_cl e (by omega); omega]
  exact h.2.2.2.2.2.2.1 j
theorem LI.ok (h : LI B0 K0 L N c I J) {j : Nat} (hj : (j : Int) < N) : (c j &&& 7 = 3 → 1 ≤ dpt c j) ∧ (c j &&& 7 = 4 ∨ c j &&& 7 = 5 → 2 ≤ dpt c j) ∧ ((c j >>> ((3 : Int32) &&& 31)) &&& 7).toInt ≤ 5 := h.2.2.2.2.2.2.2 j (by omega)
theorem LI.b50 (h : LI B0 K0 L N c I J) (k : Nat) : (I 50 k).toInt = 0 ∨ (I 50 k).toInt = 1 := by
  rcases h.2.2.1 k with z | z <;> rw [z] <;> decide
theorem LI.s50 {k : Nat} {v : Int32} (h : LI B0 K0 L N c I J) : LI B0 K0 L N c (mSet I 50 k (vp_nar .boolean v)) J := by
  refine ⟨fun b hb => by rw [mSet_ne hb]; exact h.1 b hb, h.2.1, fun j => ?_, h.2.2.2⟩
  unfold mSet va_up
  rw [if_pos rfl]
  split
  · exact nar01 v
  · exact h.2.2.1 j
theorem lIsLaw_224 {S : Nat × (Nat → Int32)} {d : Nat} {x : mX} {B0 : rI0} {K0 : rJ0} {L : Nat} {N : Int} {c : Nat → Int32} {Q : Int32 → rI0 → rJ0 → Prop} {N6 : Nat} (k : ∀ r I J, (LI B0 K0 L N c I J) → (r.toInt = 0 ∨ r.toInt = 1) → Q r I J) (K6 : ∀ (l1 : Int32) (l2 : Int32) (l3 : Int64) (l5 : Int64) (l7 : Int32) (l8 : Int32) (l9 : Int32) (l10 : Int32) (I : rI0) (J : rJ0), (LI B0 K0 L N c I J) → ((40 - l10.toInt).toNat < N6) → (l1.toInt = 86 + 42 * (L : Int)) → (0 ≤ l2.toInt) → (l2.toInt < 64) → (0 ≤ l10.toInt) → (l10.toInt ≤ 40) → (l9.toInt = dpt c l10.toInt.toNat) → (0 ≤ l9.toInt) → (l9.toInt ≤ l10.toInt) → wp S (d + 1) 195 6 [some (.ref 43), some (.int l1), some (.int l2), some (.long l3), none, some (.long l5), none, some (.int l7), some (.int l8), some (.int l9), some (.int l10), none, none, none, none, none] [] (wv x I J) (rI x Q)) : ∀ (l1 : Int32) (l2 : Int32) (l3 : Int64) (l5 : Int64) (l7 : Int32) (l8 : Int32) (l9 : Int32) (l10 : Int32) (l11 : Int32) (l12 : Int32) (s0 : Int32) (I : rI0) (J : rJ0), (LI B0 K0 L N c I J) → (l1.toInt = 86 + 42 * (L : Int)) → (0 ≤ l2.toInt) → (l2.toInt < 64) → (0 ≤ l10.toInt) → (l10.toInt < 40) → (0 ≤ l9.toInt) → (l9.toInt ≤ l10.toInt) → (l9.toInt + 1 = dpt c (l10.toInt.toNat + 1)) → ((40 - l10.toInt).toNat ≤ N6) → wp S (d + 1) 195 224 [some (.ref 43), some (.int l1), some (.int l2), some (.long l3), none, some (.long l5), none, some (.int l7), some (.int l8), some (.int l9), some (.int l10), some (.int l11), some (.int l12), none, none, none] [.int s0] (wv x I J) (rI x Q) := by
  intro l1 l2 l3 l5 l7 l8 l9 l10 l11 l12 s0 I J h e0 e1 e2 e3 e4 e5 e6 e7 a0
  have bh := h.bnd
  refine v195_43_224 ?_
  refine ⟨fun q1 => ?_, fun q1 => ?_⟩
  · refine ⟨fun q3 => ?_, fun q3 => ?_⟩
    · refine ⟨?_, ?_⟩
      · exact i_in (e := (l9)) (A := l9.toInt) rfl (by omega)
      have t6 : (1 : Int32).toInt = 1 := by decide
      have t7 : (l9 + (1 : Int32)).toInt = l9.toInt + 1 := i_add rfl t6 (by omega)
      have t8 : (l10 + (1 : Int32)).toInt = l10.toInt + 1 := i_add rfl t6 (by omega)
      exact K6 l1 l2 l3 l5 l7 l8 (l9 + (1 : Int32)) (l10 + (1 : Int32)) (mSet I 50 l9.toNatClampNeg (vp_nar .boolean (1 : Int32))) J (LI.s50 (h)) (by omega) (by omega) (by omega) (by omega) (by omega) (by omega) (by first | rfl | (rw [i_sn (by omega)]; omega)) (by omega) (by omega)
    · refine ⟨?_, ?_⟩
      · exact i_in (e := (l9)) (A := l9.toInt) rfl (by omega)
      have t11 : (1 : Int32).toInt = 1 := by decide
      have t12 : (l9 + (1 : Int32)).toInt = l9.toInt + 1 := i_add rfl t11 (by omega)
      have t13 : (l10 + (1 : Int32)).toInt = l10.toInt + 1 := i_add rfl t11 (by omega)
      exact K6 l1 l2 l3 l5 l7 l8 (l9 + (1 : Int32)) (l10 + (1 : Int32)) (mSet I 50 l9.toNatClampNeg (vp_nar .boolean (0 : Int32))) J (LI.s50 (h)) (by omega) (by omega) (by omega) (by omega) (by omega) (by omega) (by first | rfl | (rw [i_sn (by omega)]; omega)) (by omega) (by omega)
  · refine ⟨fun q15 => ?_, fun q15 => ?_⟩
    · refine ⟨fun q17 => ?_, fun q17 => ?_⟩
      · refine ⟨?_, ?_⟩
        · exact i_in (e := (l9)) (A := l9.toInt) rfl (by omega)
        have t20 : (1 : Int32).toInt = 1 := by decide
        have t21 : (l9 + (1 : Int32)).toInt = l9.toInt + 1 := i_add rfl t20 (by omega)
        have t22 : (l10 + (1 : Int32)).toInt = l10.toInt + 1 := i_add rfl t20 (by omega)
        exact K6 l1 l2 l3 l5 l7 l8 (l9 + (1 : Int32)) (l10 + (1 : Int32)) (mSet I 50 l9.toNatClampNeg (vp_nar .boolean (1 : Int32))) J (LI.s50 (h)) (by omega) (by omega) (by omega) (by omega) (by omega) (by omega) (by first | rfl | (rw [i_sn (by omega)]; omega)) (by omega) (by omega)
      · refine ⟨?_, ?_⟩
        · exact i_in (e := (l9)) (A := l9.toInt) rfl (by omega)
        have t25 : (1 : Int32).toInt = 1 := by decide
        have t26 : (l9 + (1 : Int32)).toInt = l9.toInt + 1 := i_add rfl t25 (by omega)
        have t27 : (l10 + (1 : Int32)).toInt = l10.toInt + 1 := i_add rfl t25 (by omega)
        exact K6 l1 l2 l3 l5 l7 l8 (l9 + (1 : Int32)) (l10 + (1 : Int32)) (mSet I 50 l9.toNatClampNeg (vp_nar .boolean (0 : Int32))) J (LI.s50 (h)) (by omega) (by omega) (by omega) (by omega) (by omega) (by omega) (by first | rfl | (rw [i_sn (by omega)]; omega)) (by omega) (by omega)
    · refine ⟨fun q29 => ?_, fun q29 => ?_⟩
      · refine ⟨?_, ?_⟩
        · exact i_in (e := (l9)) (A := l9.toInt) rfl (by omega)
        have t32 : (1 : Int32).toInt = 1 := by decide
        have t33 : (l9 + (1 : Int32)).toInt = l9.toInt + 1 := i_add rfl t32 (by omega)
        have t34 : (l10 + (1 : Int32)).toInt = l10.toInt + 1 := i_add rfl t32 (by omega)
        exact K6 l1 l2 l3 l5 l7 l8 (l9 + (1 : Int32)) (l10 + (1 : Int32)) (mSet I 50 l9.toNatClampNeg (vp_nar .boolean (1 : Int32))) J (LI.s50 (h)) (by omega) (by omega) (by omega) (by omega) (by omega) (by omega) (by first | rfl | (rw [i_sn (by omega)]; omega)) (by omega) (by omega)
      · refine ⟨?_, ?_⟩
        · exact i_in (e := (l9)) (A := l9.toInt) rfl (by omega)
        have t37 : (1 : Int32).toInt = 1 := by decide
        have t38 : (l9 + (1 : Int32)).toInt = l9.toInt + 1 := i_add rfl t37 (by omega)
        have t39 : (l10 + (1 : Int32)).toInt = l10.toInt + 1 := i_add rfl t37 (by omega)
        exact K6 l1 l2 l3 l5 l7 l8 (l9 + (1 : Int32)) (l10 + (1 : Int32)) (mSet I 50 l9.toNatClampNeg (vp_nar .boolean (0 : Int32))) J (LI.s50 (h)) (by omega) (by omega) (by omega) (by omega) (by omega) (by omega) (by first | rfl | (rw [i_sn (by omega)]; omega)) (by omega) (by omega)
theorem lIsLaw_86 {S : Nat × (Nat → Int32)} {d : Nat} {x : mX} {B0 : rI0} {K0 : rJ0} {L : Nat} {N : Int} {c : Nat → Int32} {Q : Int32 → rI0 → rJ0 → Prop} {N6 : Nat} (k : ∀ r I J, (LI B0 K0 L N c I J) → (r.toInt = 0 ∨ r.toInt = 1) → Q r I J) (K6 : ∀ (l1 : Int32) (l2 : Int32) (l3 : Int64) (l5 : Int64) (l7 : Int32) (l8 : Int32) (l9 : Int32) (l10 : Int32) (I : rI0) (J : rJ0), (LI B0 K0 L N c I J) → ((40 - l10.toInt).toNat < N6) → (l1.toInt = 86 + 42 * (L : Int)) → (0 ≤ l2.toInt) → (l2.toInt < 64) → (0 ≤ l10.toInt) → (l10.toInt ≤ 40) → (l9.toInt = dpt c l10.toInt.toNat) → (0 ≤ l9.toInt) → (l9.toInt ≤ l10.toInt) → wp S (d + 1) 195 6 [some (.ref 43), some (.int l1), some (.int l2), some (.long l3), none, some (.long l5), none, some (.int l7), some (.int l8), some (.int l9), some (.int l10), none, none, none, none, none] [] (wv x I J) (rI x Q)) : ∀ (l1 : Int32) (l2 : Int32) (l3 : Int64) (l5 : Int64) (l7 : Int32) (l8 : Int32) (l9 : Int32) (l10 : Int32) (l11 : Int32) (l12 : Int32) (I : rI0) (J : rJ0), (LI B0 K0 L N c I J) → (l1.toInt = 86 + 42 * (L : Int)) → (0 ≤ l2.toInt) → (l2.toInt < 64) → (0 ≤ l10.toInt) → (l10.toInt < 40) → (2 ≤ l9.toInt) → (l9.toInt ≤ l10.toInt) → (l9.toInt - 1 = dpt c (l10.toInt.toNat + 1)) → ((40 - l10.toInt).toNat ≤ N6) → wp S (d + 1) 195 86 [some (.ref 43), some (.int l1), some (.int l2), some (.long l3), none, some (.long l5), none, some (.int l7), some (.int l8), some (.int l9), some (.int l10), some (.int l11), some (.int l12), none, none, none] [] (wv x I J) (rI x Q) := by
  intro l1 l2 l3 l5 l7 l8 l9 l10 l11 l12 I J h e0 e1 e2 e3 e4 e5 e6 e7 a0
  have bh := h.bnd
  refine v195_43_86 ?_
  refine ⟨fun q1 => ?_, fun q1 => ?_⟩
  · have c2 := i_eq q1
    have t3 : (4 : Int32).toInt = 4 := by decide
    have t4 : (-1 : Int32).toInt = -1 := by decide
    have t5 : (l9 + (-1 : Int32)).toInt = l9.toInt + (-1) := i_add rfl t4 (by omega)
    have t6 : (1 : Int32).toInt = 1 := by decide
    have t7 : ((l9 + (-1 : Int32)) - (1 : Int32)).toInt = (l9.toInt + (-1)) - 1 := i_sub t5 t6 (by omega)
    refine ⟨?_, ?_⟩
    · exact i_in (e := ((l9 + (-1 : Int32)) - (1 : Int32))) (A := ((l9.toInt + (-1)) - 1)) t7 (by omega)
    have w9 := LI.b50 h (((l9 + (-1 : Int32)) - (1 : Int32)).toNatClampNeg)
    refine ⟨fun q10 => ?_, fun q10 => ?_⟩
    · have c11 := i_eq q10
      have t12 : (0 : Int32).toInt = 0 := by decide
      refine ⟨?_, ?_⟩
      · exact i_in (e := ((l9 + (-1 : Int32)) - (1 : Int32))) (A := ((l9.toInt + (-1)) - 1)) t7 (by omega)
      have t14 : (l10 + (1 : Int32)).toInt = l10.toInt + 1 := i_add rfl t6 (by omega)
      exact K6 l1 l2 l3 l5 l7 l8 (l9 + (-1 : Int32)) (l10 + (1 : Int32)) (mSet I 50 (((l9 + (-1 : Int32)) - (1 : Int32)).toNatClampNeg) (vp_nar .boolean (0 : Int32))) J (LI.s50 (h)) (by omega) (by omega) (by omega) (by omega) (by omega) (by omega) (by first | rfl | (rw [i_sn (by omega)]; omega)) (by omega) (by omega)
    · have c15 := i_ne q10
      have t16 : (0 : Int32).toInt = 0 := by decide
      refine ⟨?_, ?_⟩
      · exact i_in (e := (l9 + (-1 : Int32))) (A := (l9.toInt + (-1))) t5 (by omega)
      have w18 := LI.b50 h ((l9 + (-1 : Int32)).toNatClampNeg)
      refine ⟨fun q19 => ?_, fun q19 => ?_⟩
      · have c20 := i_eq q19
        refine ⟨?_, ?_⟩
        · exact i_in (e := ((l9 + (-1 : Int32)) - (1 : Int32))) (A := ((l9.toInt + (-1)) - 1)) t7 (by omega)
        have t22 : (l10 + (1 : Int32)).toInt = l10.toInt + 1 := i_add rfl t6 (by omega)
        exact K6 l1 l2 l3 l5 l7 l8 (l9 + (-1 : Int32)) (l10 + (1 : Int32)) (mSet I 50 (((l9 + (-1 : Int32)) - (1 : Int32)).toNatClampNeg) (vp_nar .boolean (0 : Int32))) J (LI.s50 (h)) (by omega) (by omega) (by omega) (by omega) (by omega) (by omega) (by first | rfl | (rw [i_sn (by omega)]; omega)) (by omega) (by omega)
      · have c23 := i_ne q19
        refine ⟨?_, ?_⟩
        · exact i_in (e := ((l9 + (-1 : Int32)) - (1 : Int32))) (A := ((l9.toInt + (-1)) - 1)) t7 (by omega)
        have t25 : (l10 + (1 : Int32)).toInt = l10.toInt + 1 := i_add rfl t6 (by omega)
        exact K6 l1 l2 l3 l5 l7 l8 (l9 + (-1 : Int32)) (l10 + (1 : Int32)) (mSet I 50 (((l9 + (-1 : Int32)) - (1 : Int32)).toNatClampNeg) (vp_nar .boolean (1 : Int32))) J (LI.s50 (h)) (by omega) (by omega) (by omega) (by omega) (by omega) (by omega) (by first | rfl | (rw [i_sn (by omega)]; omega)) (by omega) (by omega)
  · have c26 := i_ne q1
    have t27 : (4 : Int32).toInt = 4 := by decide
    have t28 : (-1 : Int32).toInt = -1 := by decide
    have t29 : (l9 + (-1 : Int32)).toInt = l9.toInt + (-1) := i_add rfl t28 (by omega)
    have t30 : (1 : Int32).toInt = 1 := by decide
    have t31 : ((l9 + (-1 : Int32)) - (1 : Int32)).toInt = (l9.toInt + (-1)) - 1 := i_sub t29 t30 (by omega)
    refine ⟨?_, ?_⟩
    · exact i_in (e := ((l9 + (-1 : Int32)) - (1 : Int32))) (A := ((l9.toInt + (-1)) - 1)) t31 (by omega)
    have w33 := LI.b50 h (((l9 + (-1 : Int32)) - (1 : Int32)).toNatClampNeg)
    refine ⟨fun q34 => ?_, fun q34 => ?_⟩
    · have c35 := i_eq q34
      have t36 : (0 : Int32).toInt = 0 := by decide
      refine ⟨?_, ?_⟩
      · exact i_in (e := (l9 + (-1 : Int32))) (A := (l9.toInt + (-1))) t29 (by omega)
      have w38 := LI.b50 h ((l9 + (-1 : Int32)).toNatClampNeg)
      refine ⟨fun q39 => ?_, fun q39 => ?_⟩
      · have c40 := i_eq q39
        refine ⟨?_, ?_⟩
        · exact i_in (e := ((l9 + (-1 : Int32)) - (1 : Int32))) (A := ((l9.toInt + (-1)) - 1)) t31 (by omega)
        have t42 : (l10 + (1 : Int32)).toInt = l10.toInt + 1 := i_add rfl t30 (by omega)
        exact K6 l1 l2 l3 l5 l7 l8 (l9 + (-1 : Int32)) (l10 + (1 : Int32)) (mSet I 50 (((l9 + (-1 : Int32)) - (1 : Int32)).toNatClampNeg) (vp_nar .boolean (0 : Int32))) J (LI.s50 (h)) (by omega) (by omega) (by omega) (by omega) (by omega) (by omega) (by first | rfl | (rw [i_sn (by omega)]; omega)) (by omega) (by omega)
      · have c43 := i_ne q39
        refine ⟨?_, ?_⟩
        · exact i_in (e := ((l9 + (-1 : Int32)) - (1 : Int32))) (A := ((l9.toInt + (-1)) - 1)) t31 (by omega)
        have t45 : (l10 + (1 : Int32)).toInt = l10.toInt + 1 := i_add rfl t30 (by omega)
        exact K6 l1 l2 l3 l5 l7 l8 (l9 + (-1 : Int32)) (l10 + (1 : Int32)) (mSet I 50 (((l9 + (-1 : Int32)) - (1 : Int32)).toNatClampNeg) (vp_nar .boolean (1 : Int32))) J (LI.s50 (h)) (by omega) (by omega) (by omega) (by omega) (by omega) (by omega) (by first | rfl | (rw [i_sn (by omega)]; omega)) (by omega) (by omega)
    · have c46 := i_ne q34
      have t47 : (0 : Int32).toInt = 0 := by decide
      refine ⟨?_, ?_⟩
      · exact i_in (e := ((l9 + (-1 : Int32)) - (1 : Int32))) (A := ((l9.toInt + (-1)) - 1)) t31 (by omega)
      have t49 : (l10 + (1 : Int32)).toInt = l10.toInt + 1 := i_add rfl t30 (by omega)
      exact K6 l1 l2 l3 l5 l7 l8 (l9 + (-1 : Int32)) (l10 + (1 : Int32)) (mSet I 50 (((l9 + (-1 : Int32)) - (1 : Int32)).toNatClampNeg) (vp_nar .boolean (1 : Int32))) J (LI.s50 (h)) (by omega) (by omega) (by omega) (by omega) (by omega) (by omega) (by first | rfl | (rw [i_sn (by omega)]; omega)) (by omega) (by omega)
theorem lIsLaw_6 {S : Nat × (Nat → Int32)} {d : Nat} {x : mX} {B0 : rI0} {K0 : rJ0} {L : Nat} {N : Int} {c : Nat → Int32} {Q : Int32 → rI0 → rJ0 → Prop} (k : ∀ r I J, (LI B0 K0 L N c I J) → (r.toInt = 0 ∨ r.toInt = 1) → Q r I J) : ∀ (n : Nat) (l1 : Int32) (l2 : Int32) (l3 : Int64) (l5 : Int64) (l7 : Int32) (l8 : Int32) (l9 : Int32) (l10 : Int32) (I : rI0) (J : rJ0), ((40 - l10.toInt).toNat = n) → (LI B0 K0 L N c I J) → (l1.toInt = 86 + 42 * (L : Int)) → (0 ≤ l2.toInt) → (l2.toInt < 64) → (0 ≤ l10.toInt) → (l10.toInt ≤ 40) → (l9.toInt = dpt c l10.toInt.toNat) → (0 ≤ l9.toInt) → (l9.toInt ≤ l10.toInt) → wp S (d + 1) 195 6 [some (.ref 43), some (.int l1), some (.int l2), some (.long l3), none, some (.long l5), none, some (.int l7), some (.int l8), some (.int l9), some (.int l10), none, none, none, none, none] [] (wv x I J) (rI x Q) := by
  refine lpn ?_
  intro n ih
  intro l1 l2 l3 l5 l7 l8 l9 l10 I J hm h e0 e1 e2 e3 e4 e5 e6 e7
  have bh := h.bnd
  refine v195_43_6 ?_
  have t1 : (1 : Int32).toInt = 1 := by decide
  have t2 : (l1 + (1 : Int32)).toInt = l1.toInt + 1 := i_add rfl t1 (by omega)
  refine ⟨?_, ?_⟩
  · exact i_in (e := (l1 + (1 : Int32))) (A := (l1.toInt + 1)) t2 (by omega)
  have w4 := LI.rn h (e := (l1 + (1 : Int32))) (by omega)
  refine ⟨fun q5 => ?_, fun q5 => ?_⟩
  · have c6 := i_lt q5
    have t7 : (2 : Int32).toInt = 2 := by decide
    have t8 : (l1 + (2 : Int32)).toInt = l1.toInt + 2 := i_add rfl t7 (by omega)
    have t9 : ((l1 + (2 : Int32)) + l10).toInt = (l1.toInt + 2) + l10.toInt := i_add t8 rfl (by omega)
    refine ⟨?_, ?_⟩
    · exact i_in (e := ((l1 + (2 : Int32)) + l10)) (A := ((l1.toInt + 2) + l10.toInt)) t9 (by omega)
    have wE := LI.rc h (e := ((l1 + (2 : Int32)) + l10)) (j := l10.toInt.toNat) (by omega)
    have wo := LI.ok h (j := l10.toInt.toNat) (by omega)
    refine ⟨fun q12 => ?_, fun q12 => ?_⟩
    · have c13 := i_eq q12
      have t14 := i_and (I 45 (((l1 + (2 : Int32)) + l10).toNatClampNeg)) (m := (7 : Int32)) 3 (by decide)
      have t15 : (3 : Int32).toInt = 3 := by decide
      have y1 := wo.1 (by rw [← wE]; assumption)
      have y2 := dpt3 (c := c) (by rw [← wE]; assumption)
      have t16 : (l9 - (1 : Int32)).toInt = l9.toInt - 1 := i_sub rfl t1 (by omega)
      refine ⟨?_, ?_⟩
      · exact i_in (e := (l9 - (1 : Int32))) (A := (l9.toInt - 1)) t16 (by omega)
      have w18 := LI.b50 h ((l9 - (1 : Int32)).toNatClampNeg)
      refine ⟨fun q19 => ?_, fun q19 => ?_⟩
      · have c20 := i_eq q19
        have t21 : (0 : Int32).toInt = 0 := by decide
        refine ⟨?_, ?_⟩
        · exact i_in (e := (l9 - (1 : Int32))) (A := (l9.toInt - 1)) t16 (by omega)
        have t23 : (l10 + (1 : Int32)).toInt = l10.toInt + 1 := i_add rfl t1 (by omega)
        exact ih _ (by omega) l1 l2 l3 l5 l7 l8 l9 (l10 + (1 : Int32)) (mSet I 50 ((l9 - (1 : Int32)).toNatClampNeg) (vp_nar .boolean (1 : Int32))) J rfl (LI.s50 (h)) (by omega) (by omega) (by omega) (by omega) (by omega) (by first | rfl | (rw [i_sn (by omega)]; omega)) (by omega) (by omega)
      · have c24 := i_ne q19
        have t25 : (0 : Int32).toInt = 0 := by decide
        refine ⟨?_, ?_⟩
        · exact i_in (e := (l9 - (1 : Int32))) (A := (l9.toInt - 1)) t16 (by omega)
        have t27 : (l10 + (1 : Int32)).toInt = l10.toInt + 1 := i_add rfl t1 (by omega)
        exact ih _ (by omega) l1 l2 l3 l5 l7 l8 l9 (l10 + (1 : Int32)) (mSet I 50 ((l9 - (1 : Int32)).toNatClampNeg) (vp_nar .boolean (0 : Int32))) J rfl (LI.s50 (h)) (by omega) (by omega) (by omega) (by omega) (by omega) (by first | rfl | (rw [i_sn (by omega)]; omega)) (by omega) (by omega)
    · have c28 := i_ne q12
      have t29 := i_and (I 45 (((l1 + (2 : Int32)) + l10).toNatClampNeg)) (m := (7 : Int32)) 3 (by decide)
      have t30 : (3 : Int32).toInt = 3 := by decide
      refine ⟨fun q31 => ?_, fun q31 => ?_⟩
      · have c32 := i_eq q31
        have t33 : (4 : Int32).toInt = 4 := by decide
        have y1 := wo.2.1 (Or.inl (by rw [← wE]; assumption))
        have y2 := dpt4 (c := c) (Or.inl (by rw [← wE]; assumption))
        exact lIsLaw_86 k (fun l1_ l2_ l3_ l5_ l7_ l8_ l9_ l10_ I_ J_ h_ hlt f0_ f1_ f2_ f3_ f4_ f5_ f6_ f7_ => ih _ hlt l1_ l2_ l3_ l5_ l7_ l8_ l9_ l10_ I_ J_ rfl h_ f0_ f1_ f2_ f3_ f4_ f5_ f6_ f7_) l1 l2 l3 l5 l7 l8 l9 l10 (I 45 (((l1 + (2 : Int32)) + l10).toNatClampNeg)) ((I 45 (((l1 + (2 : Int32)) + l10).toNatClampNeg)) &&& (7 : Int32)) I J (h) (by omega) (by omega) (by omega) (by omega) (by omega) (by omega) (by omega) (by omega) (by omega)
      · have c34 := i_ne q31
        have t35 : (4 : Int32).toInt = 4 := by decide
        refine ⟨fun q36 => ?_, fun q36 => ?_⟩
        · have c37 := i_eq q36
          have t38 : (5 : Int32).toInt = 5 := by decide
          have y1 := wo.2.1 (Or.inr (by rw [← wE]; assumption))
          have y2 := dpt4 (c := c) (Or.inr (by rw [← wE]; assumption))
          exact lIsLaw_86 k (fun l1_ l2_ l3_ l5_ l7_ l8_ l9_ l10_ I_ J_ h_ hlt f0_ f1_ f2_ f3_ f4_ f5_ f6_ f7_ => ih _ hlt l1_ l2_ l3_ l5_ l7_ l8_ l9_ l10_ I_ J_ rfl h_ f0_ f1_ f2_ f3_ f4_ f5_ f6_ f7_) l1 l2 l3 l5 l7 l8 l9 l10 (I 45 (((l1 + (2 : Int32)) + l10).toNatClampNeg)) ((I 45 (((l1 + (2 : Int32)) + l10).toNatClampNeg)) &&& (7 : Int32)) I J (h) (by omega) (by omega) (by omega) (by omega) (by omega) (by omega) (by omega) (by omega) (by omega)
        · have c39 := i_ne q36
          have t40 : (5 : Int32).toInt = 5 := by decide
          have y2 := dpt1 (c := c) (j := l10.toInt.toNat) (by rw [← wE]; assumption) (by rw [← wE]; assumption) (by rw [← wE]; assumption)
          have y3 := wo.2.2
          rw [← wE] at y3
          refine ⟨fun q41 => ?_, fun q41 => ?_⟩
          · have c42 := i_eq q41
            exact lIsLaw_224 k (fun l1_ l2_ l3_ l5_ l7_ l8_ l9_ l10_ I_ J_ h_ hlt f0_ f1_ f2_ f3_ f4_ f5_ f6_ f7_ => ih _ hlt l1_ l2_ l3_ l5_ l7_ l8_ l9_ l10_ I_ J_ rfl h_ f0_ f1_ f2_ f3_ f4_ f5_ f6_ f7_) l1 l2 l3 l5 l7 l8 l9 l10 (I 45 (((l1 + (2 : Int32)) + l10).toNatClampNeg)) ((I 45 (((l1 + (2 : Int32)) + l10).toNatClampNeg)) &&& (7 : Int32)) l7 I J (h) (by omega) (by omega) (by omega) (by omega) (by omega) (by omega) (by omega) (by omega) (by omega)
          · have c43 := i_ne q41
            refine ⟨fun q44 => ?_, fun q44 => ?_⟩
            · have c45 := i_eq q44
              exact lIsLaw_224 k (fun l1_ l2_ l3_ l5_ l7_ l8_ l9_ l10_ I_ J_ h_ hlt f0_ f1_ f2_ f3_ f4_ f5_ f6_ f7_ => ih _ hlt l1_ l2_ l3_ l5_ l7_ l8_ l9_ l10_ I_ J_ rfl h_ f0_ f1_ f2_ f3_ f4_ f5_ f6_ f7_) l1 l2 l3 l5 l7 l8 l9 l10 (I 45 (((l1 + (2 : Int32)) + l10).toNatClampNeg)) ((I 45 (((l1 + (2 : Int32)) + l10).toNatClampNeg)) &&& (7 : Int32)) l8 I J (h) (by omega) (by omega) (by omega) (by omega) (by omega) (by omega) (by omega) (by omega) (by omega)
            · have c46 := i_ne q44
              have t47 : (6 : Int32).toInt = 6 := by decide
              have t48 : ((6 : Int32) * l2).toInt = 6 * l2.toInt := i_mul t47 rfl (by omega)
              have t49 := i_and ((I 45 (((l1 + (2 : Int32)) + l10).toNatClampNeg)) >>> ((3 : Int32) &&& 31)) (m := (7 : Int32)) 3 (by decide)
              have t50 : (((6 : Int32) * l2) + (((I 45 (((l1 + (2 : Int32)) + l10).toNatClampNeg)) >>> ((3 : Int32) &&& 31)) &&& (7 : Int32))).toInt = (6 * l2.toInt) + (((I 45 (((l1 + (2 : Int32)) + l10).toNatClampNeg)) >>> ((3 : Int32) &&& 31)) &&& (7 : Int32)).toInt := i_add t48 rfl (by omega)
              refine ⟨?_, ?_⟩
              · exact i_in (e := (((6 : Int32) * l2) + (((I 45 (((l1 + (2 : Int32)) + l10).toNatClampNeg)) >>> ((3 : Int32) &&& 31)) &&& (7 : Int32)))) (A := ((6 * l2.toInt) + (((I 45 (((l1 + (2 : Int32)) + l10).toNatClampNeg)) >>> ((3 : Int32) &&& 31)) &&& (7 : Int32)).toInt)) t50 (by omega)
              refine ⟨fun q53 => ?_, fun q53 => ?_⟩
              · refine mBits  ?_
                intro r1 g1a
                exact lIsLaw_224 k (fun l1_ l2_ l3_ l5_ l7_ l8_ l9_ l10_ I_ J_ h_ hlt f0_ f1_ f2_ f3_ f4_ f5_ f6_ f7_ => ih _ hlt l1_ l2_ l3_ l5_ l7_ l8_ l9_ l10_ I_ J_ rfl h_ f0_ f1_ f2_ f3_ f4_ f5_ f6_ f7_) l1 l2 l3 l5 l7 l8 l9 l10 (I 45 (((l1 + (2 : Int32)) + l10).toNatClampNeg)) ((I 45 (((l1 + (2 : Int32)) + l10).toNatClampNeg)) &&& (7 : Int32)) r1 I J (h) (by omega) (by omega) (by omega) (by omega) (by omega) (by omega) (by omega) (by omega) (by omega)
              · refine mBits  ?_
                intro r2 g2a
                exact lIsLaw_224 k (fun l1_ l2_ l3_ l5_ l7_ l8_ l9_ l10_ I_ J_ h_ hlt f0_ f1_ f2_ f3_ f4_ f5_ f6_ f7_ => ih _ hlt l1_ l2_ l3_ l5_ l7_ l8_ l9_ l10_ I_ J_ rfl h_ f0_ f1_ f2_ f3_ f4_ f5_ f6_ f7_) l1 l2 l3 l5 l7 l8 l9 l10 (I 45 (((l1 + (2 : Int32)) + l10).toNatClampNeg)) ((I 45 (((l1 + (2 : Int32)) + l10).toNatClampNeg)) &&& (7 : Int32)) r2 I J (h) (by omega) (by omega) (by omega) (by omega) (by omega) (by omega) (by omega) (by omega) (by omega)
  · have c56 := i_nlt q5
    have t57 : (0 : Int32).toInt = 0 := by decide
    refine ⟨?_, ?_⟩
    · exact i_in (e := (0 : Int32)) (A := 0) t57 (by omega)
    have w59 := LI.b50 h ((0 : Int32).toNatClampNeg)
    refine ⟨i_b01 (by omega), ?_⟩
    exact k _ _ _ (h) (by omega)
theorem lIsLaw {S : Nat × (Nat → Int32)} {d : Nat} {x : mX} {B0 : rI0} {K0 : rJ0} {L : Nat} {N : Int} {c : Nat → Int32} {I : rI0} {J : rJ0} {p1 : Int32} {p2 : Int32} {p3 : Int64} {p4 : Int64} {p5 : Int32} {p6 : Int32} {Q : Int32 → rI0 → rJ0 → Prop} (h : LI B0 K0 L N c I J) (hp : p1.toInt = 86 + 42 * (L : Int) ∧ 0 ≤ p2.toInt ∧ p2.toInt < 64) (k : ∀ r I J, (LI B0 K0 L N c I J) → (r.toInt = 0 ∨ r.toInt = 1) → Q r I J) : wcI S (d + 1) 195 [.ref 43, .int p1, .int p2, .long p3, .long p4, .int p5, .int p6] x I J Q := by
  have bh := h.bnd
  refine c195_43 ?_
  have t1 : (0 : Int32).toInt = 0 := by decide
  exact lIsLaw_6 k _ p1 p2 p3 p4 p5 p6 ((0 : Int32)) ((0 : Int32)) I J rfl (h) (by omega) (by omega) (by omega) (by omega) (by omega) (by first | rfl | (rw [i_sn (by omega)]; omega)) (by omega) (by omega)
theorem mIsLaw {p1 p2 p5 p6 : Int32} {p3 p4 : Int64} {Q : Int32 → rI0 → rJ0 → Prop} (h : MZ I0 J0 R C I J) (hp : 86 ≤ p1.toInt ∧ p1.toInt ≤ 548 ∧ (p1.toInt - 86) % 42 = 0 ∧ 0 ≤ p2.toInt ∧ p2.toInt < 64) (k : ∀ r I' J', MZ I0 J0 R C I' J' → (r.toInt = 0 ∨ r.toInt = 1) → ((∀ b, b ≠ 50 → I' b = I b) ∧ J' = J) → Q r I' J') : wcI S (d + 1) 195 [.ref 43, .int p1, .int p2, .long p3, .long p4, .int p5, .int p6] x I J Q := by
  obtain ⟨L, hL, e⟩ : ∃ L : Nat, L < 12 ∧ p1.toInt = 86 + 42 * (L : Int) := ⟨((p1.toInt - 86) / 42).toNat, by omega, by omega⟩
  have w := h.1.2.1.1.2.2.2.2.2 L hL
  exact lIsLaw (B0 := I) (K0 := J) (L := L) (c := fun j => I 45 (88 + 42 * L + j)) ⟨fun _ _ => rfl, rfl, h.1.2.2.2.2.1, rfl, w.1.2, hL, fun _ => rfl, w.2⟩ ⟨e, by omega, by omega⟩ (fun r I' J' h' hr => by
    have hJ := h'.2.1
    subst hJ
    exact k r I' J' (h.rw h'.1 h'.2.2.1) hr ⟨h'.1, rfl⟩)
end ML0
