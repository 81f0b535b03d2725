section ML0
variable {S : Nat × (Nat → Int32)} {d : Nat} {x : mX} {I I0 B0 : rI0} {J J0 K0 : rJ0} {R C N : Int} {L : Nat} {c : Nat → Int32}
theorem nar01 (v : Int32) : vp_nar .boolean v = 0 ∨ vp_nar .boolean v = 1 := by
  have e : vp_nar .boolean v = v &&& 1 := rfl
  have h := i_and v (m := 1) 1 (by decide)
  rw [e]
  exact i_b01 (by omega)
theorem dpt3 {j : Nat} (h : c j &&& 7 = 3) : dpt c (j + 1) = dpt c j := by
  show dpt c j + _ = _
  rw [if_pos h]
  omega
theorem dpt4 {j : Nat} (h : c j &&& 7 = 4 ∨ c j &&& 7 = 5) : dpt c (j + 1) = dpt c j - 1 := by
  show dpt c j + _ = _
  rw [if_neg (by rcases h with h | h <;> rw [h] <;> decide), if_pos h]
  omega
theorem dpt1 {j : Nat} (h3 : ¬ c j &&& 7 = 3) (h4 : ¬ c j &&& 7 = 4) (h5 : ¬ c j &&& 7 = 5) : dpt c (j + 1) = dpt c j + 1 := by
  show dpt c j + _ = _
  rw [if_neg h3, if_neg (by rintro (z | z); exact h4 z; exact h5 z)]
def DE (c : Nat → Int32) (A : Int) (n : Nat) : Prop := A = dpt c n
def LO (c : Nat → Int32) (j : Nat) : Prop := (c j &&& 7 = 3 → 1 ≤ dpt c j) ∧ (c j &&& 7 = 4 ∨ c j &&& 7 = 5 → 2 ≤ dpt c j) ∧ ((c j >>> ((3 : Int32) &&& 31)) &&& 7).toInt ≤ 5
theorem DE.z : DE c (0 : Int32).toInt (0 : Int32).toInt.toNat := by
  have h : (0 : Int32).toInt = 0 := by decide
  rw [h]
  rfl
theorem DE.s {A : Int} {e a : Int32} (h : DE c A (e.toInt.toNat + 1)) (h1 : a.toInt = A) (h2 : 0 ≤ e.toInt ∧ e.toInt < 1000) : DE c a.toInt (e + 1).toInt.toNat := by
  rw [i_sn h2, h1]
  exact h
theorem DE.n3 {A : Int} {j : Nat} (h : DE c A j) (o : LO c j) (z : c j &&& 7 = 3) : 1 ≤ A ∧ DE c A (j + 1) := by
  unfold DE at *
  rw [dpt3 z, h]
  exact ⟨o.1 z, rfl⟩
theorem DE.n4 {A : Int} {j : Nat} (h : DE c A j) (o : LO c j) (z : c j &&& 7 = 4 ∨ c j &&& 7 = 5) : 2 ≤ A ∧ DE c (A - 1) (j + 1) := by
  unfold DE at *
  rw [dpt4 z, h]
  exact ⟨o.2.1 z, rfl⟩
theorem DE.n1 {A : Int} {j : Nat} (h : DE c A j) (h3 : ¬ c j &&& 7 = 3) (h4 : ¬ c j &&& 7 = 4) (h5 : ¬ c j &&& 7 = 5) : DE c (A + 1) (j + 1) := by
  unfold DE at *
  rw [dpt1 h3 h4 h5, h]
def LI (B0 : rI0) (K0 : rJ0) (L : Nat) (N : Int) (c : Nat → Int32) (I : rI0) (J : rJ0) : Prop := (∀ b, b ≠ 50 → I b = B0 b) ∧ J = K0 ∧ (∀ k, I 50 k = 0 ∨ I 50 k = 1) ∧ (B0 45 (87 + 42 * L)).toInt = N ∧ N ≤ 40 ∧ L < 12 ∧ (∀ j, B0 45 (88 + 42 * L + j) = c j) ∧ cok c N.toNat
theorem LI.bnd (h : LI B0 K0 L N c I J) : N ≤ 40 ∧ L < 12 := ⟨h.2.2.2.2.1, h.2.2.2.2.2.1⟩
theorem LI.rn (h : LI B0 K0 L N c I J) {e : Int32} (he : e.toInt = 87 + 42 * (L : Int)) : (I 45 e.toNatClampNeg).toInt = N := by
  rw [h.1 45 (by decide), show e.toNatClampNeg = 87 + 42 * L by have := i_cl e (by omega); omega]
  exact h.2.2.2.1
theorem LI.rc (h : LI B0 K0 L N c I J) {e : Int32} {j : Nat} (he : e.toInt = 88 + 42 * (L : Int) + (j : Int)) : I 45 e.toNatClampNeg = c j := by
  rw [h.1 45 (by decide), show e.toNatClampNeg = 88 + 42 * L + j by have := i_cl e (by omega); omega]
  exact h.2.2.2.2.2.2.1 j
theorem LI.ok (h : LI B0 K0 L N c I J) {j : Nat} (hj : (j : Int) < N) : LO c j := h.2.2.2.2.2.2.2 j (by omega)
theorem LI.b50 (h : LI B0 K0 L N c I J) (k : Nat) : (I 50 k).toInt = 0 ∨ (I 50 k).toInt = 1 := by
  rcases h.2.2.1 k with z | z <;> rw [z] <;> decide
theorem LI.s50 {k : Nat} {v : Int32} (h : LI B0 K0 L N c I J) : LI B0 K0 L N c (mSet I 50 k (vp_nar .boolean v)) J := by
  refine ⟨fun b hb => by rw [mSet_ne hb]; exact h.1 b hb, h.2.1, fun j => ?_, h.2.2.2⟩
  unfold mSet va_up
  rw [if_pos rfl]
  split
  · exact nar01 v
  · exact h.2.2.1 j
theorem lIsLaw_224 {S : Nat × (Nat → Int32)} {d : Nat} {x : mX} {B0 : rI0} {K0 : rJ0} {L : Nat} {N : Int} {c : Nat → Int32} {Q : Int32 → rI0 → rJ0 → Prop} {N6 : Nat} (k : ∀ r I J, (LI B0 K0 L N c I J) → (r.toInt = 0 ∨ r.toInt = 1) → Q r I J) (K6 : ∀ (l1 : Int32) (l2 : Int32) (l3 : Int64) (l5 : Int64) (l7 : Int32) (l8 : Int32) (l9 : Int32) (l10 : Int32) (I : rI0) (J : rJ0), (LI B0 K0 L N c I J) → ((40 - l10.toInt).toNat < N6) → (l1.toInt = 86 + 42 * (L : Int)) → (0 ≤ l2.toInt) → (l2.toInt < 64) → (0 ≤ l10.toInt) → (l10.toInt ≤ 40) → (0 ≤ l9.toInt) → (l9.toInt ≤ l10.toInt) → (DE c l9.toInt l10.toInt.toNat) → wp S (d + 1) 195 6 [some (.ref 43), some (.int l1), some (.int l2), some (.long l3), none, some (.long l5), none, some (.int l7), some (.int l8), some (.int l9), some (.int l10), none, none, none, none, none] [] (wv x I J) (rI x Q)) : ∀ (l1 : Int32) (l2 : Int32) (l3 : Int64) (l5 : Int64) (l7 : Int32) (l8 : Int32) (l9 : Int32) (l10 : Int32) (l11 : Int32) (l12 : Int32) (s0 : Int32) (I : rI0) (J : rJ0), (LI B0 K0 L N c I J) → (l1.toInt = 86 + 42 * (L : Int)) → (0 ≤ l2.toInt) → (l2.toInt < 64) → (0 ≤ l10.toInt) → (l10.toInt < 40) → (0 ≤ l9.toInt) → (l9.toInt ≤ l10.toInt) → (DE c (l9.toInt + 1) (l10.toInt.toNat + 1)) → (Nle (40 - l10.toInt).toNat N6) → wp S (d + 1) 195 224 [some (.ref 43), some (.int l1), some (.int l2), some (.long l3), none, some (.long l5), none, some (.int l7), some (.int l8), some (.int l9), some (.int l10), some (.int l11), some (.int l12), none, none, none] [.int s0] (wv x I J) (rI x Q) := by
  intro l1 l2 l3 l5 l7 l8 l9 l10 l11 l12 s0 I J h e0 e1 e2 e3 e4 e5 e6 e7 a0
  have bh := h.bnd
  refine v195_43_224 ?_
  refine ⟨fun q1 => ?_, fun q1 => ?_⟩
  · refine ⟨fun q3 => ?_, fun q3 => ?_⟩
    · refine ⟨?_, ?_⟩
      · exact i_in (e := (l9)) (A := l9.toInt) rfl (by omega)
      have t6 : (1 : Int32).toInt = 1 := by decide
      have t7 : (l9 + (1 : Int32)).toInt = l9.toInt + 1 := i_add rfl t6 (by omega)
      have t8 : (l10 + (1 : Int32)).toInt = l10.toInt + 1 := i_add rfl t6 (by omega)
      exact K6 l1 l2 l3 l5 l7 l8 (l9 + (1 : Int32)) (l10 + (1 : Int32)) (mSet I 50 l9.toNatClampNeg (vp_nar .boolean (1 : Int32))) J (LI.s50 (h)) (mlt a0 (by omega) (by omega)) (by omega) (by omega) (by omega) (by omega) (by omega) (by omega) (by omega) (DE.s e7 (by omega) (by omega))
    · refine ⟨?_, ?_⟩
      · exact i_in (e := (l9)) (A := l9.toInt) rfl (by omega)
      have t11 : (1 : Int32).toInt = 1 := by decide
      have t12 : (l9 + (1 : Int32)).toInt = l9.toInt + 1 := i_add rfl t11 (by omega)
      have t13 : (l10 + (1 : Int32)).toInt = l10.toInt + 1 := i_add rfl t11 (by omega)
      exact K6 l1 l2 l3 l5 l7 l8 (l9 + (1 : Int32)) (l10 + (1 : Int32)) (mSet I 50 l9.toNatClampNeg (vp_nar .boolean (0 : Int32))) J (LI.s50 (h)) (mlt a0 (by omega) (by omega)) (by omega) (by omega) (by omega) (by omega) (by omega) (by omega) (by omega) (DE.s e7 (by omega) (by omega))
  · refine ⟨fun q15 => ?_, fun q15 => ?_⟩
    · refine ⟨fun q17 => ?_, fun q17 => ?_⟩
      · refine ⟨?_, ?_⟩
        · exact i_in (e := (l9)) (A := l9.toInt) rfl (by omega)
        have t20 : (1 : Int32).toInt = 1 := by decide
        have t21 : (l9 + (1 : Int32)).toInt = l9.toInt + 1 := i_add rfl t20 (by omega)
        have t22 : (l10 + (1 : Int32)).toInt = l10.toInt + 1 := i_add rfl t20 (by omega)
        exact K6 l1 l2 l3 l5 l7 l8 (l9 + (1 : Int32)) (l10 + (1 : Int32)) (mSet I 50 l9.toNatClampNeg (vp_nar .boolean (1 : Int32))) J (LI.s50 (h)) (mlt a0 (by omega) (by omega)) (by omega) (by omega) (by omega) (by omega) (by omega) (by omega) (by omega) (DE.s e7 (by omega) (by omega))
      · refine ⟨?_, ?_⟩
        · exact i_in (e := (l9)) (A := l9.toInt) rfl (by omega)
        have t25 : (1 : Int32).toInt = 1 := by decide
        have t26 : (l9 + (1 : Int32)).toInt = l9.toInt + 1 := i_add rfl t25 (by omega)
        have t27 : (l10 + (1 : Int32)).toInt = l10.toInt + 1 := i_add rfl t25 (by omega)
        exact K6 l1 l2 l3 l5 l7 l8 (l9 + (1 : Int32)) (l10 + (1 : Int32)) (mSet I 50 l9.toNatClampNeg (vp_nar .boolean (0 : Int32))) J (LI.s50 (h)) (mlt a0 (by omega) (by omega)) (by omega) (by omega) (by omega) (by omega) (by omega) (by omega) (by omega) (DE.s e7 (by omega) (by omega))
    · refine ⟨fun q29 => ?_, fun q29 => ?_⟩
      · refine ⟨?_, ?_⟩
        · exact i_in (e := (l9)) (A := l9.toInt) rfl (by omega)
        have t32 : (1 : Int32).toInt = 1 := by decide
        have t33 : (l9 + (1 : Int32)).toInt = l9.toInt + 1 := i_add rfl t32 (by omega)
        have t34 : (l10 + (1 : Int32)).toInt = l10.toInt + 1 := i_add rfl t32 (by omega)
        exact K6 l1 l2 l3 l5 l7 l8 (l9 + (1 : Int32)) (l10 + (1 : Int32)) (mSet I 50 l9.toNatClampNeg (vp_nar .boolean (1 : Int32))) J (LI.s50 (h)) (mlt a0 (by omega) (by omega)) (by omega) (by omega) (by omega) (by omega) (by omega) (by omega) (by omega) (DE.s e7 (by omega) (by omega))
      · refine ⟨?_, ?_⟩
        · exact i_in (e := (l9)) (A := l9.toInt) rfl (by omega)
        have t37 : (1 : Int32).toInt = 1 := by decide
        have t38 : (l9 + (1 : Int32)).toInt = l9.toInt + 1 := i_add rfl t37 (by omega)
        have t39 : (l10 + (1 : Int32)).toInt = l10.toInt + 1 := i_add rfl t37 (by omega)
        exact K6 l1 l2 l3 l5 l7 l8 (l9 + (1 : Int32)) (l10 + (1 : Int32)) (mSet I 50 l9.toNatClampNeg (vp_nar .boolean (0 : Int32))) J (LI.s50 (h)) (mlt a0 (by omega) (by omega)) (by omega) (by omega) (by omega) (by omega) (by omega) (by omega) (by omega) (DE.s e7 (by omega) (by omega))
theorem lIsLaw_86 {S : Nat × (Nat → Int32)} {d : Nat} {x : mX} {B0 : rI0} {K0 : rJ0} {L : Nat} {N : Int} {c : Nat → Int32} {Q : Int32 → rI0 → rJ0 → Prop} {N6 : Nat} (k : ∀ r I J, (LI B0 K0 L N c I J) → (r.toInt = 0 ∨ r.toInt = 1) → Q r I J) (K6 : ∀ (l1 : Int32) (l2 : Int32) (l3 : Int64) (l5 : Int64) (l7 : Int32) (l8 : Int32) (l9 : Int32) (l10 : Int32) (I : rI0) (J : rJ0), (LI B0 K0 L N c I J) → ((40 - l10.toInt).toNat < N6) → (l1.toInt = 86 + 42 * (L : Int)) → (0 ≤ l2.toInt) → (l2.toInt < 64) → (0 ≤ l10.toInt) → (l10.toInt ≤ 40) → (0 ≤ l9.toInt) → (l9.toInt ≤ l10.toInt) → (DE c l9.toInt l10.toInt.toNat) → wp S (d + 1) 195 6 [some (.ref 43), some (.int l1), some (.int l2), some (.long l3), none, some (.long l5), none, some (.int l7), some (.int l8), some (.int l9), some (.int l10), none, none, none, none, none] [] (wv x I J) (rI x Q)) : ∀ (l1 : Int32) (l2 : Int32) (l3 : Int64) (l5 : Int64) (l7 : Int32) (l8 : Int32) (l9 : Int32) (l10 : Int32) (l11 : Int32) (l12 : Int32) (I : rI0) (J : rJ0), (LI B0 K0 L N c I J) → (l1.toInt = 86 + 42 * (L : Int)) → (0 ≤ l2.toInt) → (l2.toInt < 64) → (0 ≤ l10.toInt) → (l10.toInt < 40) → (2 ≤ l9.toInt) → (l9.toInt ≤ l10.toInt) → (DE c (l9.toInt - 1) (l10.toInt.toNat + 1)) → (Nle (40 - l10.toInt).toNat N6) → wp S (d + 1) 195 86 [some (.ref 43), some (.int l1), some (.int l2), some (.long l3), none, some (.long l5), none, some (.int l7), some (.int l8), some (.int l9), some (.int l10), some (.int l11), some (.int l12), none, none, none] [] (wv x I J) (rI x Q) := by
  intro l1 l2 l3 l5 l7 l8 l9 l10 l11 l12 I J h e0 e1 e2 e3 e4 e5 e6 e7 a0
  have bh := h.bnd
  refine v195_43_86 ?_
  refine ⟨fun q1 => ?_, fun q1 => ?_⟩
  · have c2 := i_eq q1
    have t3 : (4 : Int32).toInt = 4 := by decide
    have t4 : (-1 : Int32).toInt = -1 := by decide
    have t5 : (l9 + (-1 : Int32)).toInt = l9.toInt + (-1) := i_add rfl t4 (by omega)
    have t6 : (1 : Int32).toInt = 1 := by decide
    have t7 : ((l9 + (-1 : Int32)) - (1 : Int32)).toInt = (l9.toInt + (-1)) - 1 := i_sub t5 t6 (by omega)
    have z1 : (l9.toInt + (-1)) - 1 < 64 := by omega
    sorry
  · sorry
end ML0
