section ML0
variable {S : Nat × (Nat → Int32)} {d : Nat} {x : mX} {I I0 B0 : rI0} {J J0 K0 : rJ0} {Tl : Int32 × Option Int32} {R C N : Int} {L : Nat} {c : Nat → Int32}
theorem nar01 (v : Int32) : vp_nar .boolean v = 0 ∨ vp_nar .boolean v = 1 := by
  have e : vp_nar .boolean v = v &&& 1 := rfl
  have h := i_and v (m := 1) 1 (by decide)
  rw [e]
  exact i_b01 (by omega)
theorem dpt3 {j : Nat} (h : c j &&& 7 = 3) : dpt c (j + 1) = dpt c j := by
  show dpt c j + _ = _
  rw [if_pos h]
  omega
theorem dpt4 {j : Nat} (h : c j &&& 7 = 4 ∨ c j &&& 7 = 5) : dpt c (j + 1) = dpt c j - 1 := by
  show dpt c j + _ = _
  rw [if_neg (by rcases h with h | h <;> rw [h] <;> decide), if_pos h]
  omega
theorem dpt1 {j : Nat} (h3 : ¬ c j &&& 7 = 3) (h4 : ¬ c j &&& 7 = 4) (h5 : ¬ c j &&& 7 = 5) : dpt c (j + 1) = dpt c j + 1 := by
  show dpt c j + _ = _
  rw [if_neg h3, if_neg (by rintro (z | z); exact h4 z; exact h5 z)]
def DE (c : Nat → Int32) (A : Int) (n : Nat) : Prop := A = dpt c n
def LO (c : Nat → Int32) (j : Nat) : Prop := (c j &&& 7 = 3 → 1 ≤ dpt c j) ∧ (c j &&& 7 = 4 ∨ c j &&& 7 = 5 → 2 ≤ dpt c j) ∧ ((c j >>> ((3 : Int32) &&& 31)) &&& 7).toInt ≤ 5
theorem DE.z : DE c (0 : Int32).toInt (0 : Int32).toInt.toNat := by
  have h : (0 : Int32).toInt = 0 := by decide
  rw [h]
  rfl
theorem DE.s {A : Int} {e a : Int32} (h : DE c A (e.toInt.toNat + 1)) (h1 : a.toInt = A) (h2 : 0 ≤ e.toInt ∧ e.toInt < 1000) : DE c a.toInt (e + 1).toInt.toNat := by
  rw [i_sn h2, h1]
  exact h
theorem DE.n3 {A : Int} {j : Nat} (h : DE c A j) (o : LO c j) (z : c j &&& 7 = 3) : 1 ≤ A ∧ DE c A (j + 1) := by
  unfold DE at *
  rw [dpt3 z, h]
  exact ⟨o.1 z, rfl⟩
theorem DE.n4 {A : Int} {j : Nat} (h : DE c A j) (o : LO c j) (z : c j &&& 7 = 4 ∨ c j &&& 7 = 5) : 2 ≤ A ∧ DE c (A - 1) (j + 1) := by
  unfold DE at *
  rw [dpt4 z, h]
  exact ⟨o.2.1 z, rfl⟩
theorem DE.n1 {A : Int} {j : Nat} (h : DE c A j) (h3 : ¬ c j &&& 7 = 3) (h4 : ¬ c j &&& 7 = 4) (h5 : ¬ c j &&& 7 = 5) : DE c (A + 1) (j + 1) := by
  unfold DE at *
  rw [dpt1 h3 h4 h5, h]
def LI (B0 : rI0) (K0 : rJ0) (L : Nat) (N : Int) (c : Nat → Int32) (I : rI0) (J : rJ0) : Prop := (∀ b, b ≠ 50 → I b = B0 b) ∧ J = K0 ∧ (∀ k, I 50 k = 0 ∨ I 50 k = 1) ∧ (B0 45 (87 + 42 * L)).toInt = N ∧ N ≤ 40 ∧ L < 12 ∧ (∀ j, B0 45 (88 + 42 * L + j) = c j) ∧ cok c N.toNat
theorem LI.bnd (h : LI B0 K0 L N c I J) : N ≤ 40 ∧ L < 12 := ⟨h.2.2.2.2.1, h.2.2.2.2.2.1⟩
theorem LI.rn (h : LI B0 K0 L N c I J) {e : Int32} (he : e.toInt = 87 + 42 * (L : Int)) : (I 45 e.toNatClampNeg).toInt = N := by
  rw [h.1 45 (by decide), show e.toNatClampNeg = 87 + 42 * L by have := i_cl e (by omega); omega]
  exact h.2.2.2.1
theorem LI.rc (h : LI B0 K0 L N c I J) {e : Int32} {j : Nat} (he : e.toInt = 88 + 42 * (L : Int) + (j : Int)) : I 45 e.toNatClampNeg = c j := by
  rw [h.1 45 (by decide), show e.toNatClampNeg = 88 + 42 * L + j by have := i_cl e (by omega); omega]
  exact h.2.2.2.2.2.2.1 j
theorem LI.ok (h : LI B0 K0 L N c I J) {j : Nat} (hj : (j : Int) < N) : LO c j := h.2.2.2.2.2.2.2 j (by omega)
theorem LI.b50 (h : LI B0 K0 L N c I J) (k : Nat) : (I 50 k).toInt = 0 ∨ (I 50 k).toInt = 1 := by
  rcases h.2.2.1 k with z | z <;> rw [z] <;> decide
theorem LI.s50 {k : Nat} {v : Int32} (h : LI B0 K0 L N c I J) : LI B0 K0 L N c (mSet I 50 k (vp_nar .boolean v)) J := by
  refine ⟨fun b hb => by rw [mSet_ne hb]; exact h.1 b hb, h.2.1, fun j => ?_, h.2.2.2⟩
  unfold mSet va_up
  rw [if_pos rfl]
  split
  · exact nar01 v
  · exact h.2.2.1 j
theorem lIsLaw_224 {S : Nat × (Nat → Int32)} {d : Nat} {x : mX} {B0 : rI0} {K0 : rJ0} {L : Nat} {N : Int} {c : Nat → Int32} {Q : Int32 → rI0 → rJ0 → Prop} {N6 : Nat} (k : ∀ r I J, (LI B0 K0 L N c I J) → (r.toInt = 0 ∨ r.toInt = 1) → Q r I J) (K6 : ∀ (l1 : Int32) (l2 : Int32) (l3 : Int64) (l5 : Int64) (l7 : Int32) (l8 : Int32) (l9 : Int32) (l10 : Int32) (I : rI0) (J : rJ0), (LI B0 K0 L N c I J) → ((40 - l10.toInt).toNat < N6) → (l1.toInt = 86 + 42 * (L : Int)) → (0 ≤ l2.toInt) → (l2.toInt < 64) → (0 ≤ l10.toInt) → (l10.toInt ≤ 40) → (0 ≤ l9.toInt) → (l9.toInt ≤ l10.toInt) → (DE c l9.toInt l10.toInt.toNat) → wp S (d + 1) 195 6 [some (.ref 43), some (.int l1), some (.int l2), some (.long l3), none, some (.long l5), none, some (.int l7), some (.int l8), some (.int l9), some (.int l10), none, none, none, none, none] [] (wv x I J) (rI x Q)) : ∀ (l1 : Int32) (l2 : Int32) (l3 : Int64) (l5 : Int64) (l7 : Int32) (l8 : Int32) (l9 : Int32) (l10 : Int32) (l11 : Int32) (l12 : Int32) (s0 : Int32) (I : rI0) (J : rJ0), (LI B0 K0 L N c I J) → (l1.toInt = 86 + 42 * (L : Int)) → (0 ≤ l2.toInt) → (l2.toInt < 64) → (0 ≤ l10.toInt) → (l10.toInt < 40) → (0 ≤ l9.toInt) → (l9.toInt ≤ l10.toInt) → (DE c (l9.toInt + 1) (l10.toInt.toNat + 1)) → (Nle (40 - l10.toInt).toNat N6) → wp S (d + 1) 195 224 [some (.ref 43), some (.int l1), some (.int l2), some (.long l3), none, some (.long l5), none, some (.int l7), some (.int l8), some (.int l9), some (.int l10), some (.int l11), some (.int l12), none, none, none] [.int s0] (wv x I J) (rI x Q) := by
  intro l1 l2 l3 l5 l7 l8 l9 l10 l11 l12 s0 I J h e0 e1 e2 e3 e4 e5 e6 e7 a0
  have bh := h.bnd
  refine v195_43_224 ?_
  refine ⟨fun q1 => ?_, fun q1 => ?_⟩
  · refine ⟨fun q2 => ?_, fun q2 => ?_⟩
    · refine ⟨?_, ?_⟩
      · exact jj_in (e := (l9)) (A := l9.toInt) ti_r (by omega)
      have t3 : TI (1 : Int32) (1) := show (1 : Int32).toInt = 1 by decide
      have t4 : TI (l9 + (1 : Int32)) (l9.toInt + 1) := ti_add ti_r t3 (by omega)
      have t5 : TI (l10 + (1 : Int32)) (l10.toInt + 1) := ti_add ti_r t3 (by omega)
      exact K6 l1 l2 l3 l5 l7 l8 (l9 + (1 : Int32)) (l10 + (1 : Int32)) (mSet I 50 l9.toNatClampNeg (vp_nar .boolean (1 : Int32))) J (LI.s50 (h)) (mlt a0 (by (try simp only [t4.o, t5.o, true_or, or_true, true_and, and_true]); first | done | omega) (by omega)) (by (try simp only [t4.o, t5.o, true_or, or_true, true_and, and_true]); first | done | omega) (by (try simp only [t4.o, t5.o, true_or, or_true, true_and, and_true]); first | done | omega) (by (try simp only [t4.o, t5.o, true_or, or_true, true_and, and_true]); first | done | omega) (by (try simp only [t4.o, t5.o, true_or, or_true, true_and, and_true]); first | done | omega) (by (try simp only [t4.o, t5.o, true_or, or_true, true_and, and_true]); first | done | omega) (by (try simp only [t4.o, t5.o, true_or, or_true, true_and, and_true]); first | done | omega) (by (try simp only [t4.o, t5.o, true_or, or_true, true_and, and_true]); first | done | omega) (DE.s e7 (by (try simp only [t4.o, t5.o, true_or, or_true, true_and, and_true]); first | done | omega) (by (try simp only [t4.o, t5.o, true_or, or_true, true_and, and_true]); first | done | omega))
    · refine ⟨?_, ?_⟩
      · exact jj_in (e := (l9)) (A := l9.toInt) ti_r (by omega)
      have t6 : TI (1 : Int32) (1) := show (1 : Int32).toInt = 1 by decide
      have t7 : TI (l9 + (1 : Int32)) (l9.toInt + 1) := ti_add ti_r t6 (by omega)
      have t8 : TI (l10 + (1 : Int32)) (l10.toInt + 1) := ti_add ti_r t6 (by omega)
      exact K6 l1 l2 l3 l5 l7 l8 (l9 + (1 : Int32)) (l10 + (1 : Int32)) (mSet I 50 l9.toNatClampNeg (vp_nar .boolean (0 : Int32))) J (LI.s50 (h)) (mlt a0 (by (try simp only [t7.o, t8.o, true_or, or_true, true_and, and_true]); first | done | omega) (by omega)) (by (try simp only [t7.o, t8.o, true_or, or_true, true_and, and_true]); first | done | omega) (by (try simp only [t7.o, t8.o, true_or, or_true, true_and, and_true]); first | done | omega) (by (try simp only [t7.o, t8.o, true_or, or_true, true_and, and_true]); first | done | omega) (by (try simp only [t7.o, t8.o, true_or, or_true, true_and, and_true]); first | done | omega) (by (try simp only [t7.o, t8.o, true_or, or_true, true_and, and_true]); first | done | omega) (by (try simp only [t7.o, t8.o, true_or, or_true, true_and, and_true]); first | done | omega) (by (try simp only [t7.o, t8.o, true_or, or_true, true_and, and_true]); first | done | omega) (DE.s e7 (by (try simp only [t7.o, t8.o, true_or, or_true, true_and, and_true]); first | done | omega) (by (try simp only [t7.o, t8.o, true_or, or_true, true_and, and_true]); first | done | omega))
  · refine ⟨fun q9 => ?_, fun q9 => ?_⟩
    · refine ⟨fun q10 => ?_, fun q10 => ?_⟩
      · refine ⟨?_, ?_⟩
        · exact jj_in (e := (l9)) (A := l9.toInt) ti_r (by omega)
        have t11 : TI (1 : Int32) (1) := show (1 : Int32).toInt = 1 by decide
        have t12 : TI (l9 + (1 : Int32)) (l9.toInt + 1) := ti_add ti_r t11 (by omega)
        have t13 : TI (l10 + (1 : Int32)) (l10.toInt + 1) := ti_add ti_r t11 (by omega)
        exact K6 l1 l2 l3 l5 l7 l8 (l9 + (1 : Int32)) (l10 + (1 : Int32)) (mSet I 50 l9.toNatClampNeg (vp_nar .boolean (1 : Int32))) J (LI.s50 (h)) (mlt a0 (by (try simp only [t12.o, t13.o, true_or, or_true, true_and, and_true]); first | done | omega) (by omega)) (by (try simp only [t12.o, t13.o, true_or, or_true, true_and, and_true]); first | done | omega) (by (try simp only [t12.o, t13.o, true_or, or_true, true_and, and_true]); first | done | omega) (by (try simp only [t12.o, t13.o, true_or, or_true, true_and, and_true]); first | done | omega) (by (try simp only [t12.o, t13.o, true_or, or_true, true_and, and_true]); first | done | omega) (by (try simp only [t12.o, t13.o, true_or, or_true, true_and, and_true]); first | done | omega) (by (try simp only [t12.o, t13.o, true_or, or_true, true_and, and_true]); first | done | omega) (by (try simp only [t12.o, t13.o, true_or, or_true, true_and, and_true]); first | done | omega) (DE.s e7 (by (try simp only [t12.o, t13.o, true_or, or_true, true_and, and_true]); first | done | omega) (by (try simp only [t12.o, t13.o, true_or, or_true, true_and, and_true]); first | done | omega))
      · refine ⟨?_, ?_⟩
        · exact jj_in (e := (l9)) (A := l9.toInt) ti_r (by omega)
        have t14 : TI (1 : Int32) (1) := show (1 : Int32).toInt = 1 by decide
        have t15 : TI (l9 + (1 : Int32)) (l9.toInt + 1) := ti_add ti_r t14 (by omega)
        have t16 : TI (l10 + (1 : Int32)) (l10.toInt + 1) := ti_add ti_r t14 (by omega)
        exact K6 l1 l2 l3 l5 l7 l8 (l9 + (1 : Int32)) (l10 + (1 : Int32)) (mSet I 50 l9.toNatClampNeg (vp_nar .boolean (0 : Int32))) J (LI.s50 (h)) (mlt a0 (by (try simp only [t15.o, t16.o, true_or, or_true, true_and, and_true]); first | done | omega) (by omega)) (by (try simp only [t15.o, t16.o, true_or, or_true, true_and, and_true]); first | done | omega) (by (try simp only [t15.o, t16.o, true_or, or_true, true_and, and_true]); first | done | omega) (by (try simp only [t15.o, t16.o, true_or, or_true, true_and, and_true]); first | done | omega) (by (try simp only [t15.o, t16.o, true_or, or_true, true_and, and_true]); first | done | omega) (by (try simp only [t15.o, t16.o, true_or, or_true, true_and, and_true]); first | done | omega) (by (try simp only [t15.o, t16.o, true_or, or_true, true_and, and_true]); first | done | omega) (by (try simp only [t15.o, t16.o, true_or, or_true, true_and, and_true]); first | done | omega) (DE.s e7 (by (try simp only [t15.o, t16.o, true_or, or_true, true_and, and_true]); first | done | omega) (by (try simp only [t15.o, t16.o, true_or, or_true, true_and, and_true]); first | done | omega))
    · refine ⟨fun q17 => ?_, fun q17 => ?_⟩
      · refine ⟨?_, ?_⟩
        · exact jj_in (e := (l9)) (A := l9.toInt) ti_r (by omega)
        have t18 : TI (1 : Int32) (1) := show (1 : Int32).toInt = 1 by decide
        have t19 : TI (l9 + (1 : Int32)) (l9.toInt + 1) := ti_add ti_r t18 (by omega)
        have t20 : TI (l10 + (1 : Int32)) (l10.toInt + 1) := ti_add ti_r t18 (by omega)
        exact K6 l1 l2 l3 l5 l7 l8 (l9 + (1 : Int32)) (l10 + (1 : Int32)) (mSet I 50 l9.toNatClampNeg (vp_nar .boolean (1 : Int32))) J (LI.s50 (h)) (mlt a0 (by (try simp only [t19.o, t20.o, true_or, or_true, true_and, and_true]); first | done | omega) (by omega)) (by (try simp only [t19.o, t20.o, true_or, or_true, true_and, and_true]); first | done | omega) (by (try simp only [t19.o, t20.o, true_or, or_true, true_and, and_true]); first | done | omega) (by (try simp only [t19.o, t20.o, true_or, or_true, true_and, and_true]); first | done | omega) (by (try simp only [t19.o, t20.o, true_or, or_true, true_and, and_true]); first | done | omega) (by (try simp only [t19.o, t20.o, true_or, or_true, true_and, and_true]); first | done | omega) (by (try simp only [t19.o, t20.o, true_or, or_true, true_and, and_true]); first | done | omega) (by (try simp only [t19.o, t20.o, true_or, or_true, true_and, and_true]); first | done | omega) (DE.s e7 (by (try simp only [t19.o, t20.o, true_or, or_true, true_and, and_true]); first | done | omega) (by (try simp only [t19.o, t20.o, true_or, or_true, true_and, and_true]); first | done | omega))
      · refine ⟨?_, ?_⟩
        · exact jj_in (e := (l9)) (A := l9.toInt) ti_r (by omega)
        have t21 : TI (1 : Int32) (1) := show (1 : Int32).toInt = 1 by decide
        have t22 : TI (l9 + (1 : Int32)) (l9.toInt + 1) := ti_add ti_r t21 (by omega)
        have t23 : TI (l10 + (1 : Int32)) (l10.toInt + 1) := ti_add ti_r t21 (by omega)
        exact K6 l1 l2 l3 l5 l7 l8 (l9 + (1 : Int32)) (l10 + (1 : Int32)) (mSet I 50 l9.toNatClampNeg (vp_nar .boolean (0 : Int32))) J (LI.s50 (h)) (mlt a0 (by (try simp only [t22.o, t23.o, true_or, or_true, true_and, and_true]); first | done | omega) (by omega)) (by (try simp only [t22.o, t23.o, true_or, or_true, true_and, and_true]); first | done | omega) (by (try simp only [t22.o, t23.o, true_or, or_true, true_and, and_true]); first | done | omega) (by (try simp only [t22.o, t23.o, true_or, or_true, true_and, and_true]); first | done | omega) (by (try simp only [t22.o, t23.o, true_or, or_true, true_and, and_true]); first | done | omega) (by (try simp only [t22.o, t23.o, true_or, or_true, true_and, and_true]); first | done | omega) (by (try simp only [t22.o, t23.o, true_or, or_true, true_and, and_true]); first | done | omega) (by (try simp only [t22.o, t23.o, true_or, or_true, true_and, and_true]); first | done | omega) (DE.s e7 (by (try simp only [t22.o, t23.o, true_or, or_true, true_and, and_true]); first | done | omega) (by (try simp only [t22.o, t23.o, true_or, or_true, true_and, and_true]); first | done | omega))
theorem lIsLaw_86 {S : Nat × (Nat → Int32)} {d : Nat} {x : mX} {B0 : rI0} {K0 : rJ0} {L : Nat} {N : Int} {c : Nat → Int32} {Q : Int32 → rI0 → rJ0 → Prop} {N6 : Nat} (k : ∀ r I J, (LI B0 K0 L N c I J) → (r.toInt = 0 ∨ r.toInt = 1) → Q r I J) (K6 : ∀ (l1 : Int32) (l2 : Int32) (l3 : Int64) (l5 : Int64) (l7 : Int32) (l8 : Int32) (l9 : Int32) (l10 : Int32) (I : rI0) (J : rJ0), (LI B0 K0 L N c I J) → ((40 - l10.toInt).toNat < N6) → (l1.toInt = 86 + 42 * (L : Int)) → (0 ≤ l2.toInt) → (l2.toInt < 64) → (0 ≤ l10.toInt) → (l10.toInt ≤ 40) → (0 ≤ l9.toInt) → (l9.toInt ≤ l10.toInt) → (DE c l9.toInt l10.toInt.toNat) → wp S (d + 1) 195 6 [some (.ref 43), some (.int l1), some (.int l2), some (.long l3), none, some (.long l5), none, some (.int l7), some (.int l8), some (.int l9), some (.int l10), none, none, none, none, none] [] (wv x I J) (rI x Q)) : ∀ (l1 : Int32) (l2 : Int32) (l3 : Int64) (l5 : Int64) (l7 : Int32) (l8 : Int32) (l9 : Int32) (l10 : Int32) (l11 : Int32) (l12 : Int32) (I : rI0) (J : rJ0), (LI B0 K0 L N c I J) → (l1.toInt = 86 + 42 * (L : Int)) → (0 ≤ l2.toInt) → (l2.toInt < 64) → (0 ≤ l10.toInt) → (l10.toInt < 40) → (2 ≤ l9.toInt) → (l9.toInt ≤ l10.toInt) → (DE c (l9.toInt - 1) (l10.toInt.toNat + 1)) → (Nle (40 - l10.toInt).toNat N6) → wp S (d + 1) 195 86 [some (.ref 43), some (.int l1), some (.int l2), some (.long l3), none, some (.long l5), none, some (.int l7), some (.int l8), some (.int l9), some (.int l10), some (.int l11), some (.int l12), none, none, none] [] (wv x I J) (rI x Q) := by
  intro l1 l2 l3 l5 l7 l8 l9 l10 l11 l12 I J h e0 e1 e2 e3 e4 e5 e6 e7 a0
  have bh := h.bnd
  refine v195_43_86 ?_
  have t1 : TI (4 : Int32) (4) := show (4 : Int32).toInt = 4 by decide
  refine ⟨fun q2 => ?_, fun q2 => ?_⟩
  · have c3 := j_eq q2 (ti_r (e := l12)) t1
    have t4 : TI (-1 : Int32) (-1) := show (-1 : Int32).toInt = -1 by decide
    have t5 : TI (l9 + (-1 : Int32)) (l9.toInt + (-1)) := ti_add ti_r t4 (by omega)
    have t6 : TI (1 : Int32) (1) := show (1 : Int32).toInt = 1 by decide
    have t7 : TI ((l9 + (-1 : Int32)) - (1 : Int32)) ((l9.toInt + (-1)) - 1) := ti_sub t5 t6 (by omega)
    refine ⟨?_, ?_⟩
    · exact jj_in (e := ((l9 + (-1 : Int32)) - (1 : Int32))) (A := ((l9.toInt + (-1)) - 1)) t7 (by omega)
    have w8 := LI.b50 h (((l9 + (-1 : Int32)) - (1 : Int32)).toNatClampNeg)
    have t9 : TI (0 : Int32) (0) := show (0 : Int32).toInt = 0 by decide
    refine ⟨fun q10 => ?_, fun q10 => ?_⟩
    · have c11 := j_eq q10 (ti_r (e := (I 50 (((l9 + (-1 : Int32)) - (1 : Int32)).toNatClampNeg)))) t9
      refine ⟨?_, ?_⟩
      · exact jj_in (e := ((l9 + (-1 : Int32)) - (1 : Int32))) (A := ((l9.toInt + (-1)) - 1)) t7 (by omega)
      have t12 : TI (l10 + (1 : Int32)) (l10.toInt + 1) := ti_add ti_r t6 (by omega)
      exact K6 l1 l2 l3 l5 l7 l8 (l9 + (-1 : Int32)) (l10 + (1 : Int32)) (mSet I 50 (((l9 + (-1 : Int32)) - (1 : Int32)).toNatClampNeg) (vp_nar .boolean (0 : Int32))) J (LI.s50 (h)) (mlt a0 (by (try simp only [t5.o, t12.o, true_or, or_true, true_and, and_true]); first | done | omega) (by omega)) (by (try simp only [t5.o, t12.o, true_or, or_true, true_and, and_true]); first | done | omega) (by (try simp only [t5.o, t12.o, true_or, or_true, true_and, and_true]); first | done | omega) (by (try simp only [t5.o, t12.o, true_or, or_true, true_and, and_true]); first | done | omega) (by (try simp only [t5.o, t12.o, true_or, or_true, true_and, and_true]); first | done | omega) (by (try simp only [t5.o, t12.o, true_or, or_true, true_and, and_true]); first | done | omega) (by (try simp only [t5.o, t12.o, true_or, or_true, true_and, and_true]); first | done | omega) (by (try simp only [t5.o, t12.o, true_or, or_true, true_and, and_true]); first | done | omega) (DE.s e7 (by (try simp only [t5.o, t12.o, true_or, or_true, true_and, and_true]); first | done | omega) (by (try simp only [t5.o, t12.o, true_or, or_true, true_and, and_true]); first | done | omega))
    · have c13 := j_ne q10 (ti_r (e := (I 50 (((l9 + (-1 : Int32)) - (1 : Int32)).toNatClampNeg)))) t9
      refine ⟨?_, ?_⟩
      · exact jj_in (e := (l9 + (-1 : Int32))) (A := (l9.toInt + (-1))) t5 (by omega)
      have w14 := LI.b50 h ((l9 + (-1 : Int32)).toNatClampNeg)
      refine ⟨fun q15 => ?_, fun q15 => ?_⟩
      · have c16 := j_eq q15 (ti_r (e := (I 50 ((l9 + (-1 : Int32)).toNatClampNeg)))) t9
        refine ⟨?_, ?_⟩
        · exact jj_in (e := ((l9 + (-1 : Int32)) - (1 : Int32))) (A := ((l9.toInt + (-1)) - 1)) t7 (by omega)
        have t17 : TI (l10 + (1 : Int32)) (l10.toInt + 1) := ti_add ti_r t6 (by omega)
        exact K6 l1 l2 l3 l5 l7 l8 (l9 + (-1 : Int32)) (l10 + (1 : Int32)) (mSet I 50 (((l9 + (-1 : Int32)) - (1 : Int32)).toNatClampNeg) (vp_nar .boolean (0 : Int32))) J (LI.s50 (h)) (mlt a0 (by (try simp only [t5.o, t17.o, true_or, or_true, true_and, and_true]); first | done | omega) (by omega)) (by (try simp only [t5.o, t17.o, true_or, or_true, true_and, and_true]); first | done | omega) (by (try simp only [t5.o, t17.o, true_or, or_true, true_and, and_true]); first | done | omega) (by (try simp only [t5.o, t17.o, true_or, or_true, true_and, and_true]); first | done | omega) (by (try simp only [t5.o, t17.o, true_or, or_true, true_and, and_true]); first | done | omega) (by (try simp only [t5.o, t17.o, true_or, or_true, true_and, and_true]); first | done | omega) (by (try simp only [t5.o, t17.o, true_or, or_true, true_and, and_true]); first | done | omega) (by (try simp only [t5.o, t17.o, true_or, or_true, true_and, and_true]); first | done | omega) (DE.s e7 (by (try simp only [t5.o, t17.o, true_or, or_true, true_and, and_true]); first | done | omega) (by (try simp only [t5.o, t17.o, true_or, or_true, true_and, and_true]); first | done | omega))
      · have c18 := j_ne q15 (ti_r (e := (I 50 ((l9 + (-1 : Int32)).toNatClampNeg)))) t9
        refine ⟨?_, ?_⟩
        · exact jj_in (e := ((l9 + (-1 : Int32)) - (1 : Int32))) (A := ((l9.toInt + (-1)) - 1)) t7 (by omega)
        have t19 : TI (l10 + (1 : Int32)) (l10.toInt + 1) := ti_add ti_r t6 (by omega)
        exact K6 l1 l2 l3 l5 l7 l8 (l9 + (-1 : Int32)) (l10 + (1 : Int32)) (mSet I 50 (((l9 + (-1 : Int32)) - (1 : Int32)).toNatClampNeg) (vp_nar .boolean (1 : Int32))) J (LI.s50 (h)) (mlt a0 (by (try simp only [t5.o, t19.o, true_or, or_true, true_and, and_true]); first | done | omega) (by omega)) (by (try simp only [t5.o, t19.o, true_or, or_true, true_and, and_true]); first | done | omega) (by (try simp only [t5.o, t19.o, true_or, or_true, true_and, and_true]); first | done | omega) (by (try simp only [t5.o, t19.o, true_or, or_true, true_and, and_true]); first | done | omega) (by (try simp only [t5.o, t19.o, true_or, or_true, true_and, and_true]); first | done | omega) (by (try simp only [t5.o, t19.o, true_or, or_true, true_and, and_true]); first | done | omega) (by (try simp only [t5.o, t19.o, true_or, or_true, true_and, and_true]); first | done | omega) (by (try simp only [t5.o, t19.o, true_or, or_true, true_and, and_true]); first | done | omega) (DE.s e7 (by (try simp only [t5.o, t19.o, true_or, or_true, true_and, and_true]); first | done | omega) (by (try simp only [t5.o, t19.o, true_or, or_true, true_and, and_true]); first | done | omega))
  · have c20 := j_ne q2 (ti_r (e := l12)) t1
    have t21 : TI (-1 : Int32) (-1) := show (-1 : Int32).toInt = -1 by decide
    have t22 : TI (l9 + (-1 : Int32)) (l9.toInt + (-1)) := ti_add ti_r t21 (by omega)
    have t23 : TI (1 : Int32) (1) := show (1 : Int32).toInt = 1 by decide
    have t24 : TI ((l9 + (-1 : Int32)) - (1 : Int32)) ((l9.toInt + (-1)) - 1) := ti_sub t22 t23 (by omega)
    refine ⟨?_, ?_⟩
    · exact jj_in (e := ((l9 + (-1 : Int32)) - (1 : Int32))) (A := ((l9.toInt + (-1)) - 1)) t24 (by omega)
    have w25 := LI.b50 h (((l9 + (-1 : Int32)) - (1 : Int32)).toNatClampNeg)
    have t26 : TI (0 : Int32) (0) := show (0 : Int32).toInt = 0 by decide
    refine ⟨fun q27 => ?_, fun q27 => ?_⟩
    · have c28 := j_eq q27 (ti_r (e := (I 50 (((l9 + (-1 : Int32)) - (1 : Int32)).toNatClampNeg)))) t26
      refine ⟨?_, ?_⟩
      · exact jj_in (e := (l9 + (-1 : Int32))) (A := (l9.toInt + (-1))) t22 (by omega)
      have w29 := LI.b50 h ((l9 + (-1 : Int32)).toNatClampNeg)
      refine ⟨fun q30 => ?_, fun q30 => ?_⟩
      · have c31 := j_eq q30 (ti_r (e := (I 50 ((l9 + (-1 : Int32)).toNatClampNeg)))) t26
        refine ⟨?_, ?_⟩
        · exact jj_in (e := ((l9 + (-1 : Int32)) - (1 : Int32))) (A := ((l9.toInt + (-1)) - 1)) t24 (by omega)
        have t32 : TI (l10 + (1 : Int32)) (l10.toInt + 1) := ti_add ti_r t23 (by omega)
        exact K6 l1 l2 l3 l5 l7 l8 (l9 + (-1 : Int32)) (l10 + (1 : Int32)) (mSet I 50 (((l9 + (-1 : Int32)) - (1 : Int32)).toNatClampNeg) (vp_nar .boolean (0 : Int32))) J (LI.s50 (h)) (mlt a0 (by (try simp only [t22.o, t32.o, true_or, or_true, true_and, and_true]); first | done | omega) (by omega)) (by (try simp only [t22.o, t32.o, true_or, or_true, true_and, and_true]); first | done | omega) (by (try simp only [t22.o, t32.o, true_or, or_true, true_and, and_true]); first | done | omega) (by (try simp only [t22.o, t32.o, true_or, or_true, true_and, and_true]); first | done | omega) (by (try simp only [t22.o, t32.o, true_or, or_true, true_and, and_true]); first | done | omega) (by (try simp only [t22.o, t32.o, true_or, or_true, true_and, and_true]); first | done | omega) (by (try simp only [t22.o, t32.o, true_or, or_true, true_and, and_true]); first | done | omega) (by (try simp only [t22.o, t32.o, true_or, or_true, true_and, and_true]); first | done | omega) (DE.s e7 (by (try simp only [t22.o, t32.o, true_or, or_true, true_and, and_true]); first | done | omega) (by (try simp only [t22.o, t32.o, true_or, or_true, true_and, and_true]); first | done | omega))
      · have c33 := j_ne q30 (ti_r (e := (I 50 ((l9 + (-1 : Int32)).toNatClampNeg)))) t26
        refine ⟨?_, ?_⟩
        · exact jj_in (e := ((l9 + (-1 : Int32)) - (1 : Int32))) (A := ((l9.toInt + (-1)) - 1)) t24 (by omega)
        have t34 : TI (l10 + (1 : Int32)) (l10.toInt + 1) := ti_add ti_r t23 (by omega)
        exact K6 l1 l2 l3 l5 l7 l8 (l9 + (-1 : Int32)) (l10 + (1 : Int32)) (mSet I 50 (((l9 + (-1 : Int32)) - (1 : Int32)).toNatClampNeg) (vp_nar .boolean (1 : Int32))) J (LI.s50 (h)) (mlt a0 (by (try simp only [t22.o, t34.o, true_or, or_true, true_and, and_true]); first | done | omega) (by omega)) (by (try simp only [t22.o, t34.o, true_or, or_true, true_and, and_true]); first | done | omega) (by (try simp only [t22.o, t34.o, true_or, or_true, true_and, and_true]); first | done | omega) (by (try simp only [t22.o, t34.o, true_or, or_true, true_and, and_true]); first | done | omega) (by (try simp only [t22.o, t34.o, true_or, or_true, true_and, and_true]); first | done | omega) (by (try simp only [t22.o, t34.o, true_or, or_true, true_and, and_true]); first | done | omega) (by (try simp only [t22.o, t34.o, true_or, or_true, true_and, and_true]); first | done | omega) (by (try simp only [t22.o, t34.o, true_or, or_true, true_and, and_true]); first | done | omega) (DE.s e7 (by (try simp only [t22.o, t34.o, true_or, or_true, true_and, and_true]); first | done | omega) (by (try simp only [t22.o, t34.o, true_or, or_true, true_and, and_true]); first | done | omega))
    · have c35 := j_ne q27 (ti_r (e := (I 50 (((l9 + (-1 : Int32)) - (1 : Int32)).toNatClampNeg)))) t26
      refine ⟨?_, ?_⟩
      · exact jj_in (e := ((l9 + (-1 : Int32)) - (1 : Int32))) (A := ((l9.toInt + (-1)) - 1)) t24 (by omega)
      have t36 : TI (l10 + (1 : Int32)) (l10.toInt + 1) := ti_add ti_r t23 (by omega)
      exact K6 l1 l2 l3 l5 l7 l8 (l9 + (-1 : Int32)) (l10 + (1 : Int32)) (mSet I 50 (((l9 + (-1 : Int32)) - (1 : Int32)).toNatClampNeg) (vp_nar .boolean (1 : Int32))) J (LI.s50 (h)) (mlt a0 (by (try simp only [t22.o, t36.o, true_or, or_true, true_and, and_true]); first | done | omega) (by omega)) (by (try simp only [t22.o, t36.o, true_or, or_true, true_and, and_true]); first | done | omega) (by (try simp only [t22.o, t36.o, true_or, or_true, true_and, and_true]); first | done | omega) (by (try simp only [t22.o, t36.o, true_or, or_true, true_and, and_true]); first | done | omega) (by (try simp only [t22.o, t36.o, true_or, or_true, true_and, and_true]); first | done | omega) (by (try simp only [t22.o, t36.o, true_or, or_true, true_and, and_true]); first | done | omega) (by (try simp only [t22.o, t36.o, true_or, or_true, true_and, and_true]); first | done | omega) (by (try simp only [t22.o, t36.o, true_or, or_true, true_and, and_true]); first | done | omega) (DE.s e7 (by (try simp only [t22.o, t36.o, true_or, or_true, true_and, and_true]); first | done | omega) (by (try simp only [t22.o, t36.o, true_or, or_true, true_and, and_true]); first | done | omega))
theorem lIsLaw_6 {S : Nat × (Nat → Int32)} {d : Nat} {x : mX} {B0 : rI0} {K0 : rJ0} {L : Nat} {N : Int} {c : Nat → Int32} {Q : Int32 → rI0 → rJ0 → Prop} (k : ∀ r I J, (LI B0 K0 L N c I J) → (r.toInt = 0 ∨ r.toInt = 1) → Q r I J) : ∀ (n : Nat) (l1 : Int32) (l2 : Int32) (l3 : Int64) (l5 : Int64) (l7 : Int32) (l8 : Int32) (l9 : Int32) (l10 : Int32) (I : rI0) (J : rJ0), (Neq (40 - l10.toInt).toNat n) → (LI B0 K0 L N c I J) → (l1.toInt = 86 + 42 * (L : Int)) → (0 ≤ l2.toInt) → (l2.toInt < 64) → (0 ≤ l10.toInt) → (l10.toInt ≤ 40) → (0 ≤ l9.toInt) → (l9.toInt ≤ l10.toInt) → (DE c l9.toInt l10.toInt.toNat) → wp S (d + 1) 195 6 [some (.ref 43), some (.int l1), some (.int l2), some (.long l3), none, some (.long l5), none, some (.int l7), some (.int l8), some (.int l9), some (.int l10), none, none, none, none, none] [] (wv x I J) (rI x Q) := by
  refine lpn ?_
  intro n ih
  intro l1 l2 l3 l5 l7 l8 l9 l10 I J hm h e0 e1 e2 e3 e4 e5 e6 e7
  have bh := h.bnd
  refine v195_43_6 ?_
  have t1 : TI (1 : Int32) (1) := show (1 : Int32).toInt = 1 by decide
  have t2 : TI (l1 + (1 : Int32)) (l1.toInt + 1) := ti_add ti_r t1 (by omega)
  refine ⟨?_, ?_⟩
  · exact jj_in (e := (l1 + (1 : Int32))) (A := (l1.toInt + 1)) t2 (by omega)
  have w3 := LI.rn h (e := (l1 + (1 : Int32))) (by rw [t2.o]; omega)
  refine ⟨fun q4 => ?_, fun q4 => ?_⟩
  · have c5 := j_lt q4 (ti_r (e := l10)) (ti_r (e := (I 45 ((l1 + (1 : Int32)).toNatClampNeg))))
    have t6 : TI (2 : Int32) (2) := show (2 : Int32).toInt = 2 by decide
    have t7 : TI (l1 + (2 : Int32)) (l1.toInt + 2) := ti_add ti_r t6 (by omega)
    have t8 : TI ((l1 + (2 : Int32)) + l10) ((l1.toInt + 2) + l10.toInt) := ti_add t7 ti_r (by omega)
    refine ⟨?_, ?_⟩
    · exact jj_in (e := ((l1 + (2 : Int32)) + l10)) (A := ((l1.toInt + 2) + l10.toInt)) t8 (by omega)
    have wE := LI.rc h (e := ((l1 + (2 : Int32)) + l10)) (j := l10.toInt.toNat) (by rw [t8.o]; omega)
    have wo := LI.ok h (j := l10.toInt.toNat) (by omega)
    obtain ⟨g11, t10, bt10⟩ := ti_and (I 45 (((l1 + (2 : Int32)) + l10).toNatClampNeg)) (m := (7 : Int32)) 3 (by decide)
    have t12 : TI (3 : Int32) (3) := show (3 : Int32).toInt = 3 by decide
    refine ⟨fun q13 => ?_, fun q13 => ?_⟩
    · have c14 := j_eq q13 t10 t12
      obtain ⟨y1, y2⟩ := e7.n3 wo (by rw [← wE]; assumption)
      have t15 : TI (l9 - (1 : Int32)) (l9.toInt - 1) := ti_sub ti_r t1 (by omega)
      refine ⟨?_, ?_⟩
      · exact jj_in (e := (l9 - (1 : Int32))) (A := (l9.toInt - 1)) t15 (by omega)
      have w16 := LI.b50 h ((l9 - (1 : Int32)).toNatClampNeg)
      have t17 : TI (0 : Int32) (0) := show (0 : Int32).toInt = 0 by decide
      refine ⟨fun q18 => ?_, fun q18 => ?_⟩
      · have c19 := j_eq q18 (ti_r (e := (I 50 ((l9 - (1 : Int32)).toNatClampNeg)))) t17
        refine ⟨?_, ?_⟩
        · exact jj_in (e := (l9 - (1 : Int32))) (A := (l9.toInt - 1)) t15 (by omega)
        have t20 : TI (l10 + (1 : Int32)) (l10.toInt + 1) := ti_add ti_r t1 (by omega)
        exact ih _ (mih hm (by (try simp only [t20.o, true_or, or_true, true_and, and_true]); first | done | omega) (by omega)) l1 l2 l3 l5 l7 l8 l9 (l10 + (1 : Int32)) (mSet I 50 ((l9 - (1 : Int32)).toNatClampNeg) (vp_nar .boolean (1 : Int32))) J rfl (LI.s50 (h)) (by (try simp only [t20.o, true_or, or_true, true_and, and_true]); first | done | omega) (by (try simp only [t20.o, true_or, or_true, true_and, and_true]); first | done | omega) (by (try simp only [t20.o, true_or, or_true, true_and, and_true]); first | done | omega) (by (try simp only [t20.o, true_or, or_true, true_and, and_true]); first | done | omega) (by (try simp only [t20.o, true_or, or_true, true_and, and_true]); first | done | omega) (by (try simp only [t20.o, true_or, or_true, true_and, and_true]); first | done | omega) (by (try simp only [t20.o, true_or, or_true, true_and, and_true]); first | done | omega) (DE.s y2 (by (try simp only [t20.o, true_or, or_true, true_and, and_true]); first | done | omega) (by (try simp only [t20.o, true_or, or_true, true_and, and_true]); first | done | omega))
      · have c21 := j_ne q18 (ti_r (e := (I 50 ((l9 - (1 : Int32)).toNatClampNeg)))) t17
        refine ⟨?_, ?_⟩
        · exact jj_in (e := (l9 - (1 : Int32))) (A := (l9.toInt - 1)) t15 (by omega)
        have t22 : TI (l10 + (1 : Int32)) (l10.toInt + 1) := ti_add ti_r t1 (by omega)
        exact ih _ (mih hm (by (try simp only [t22.o, true_or, or_true, true_and, and_true]); first | done | omega) (by omega)) l1 l2 l3 l5 l7 l8 l9 (l10 + (1 : Int32)) (mSet I 50 ((l9 - (1 : Int32)).toNatClampNeg) (vp_nar .boolean (0 : Int32))) J rfl (LI.s50 (h)) (by (try simp only [t22.o, true_or, or_true, true_and, and_true]); first | done | omega) (by (try simp only [t22.o, true_or, or_true, true_and, and_true]); first | done | omega) (by (try simp only [t22.o, true_or, or_true, true_and, and_true]); first | done | omega) (by (try simp only [t22.o, true_or, or_true, true_and, and_true]); first | done | omega) (by (try simp only [t22.o, true_or, or_true, true_and, and_true]); first | done | omega) (by (try simp only [t22.o, true_or, or_true, true_and, and_true]); first | done | omega) (by (try simp only [t22.o, true_or, or_true, true_and, and_true]); first | done | omega) (DE.s y2 (by (try simp only [t22.o, true_or, or_true, true_and, and_true]); first | done | omega) (by (try simp only [t22.o, true_or, or_true, true_and, and_true]); first | done | omega))
    · have c23 := j_ne q13 t10 t12
      have t24 : TI (4 : Int32) (4) := show (4 : Int32).toInt = 4 by decide
      refine ⟨fun q25 => ?_, fun q25 => ?_⟩
      · have c26 := j_eq q25 t10 t24
        obtain ⟨y1, y2⟩ := e7.n4 wo (Or.inl (by rw [← wE]; assumption))
        exact lIsLaw_86 k (fun l1_ l2_ l3_ l5_ l7_ l8_ l9_ l10_ I_ J_ h_ hlt f0_ f1_ f2_ f3_ f4_ f5_ f6_ f7_ => ih _ hlt l1_ l2_ l3_ l5_ l7_ l8_ l9_ l10_ I_ J_ rfl h_ f0_ f1_ f2_ f3_ f4_ f5_ f6_ f7_) l1 l2 l3 l5 l7 l8 l9 l10 (I 45 (((l1 + (2 : Int32)) + l10).toNatClampNeg)) ((I 45 (((l1 + (2 : Int32)) + l10).toNatClampNeg)) &&& (7 : Int32)) I J (h) (by omega) (by omega) (by omega) (by omega) (by omega) (by omega) (by omega) y2 (mleq hm (by omega))
      · have c27 := j_ne q25 t10 t24
        have t28 : TI (5 : Int32) (5) := show (5 : Int32).toInt = 5 by decide
        refine ⟨fun q29 => ?_, fun q29 => ?_⟩
        · have c30 := j_eq q29 t10 t28
          obtain ⟨y1, y2⟩ := e7.n4 wo (Or.inr (by rw [← wE]; assumption))
          exact lIsLaw_86 k (fun l1_ l2_ l3_ l5_ l7_ l8_ l9_ l10_ I_ J_ h_ hlt f0_ f1_ f2_ f3_ f4_ f5_ f6_ f7_ => ih _ hlt l1_ l2_ l3_ l5_ l7_ l8_ l9_ l10_ I_ J_ rfl h_ f0_ f1_ f2_ f3_ f4_ f5_ f6_ f7_) l1 l2 l3 l5 l7 l8 l9 l10 (I 45 (((l1 + (2 : Int32)) + l10).toNatClampNeg)) ((I 45 (((l1 + (2 : Int32)) + l10).toNatClampNeg)) &&& (7 : Int32)) I J (h) (by omega) (by omega) (by omega) (by omega) (by omega) (by omega) (by omega) y2 (mleq hm (by omega))
        · have c31 := j_ne q29 t10 t28
          have y2 := e7.n1 (by rw [← wE]; assumption) (by rw [← wE]; assumption) (by rw [← wE]; assumption)
          have y3 := wo.2.2
          rw [← wE] at y3
          refine ⟨fun q32 => ?_, fun q32 => ?_⟩
          · have c33 := j_eq q32 t10 t1
            exact lIsLaw_224 k (fun l1_ l2_ l3_ l5_ l7_ l8_ l9_ l10_ I_ J_ h_ hlt f0_ f1_ f2_ f3_ f4_ f5_ f6_ f7_ => ih _ hlt l1_ l2_ l3_ l5_ l7_ l8_ l9_ l10_ I_ J_ rfl h_ f0_ f1_ f2_ f3_ f4_ f5_ f6_ f7_) l1 l2 l3 l5 l7 l8 l9 l10 (I 45 (((l1 + (2 : Int32)) + l10).toNatClampNeg)) ((I 45 (((l1 + (2 : Int32)) + l10).toNatClampNeg)) &&& (7 : Int32)) l7 I J (h) (by omega) (by omega) (by omega) (by omega) (by omega) (by omega) (by omega) y2 (mleq hm (by omega))
          · have c34 := j_ne q32 t10 t1
            refine ⟨fun q35 => ?_, fun q35 => ?_⟩
            · have c36 := j_eq q35 t10 t6
              exact lIsLaw_224 k (fun l1_ l2_ l3_ l5_ l7_ l8_ l9_ l10_ I_ J_ h_ hlt f0_ f1_ f2_ f3_ f4_ f5_ f6_ f7_ => ih _ hlt l1_ l2_ l3_ l5_ l7_ l8_ l9_ l10_ I_ J_ rfl h_ f0_ f1_ f2_ f3_ f4_ f5_ f6_ f7_) l1 l2 l3 l5 l7 l8 l9 l10 (I 45 (((l1 + (2 : Int32)) + l10).toNatClampNeg)) ((I 45 (((l1 + (2 : Int32)) + l10).toNatClampNeg)) &&& (7 : Int32)) l8 I J (h) (by omega) (by omega) (by omega) (by omega) (by omega) (by omega) (by omega) y2 (mleq hm (by omega))
            · have c37 := j_ne q35 t10 t6
              have t38 : TI (6 : Int32) (6) := show (6 : Int32).toInt = 6 by decide
              have t39 : TI ((6 : Int32) * l2) (6 * l2.toInt) := ti_mul t38 ti_r (by omega)
              obtain ⟨g41, t40, bt40⟩ := ti_and ((I 45 (((l1 + (2 : Int32)) + l10).toNatClampNeg)) >>> ((3 : Int32) &&& 31)) (m := (7 : Int32)) 3 (by decide)
              have t42 : TI (((6 : Int32) * l2) + (((I 45 (((l1 + (2 : Int32)) + l10).toNatClampNeg)) >>> ((3 : Int32) &&& 31)) &&& (7 : Int32))) ((6 * l2.toInt) + g41) := ti_add t39 t40 (by omega)
              refine ⟨?_, ?_⟩
              · exact jj_in (e := (((6 : Int32) * l2) + (((I 45 (((l1 + (2 : Int32)) + l10).toNatClampNeg)) >>> ((3 : Int32) &&& 31)) &&& (7 : Int32)))) (A := ((6 * l2.toInt) + g41)) t42 (by rw [t40.o] at y3; omega)
              refine ⟨fun q44 => ?_, fun q44 => ?_⟩
              · refine mBits  ?_
                intro r1 g1a
                exact lIsLaw_224 k (fun l1_ l2_ l3_ l5_ l7_ l8_ l9_ l10_ I_ J_ h_ hlt f0_ f1_ f2_ f3_ f4_ f5_ f6_ f7_ => ih _ hlt l1_ l2_ l3_ l5_ l7_ l8_ l9_ l10_ I_ J_ rfl h_ f0_ f1_ f2_ f3_ f4_ f5_ f6_ f7_) l1 l2 l3 l5 l7 l8 l9 l10 (I 45 (((l1 + (2 : Int32)) + l10).toNatClampNeg)) ((I 45 (((l1 + (2 : Int32)) + l10).toNatClampNeg)) &&& (7 : Int32)) r1 I J (h) (by omega) (by omega) (by omega) (by omega) (by omega) (by omega) (by omega) y2 (mleq hm (by omega))
              · refine mBits  ?_
                intro r2 g2a
                exact lIsLaw_224 k (fun l1_ l2_ l3_ l5_ l7_ l8_ l9_ l10_ I_ J_ h_ hlt f0_ f1_ f2_ f3_ f4_ f5_ f6_ f7_ => ih _ hlt l1_ l2_ l3_ l5_ l7_ l8_ l9_ l10_ I_ J_ rfl h_ f0_ f1_ f2_ f3_ f4_ f5_ f6_ f7_) l1 l2 l3 l5 l7 l8 l9 l10 (I 45 (((l1 + (2 : Int32)) + l10).toNatClampNeg)) ((I 45 (((l1 + (2 : Int32)) + l10).toNatClampNeg)) &&& (7 : Int32)) r2 I J (h) (by omega) (by omega) (by omega) (by omega) (by omega) (by omega) (by omega) y2 (mleq hm (by omega))
  · have c45 := j_nlt q4 (ti_r (e := l10)) (ti_r (e := (I 45 ((l1 + (1 : Int32)).toNatClampNeg))))
    have t46 : TI (0 : Int32) (0) := show (0 : Int32).toInt = 0 by decide
    refine ⟨?_, ?_⟩
    · exact jj_in (e := (0 : Int32)) (A := 0) t46 (by omega)
    have w47 := LI.b50 h ((0 : Int32).toNatClampNeg)
    refine ⟨jj_b01 (v := (I 50 ((0 : Int32).toNatClampNeg))) (A := (I 50 ((0 : Int32).toNatClampNeg)).toInt) ti_r (by omega), ?_⟩
    exact k _ _ _ (h) (by omega)
theorem lIsLaw {S : Nat × (Nat → Int32)} {d : Nat} {x : mX} {B0 : rI0} {K0 : rJ0} {L : Nat} {N : Int} {c : Nat → Int32} {I : rI0} {J : rJ0} {p1 : Int32} {p2 : Int32} {p3 : Int64} {p4 : Int64} {p5 : Int32} {p6 : Int32} {Q : Int32 → rI0 → rJ0 → Prop} (h : LI B0 K0 L N c I J) (hp : p1.toInt = 86 + 42 * (L : Int) ∧ 0 ≤ p2.toInt ∧ p2.toInt < 64) (k : ∀ r I J, (LI B0 K0 L N c I J) → (r.toInt = 0 ∨ r.toInt = 1) → Q r I J) : wcI S (d + 1) 195 [.ref 43, .int p1, .int p2, .long p3, .long p4, .int p5, .int p6] x I J Q := by
  have bh := h.bnd
  refine c195_43 ?_
  have t1 : TI (0 : Int32) (0) := show (0 : Int32).toInt = 0 by decide
  exact lIsLaw_6 k _ p1 p2 p3 p4 p5 p6 ((0 : Int32)) ((0 : Int32)) I J rfl (h) (by (try simp only [t1.o, true_or, or_true, true_and, and_true]); first | done | omega) (by (try simp only [t1.o, true_or, or_true, true_and, and_true]); first | done | omega) (by (try simp only [t1.o, true_or, or_true, true_and, and_true]); first | done | omega) (by (try simp only [t1.o, true_or, or_true, true_and, and_true]); first | done | omega) (by (try simp only [t1.o, true_or, or_true, true_and, and_true]); first | done | omega) (by (try simp only [t1.o, true_or, or_true, true_and, and_true]); first | done | omega) (by (try simp only [t1.o, true_or, or_true, true_and, and_true]); first | done | omega) DE.z
theorem mIsLaw {p1 p2 p5 p6 : Int32} {p3 p4 : Int64} {Q : Int32 → rI0 → rJ0 → Prop} (h : Mz_ I0 J0 Tl R C I J) (hp : 86 ≤ p1.toInt ∧ p1.toInt ≤ 548 ∧ (p1.toInt - 86) % 42 = 0 ∧ 0 ≤ p2.toInt ∧ p2.toInt < 64) (k : ∀ r I' J', Mz_ I0 J0 Tl R C I' J' → (r.toInt = 0 ∨ r.toInt = 1) → ((∀ b, b ≠ 50 → I' b = I b) ∧ J' = J) → Q r I' J') : wcI S (d + 1) 195 [.ref 43, .int p1, .int p2, .long p3, .long p4, .int p5, .int p6] x I J Q := by
  obtain ⟨L, hL, e⟩ : ∃ L : Nat, L < 12 ∧ p1.toInt = 86 + 42 * (L : Int) := ⟨((p1.toInt - 86) / 42).toNat, by omega, by omega⟩
  have w := h.1.2.1.1.2.2.2.2.2 L hL
  exact lIsLaw (B0 := I) (K0 := J) (L := L) (c := fun j => I 45 (88 + 42 * L + j)) ⟨fun _ _ => rfl, rfl, h.1.2.2.2.2.1, rfl, w.1.2, hL, fun _ => rfl, w.2⟩ ⟨e, by omega, by omega⟩ (fun r I' J' h' hr => by
    have hJ := h'.2.1
    subst hJ
    exact k r I' J' (h.rw h'.1 h'.2.2.1) hr ⟨h'.1, rfl⟩)
theorem kIsLaw {K A : Int} {g : Nat → Int32} {p1 p2 p5 p6 : Int32} {p3 p4 : Int64} {Q : Int32 → rI0 → rJ0 → Prop} (h : Mk_ I0 J0 Tl R C K A g I J) (hp : 86 ≤ p1.toInt ∧ p1.toInt ≤ 548 ∧ (p1.toInt - 86) % 42 = 0 ∧ 0 ≤ p2.toInt ∧ p2.toInt < 64) (k : ∀ r I' J', Mk_ I0 J0 Tl R C K A g I' J' → (r.toInt = 0 ∨ r.toInt = 1) → ((∀ b, b ≠ 50 → I' b = I b) ∧ J' = J) → Q r I' J') : wcI S (d + 1) 195 [.ref 43, .int p1, .int p2, .long p3, .long p4, .int p5, .int p6] x I J Q := mIsLaw h.1 hp (fun r I' J' h' hr o => k r I' J' ⟨h', by rw [o.1 43 (by decide)]; exact h.2.1, by rw [o.1 45 (by decide)]; exact h.2.2.1, by rw [o.1 43 (by decide)]; exact h.2.2.2⟩ hr o)
end ML0
