/-! THE REFERENCE WITHIN ITS BOUNDS -/
section MZ0
variable {S : Nat × (Nat → Int32)} {d : Nat} {x : mX} {I I0 I' : rI0} {J J0 J' : rJ0} {Tl : Int32 × Option Int32} {R C : Int}
def Nle (a b : Nat) : Prop := a ≤ b
theorem Nle.o {a b : Nat} (h : Nle a b) : a ≤ b := h
theorem Nle.i {a b : Nat} (h : a ≤ b) : Nle a b := h
def Neq (a b : Nat) : Prop := a = b
theorem Neq.o {a b : Nat} (h : Neq a b) : a = b := h
theorem mlt {A B : Int} {N : Nat} (h : Nle A.toNat N) (h1 : B < A) (h2 : 0 < A) : B.toNat < N := by
  have h := h.o
  omega
theorem mle {A B : Int} {N : Nat} (h : Nle A.toNat N) (h1 : B ≤ A) : Nle B.toNat N := by
  have h := h.o
  exact Nle.i (by omega)
theorem mih {A B : Int} {N : Nat} (h : Neq A.toNat N) (h1 : B < A) (h2 : 0 < A) : B.toNat < N := by
  have h := h.o
  omega
theorem mleq {A B : Int} {N : Nat} (h : Neq A.toNat N) (h1 : B ≤ A) : Nle B.toNat N := by
  have h := h.o
  exact Nle.i (by omega)
theorem i_mp {A B : Int} (hA : 0 ≤ A) (hB : 0 ≤ B) : A * B < 1 ∨ (1 ≤ A ∧ 1 ≤ B) := by
  rcases (show A = 0 ∨ 1 ≤ A by omega) with h | h
  · subst h
    exact Or.inl (by rw [Int.zero_mul]; omega)
  · rcases (show B = 0 ∨ 1 ≤ B by omega) with h2 | h2
    · subst h2
      exact Or.inl (by rw [Int.mul_zero]; omega)
    · exact Or.inr ⟨h, h2⟩
theorem i_dp {A B : Int} (h0 : 0 ≤ A) (h1 : 0 < B) : A / B ≤ 0 ∨ B ≤ A := by
  rcases (show A < B ∨ B ≤ A by omega) with h | h
  · exact Or.inl (by rw [Int.ediv_eq_zero_of_lt h0 h]; omega)
  · exact Or.inr h
theorem i_neg {a : Int32} {A : Int} (ha : a.toInt = A) (h : -2147483648 < A) : (-a).toInt = -A := by
  rw [Int32.toInt_neg, ha]
  have := Int32.toInt_lt a
  exact Int.bmod_eq_of_le (by omega) (by omega)
theorem i_sn {e : Int32} (h : 0 ≤ e.toInt ∧ e.toInt < 1000) : (e + 1).toInt.toNat = e.toInt.toNat + 1 := by
  have l : (1 : Int32).toInt = 1 := by decide
  rw [i_add (a := e) (b := 1) rfl l (by omega)]
  omega
theorem i_cl (e : Int32) (h : 0 ≤ e.toInt) : (e.toNatClampNeg : Int) = e.toInt := by
  have h2 : e.toNatClampNeg = e.toInt.toNat := rfl
  rw [h2]
  omega
theorem bitsA : ∀ n, n < 256 → 0 ≤ ((UInt64.ofNat n).toInt64.toInt32).toInt ∧ ((UInt64.ofNat n).toInt64.toInt32).toInt ≤ 255 := by decide +kernel
theorem bitsB (u s : UInt64) (hs : s.toNat % 64 = 56) : 0 ≤ ((u >>> s).toInt64.toInt32).toInt ∧ ((u >>> s).toInt64.toInt32).toInt ≤ 255 := by
  have h : (u >>> s).toNat < 256 := by
    rw [UInt64.toNat_shiftRight, hs, Nat.shiftRight_eq_div_pow]
    have := u.toNat_lt
    omega
  have e := bitsA _ h
  rw [UInt64.ofNat_toNat] at e
  exact e
theorem i_divm {a b : Int32} (ha : -1 ≤ a.toInt ∧ a.toInt ≤ 63) (hb : 1 ≤ b.toInt) : -1 ≤ (a / b).toInt ∧ (a / b).toInt ≤ 63 := by
  rcases (show a.toInt = -1 ∨ 0 ≤ a.toInt by omega) with h | h
  · rw [Int32.toInt_div, h]
    have e : Int.tdiv (-1) b.toInt = -(Int.tdiv 1 b.toInt) := Int.neg_tdiv _ _
    have e2 : Int.tdiv 1 b.toInt = 1 / b.toInt := Int.tdiv_eq_ediv_of_nonneg (by omega)
    have e3 : 0 ≤ 1 / b.toInt := Int.ediv_nonneg (by omega) (by omega)
    have e4 : 1 / b.toInt ≤ 1 := Int.ediv_le_self _ (by omega)
    rw [e, e2]
    have e5 : Int.bmod (-(1 / b.toInt)) (2 ^ 32) = -(1 / b.toInt) := Int.bmod_eq_of_le (by omega) (by omega)
    rw [e5]
    omega
  · have e := i_div (a := a) (b := b) rfl rfl h (by omega)
    omega
def TI (e : Int32) (A : Int) : Prop := e.toInt = A
theorem TI.o {e : Int32} {A : Int} (h : TI e A) : e.toInt = A := h
theorem ti_r {e : Int32} : TI e e.toInt := rfl
theorem ti_add {a b : Int32} {A B : Int} (ha : TI a A) (hb : TI b B) (h : -2147483648 ≤ A + B ∧ A + B < 2147483648) : TI (a + b) (A + B) := i_add ha hb h
theorem ti_sub {a b : Int32} {A B : Int} (ha : TI a A) (hb : TI b B) (h : -2147483648 ≤ A - B ∧ A - B < 2147483648) : TI (a - b) (A - B) := i_sub ha hb h
theorem ti_mul {a b : Int32} {A B : Int} (ha : TI a A) (hb : TI b B) (h : -2147483648 ≤ A * B ∧ A * B < 2147483648) : TI (a * b) (A * B) := i_mul ha hb h
theorem ti_neg {a : Int32} {A : Int} (ha : TI a A) (h : -2147483648 < A) : TI (-a) (-A) := i_neg ha h
theorem j_lt {a b : Int32} {A B : Int} (q : a < b) (ha : TI a A) (hb : TI b B) : A < B := by
  have := i_lt q
  rw [ha.o, hb.o] at this
  exact this
theorem j_nlt {a b : Int32} {A B : Int} (q : ¬ a < b) (ha : TI a A) (hb : TI b B) : B ≤ A := by
  have := i_nlt q
  rw [ha.o, hb.o] at this
  exact this
theorem j_eq {a b : Int32} {A B : Int} (q : a = b) (ha : TI a A) (hb : TI b B) : A = B := by
  have := i_eq q
  rw [ha.o, hb.o] at this
  exact this
theorem j_ne {a b : Int32} {A B : Int} (q : ¬ a = b) (ha : TI a A) (hb : TI b B) : ¬ A = B := by
  have := i_ne q
  rw [ha.o, hb.o] at this
  exact this
theorem jj_in {e : Int32} {A : Int} {n : Nat} (t : TI e A) (h : 0 ≤ A ∧ A < (n : Int) ∧ n < 2147483648) : ¬ mOut e n := i_in t h
theorem jj_n0 {e : Int32} {A : Int} (t : TI e A) (h : ¬ A = 0) : ¬ e = 0 := i_n0 t h
theorem jj_b01 {v : Int32} {A : Int} (t : TI v A) (h : A = 0 ∨ A = 1) : v = 0 ∨ v = 1 := i_b01 (by rw [t.o]; exact h)
theorem ti_div {a b : Int32} {A B : Int} (ha : TI a A) (hb : TI b B) (h0 : 0 ≤ A) (h1 : 0 < B) : ∃ r : Int, TI (a / b) r ∧ 0 ≤ r ∧ r ≤ A ∧ (r ≤ 0 ∨ B ≤ A) ∧ r = A / B := by
  have e := i_div ha hb h0 h1
  exact ⟨A / B, e.1, e.2.1, e.2.2.1, i_dp h0 h1, rfl⟩
theorem ti_rem {a b : Int32} {A B : Int} (ha : TI a A) (hb : TI b B) (h0 : 0 ≤ A) (h1 : 0 < B) : ∃ r : Int, TI (a - a / b * b) r ∧ 0 ≤ r ∧ r < B := by
  have e := i_rem ha hb h0 h1
  exact ⟨_, ti_r, e.1, e.2.1⟩
theorem ti_and (v : Int32) {m : Int32} (k : Nat) (hm : m.toBitVec.toNat = 2 ^ k - 1 ∧ k < 31) : ∃ r : Int, TI (v &&& m) r ∧ 0 ≤ r ∧ r ≤ ((2 ^ k - 1 : Nat) : Int) := ⟨_, ti_r, i_and v k hm⟩
theorem ti_shl {n : Int32} {A : Int} (t : TI n A) (h : 0 ≤ A ∧ A ≤ 8) : ∃ r : Int, TI ((1 : Int32) <<< (n &&& 31)) r ∧ 1 ≤ r ∧ r ≤ 256 ∧ (8 ≤ A ∨ r ≤ 128) := by
  have e := i_shl (n := n) (by rw [t.o]; exact h)
  refine ⟨_, ti_r, e.1, e.2, ?_⟩
  rcases (show 8 ≤ A ∨ A ≤ 7 by omega) with z | z
  · exact Or.inl z
  · exact Or.inr (i_shl7 (n := n) (by rw [t.o]; omega)).2
theorem ti_or8 {a b : Int32} {A B : Int} (ta : TI a A) (tb : TI b B) (ha : 0 ≤ A ∧ A < 256) (hb : 0 ≤ B ∧ B < 256) : ∃ r : Int, TI (a ||| b) r ∧ 0 ≤ r ∧ r < 256 := ⟨_, ti_r, i_or8 (by rw [ta.o]; exact ha) (by rw [tb.o]; exact hb)⟩
def dpt (c : Nat → Int32) : Nat → Int
  | 0 => 0
  | j + 1 => dpt c j + (if c j &&& 7 = 3 then 0 else if c j &&& 7 = 4 ∨ c j &&& 7 = 5 then -1 else 1)
def cok (c : Nat → Int32) (n : Nat) : Prop := ∀ j, j < n → (c j &&& 7 = 3 → 1 ≤ dpt c j) ∧ (c j &&& 7 = 4 ∨ c j &&& 7 = 5 → 2 ≤ dpt c j) ∧ ((c j >>> ((3 : Int32) &&& 31)) &&& 7).toInt ≤ 5
def LWo (g : Nat → Int32) (l : Nat) : Prop := (0 ≤ (g (87 + 42 * l)).toInt ∧ (g (87 + 42 * l)).toInt ≤ 40) ∧ cok (fun j => g (88 + 42 * l + j)) (g (87 + 42 * l)).toInt.toNat
def cnt (g : Nat → Int32) : Nat → Int
  | 0 => 0
  | v + 1 => cnt g v + (if 0 < (g (6 + v)).toInt then 1 else 0)
def HW (g : Nat → Int32) : Prop := (0 ≤ (g 0).toInt ∧ (g 0).toInt ≤ 8) ∧ (0 ≤ (g 1).toInt ∧ (g 1).toInt ≤ 8) ∧ (∀ v : Nat, v < 64 → 0 ≤ (g (6 + v)).toInt ∧ (g (6 + v)).toInt ≤ 6) ∧ (g 2).toInt = cnt g 64 ∧ (∀ v : Nat, v < 64 → (g 0).toInt * (g 1).toInt ≤ (v : Int) → (g (6 + v)).toInt = 0) ∧ ∀ l : Nat, l < 12 → LWo g l
def KW (g : Nat → Int32) : Prop := HW g ∧ 0 ≤ (g 590).toInt ∧ (g 590).toInt ≤ 30
def TKm (I : rI0) : Prop := ((I 43 9).toInt ≠ 1 ∨ (0 ≤ (I 43 11).toInt ∧ (I 43 11).toInt ≤ 8 ∧ 0 ≤ (I 43 10).toInt ∧ (I 43 10).toInt + (I 43 11).toInt ≤ 940)) ∧ ((I 43 9).toInt ≠ 2 ∨ (0 ≤ (I 43 12).toInt ∧ (I 43 12).toInt ≤ 999))
def MN (I : rI0) : Prop := (0 ≤ (I 43 2).toInt ∧ (I 43 2).toInt ≤ 940) ∧ (0 ≤ (I 43 4).toInt ∧ (I 43 4).toInt ≤ (I 43 3).toInt ∧ (I 43 3).toInt ≤ 940) ∧ TKm I ∧ (0 ≤ (I 43 42).toInt ∧ (I 43 42).toInt ≤ 601) ∧ (0 ≤ (I 43 43).toInt ∧ (I 43 43).toInt ≤ 30) ∧ (0 ≤ (I 43 47).toInt ∧ (I 43 47).toInt ≤ 14) ∧ (0 ≤ (I 43 52).toInt ∧ (I 43 52).toInt ≤ 8)
def MV (I : rI0) (J : rJ0) : Prop := MN I ∧ KW (I 45) ∧ HW (I 46) ∧ (∀ k, 0 ≤ (I 56 k).toInt ∧ (I 56 k).toInt ≤ 63) ∧ (∀ k, I 50 k = 0 ∨ I 50 k = 1) ∧ (1 ≤ (I 43 52).toInt → ¬ J 43 53 = 0) ∧ (∀ k, k < 2 → I 66 k = 0 ∨ KW (fun i => I 63 (681 * k + i)))
def FW (I0 : rI0) (Tl : Int32) (I : rI0) : Prop := (∀ b, ¬ (43 ≤ b ∧ b ≤ 62 ∧ b ≠ 44) → I b = I0 b) ∧ I 43 2 = Tl
/-- the house is the same but for who sits on its seats -/
def PK (g g' : Nat → Int32) : Prop := (∀ i, i < 590 → ¬ (6 ≤ i ∧ i < 70) → g' i = g i) ∧ ∀ v, v < 64 → (0 < (g' (6 + v)).toInt ↔ 0 < (g (6 + v)).toInt)
theorem PK.rf {g : Nat → Int32} : PK g g := ⟨fun _ _ _ => rfl, fun _ _ => Iff.rfl⟩
theorem PK.tr {g g1 g2 : Nat → Int32} (h : PK g g1) (h2 : PK g1 g2) : PK g g2 := ⟨fun i hi hj => (h2.1 i hi hj).trans (h.1 i hi hj), fun v hv => (h2.2 v hv).trans (h.2 v hv)⟩
/-- the cues -/
def PQ (g g' : Nat → Int32) : Prop := ∀ i, 590 ≤ i → i < 681 → g' i = g i
def FR (I0 : rI0) (Tl : Int32 × Option Int32) (I : rI0) : Prop := FW I0 Tl.1 I ∧ (PK (I0 45) (I 45) ∧ PQ (I0 45) (I 45)) ∧ ∀ v, Tl.2 = some v → I 43 13 = v
theorem FR.s {n k : Nat} {v : Int32} (u : FR I0 Tl I) (hf : 43 ≤ n ∧ n ≤ 62 ∧ n ≠ 44 ∧ n ≠ 45 ∧ ¬ (n = 43 ∧ k = 2) ∧ ¬ (n = 43 ∧ k = 13)) : FR I0 Tl (mSet I n k v) := ⟨⟨fun b hb => by rw [mSet_ne (by omega)]; exact u.1.1 b hb, by rw [mSet_x (by omega)]; exact u.1.2⟩, by rw [mSet_ne (by omega)]; exact u.2.1, by rw [mSet_x (by omega)]; exact u.2.2⟩
def Mz_ (I0 : rI0) (J0 : rJ0) (Tl : Int32 × Option Int32) (R C : Int) (I : rI0) (J : rJ0) : Prop := MV I J ∧ (I 45 0).toInt = R ∧ (I 45 1).toInt = C ∧ FR I0 Tl I ∧ ∀ b, ¬ (43 ≤ b ∧ b ≤ 62) → J b = J0 b
theorem MV.mq (h : MV I J) : Mz_ I J (I 43 2, some (I 43 13)) (I 45 0).toInt (I 45 1).toInt I J := ⟨h, rfl, rfl, ⟨⟨fun _ _ => rfl, rfl⟩, ⟨PK.rf, fun _ _ _ => rfl⟩, fun v e => Option.some.inj e⟩, fun _ _ => rfl⟩
theorem MV.mq0 (h : MV I J) : Mz_ I J (I 43 2, none) (I 45 0).toInt (I 45 1).toInt I J := ⟨h, rfl, rfl, ⟨⟨fun _ _ => rfl, rfl⟩, ⟨PK.rf, fun _ _ _ => rfl⟩, fun v e => (by cases e)⟩, fun _ _ => rfl⟩
theorem MV.up (h : MV I J) (hn : MN I') (h45 : I' 45 = I 45) (h46 : I' 46 = I 46) (h50 : I' 50 = I 50) (h56 : I' 56 = I 56) (h63 : I' 63 = I 63) (h66 : I' 66 = I 66) (h52 : I' 43 52 = I 43 52) (hj : J' 43 53 = J 43 53) : MV I' J' := by
  obtain ⟨-, a, b, c, e, f, g⟩ := h
  refine ⟨hn, ?_, ?_, ?_, ?_, ?_, ?_⟩
  · rw [h45]; exact a
  · rw [h46]; exact b
  · rw [h56]; exact c
  · rw [h50]; exact e
  · rw [h52, hj]; exact f
  · rw [h63, h66]; exact g
theorem Mz_.bnd (h : Mz_ I0 J0 Tl R C I J) : ((I 45 0).toInt = R ∧ 0 ≤ R ∧ R ≤ 8) ∧ ((I 45 1).toInt = C ∧ 0 ≤ C ∧ C ≤ 8) ∧ (0 ≤ (I 45 590).toInt ∧ (I 45 590).toInt ≤ 30) ∧ (0 ≤ (I 43 42).toInt ∧ (I 43 42).toInt ≤ 601) ∧ (0 ≤ (I 43 43).toInt ∧ (I 43 43).toInt ≤ 30) ∧ (0 ≤ (I 43 47).toInt ∧ (I 43 47).toInt ≤ 14) := by
  obtain ⟨⟨⟨-, -, -, n1, n2, n3, -⟩, ⟨⟨a0, a1, -⟩, a2, a3⟩, -⟩, e0, e1, -⟩ := h
  refine ⟨⟨e0, ?_⟩, ⟨e1, ?_⟩, ⟨a2, a3⟩, n1, n2, n3⟩
  · rw [← e0]; exact a0
  · rw [← e1]; exact a1
theorem Mz_.bn2 (h : Mz_ I0 J0 Tl R C I J) : (0 ≤ (I 43 2).toInt ∧ (I 43 2).toInt ≤ 940) ∧ (0 ≤ (I 43 4).toInt ∧ (I 43 4).toInt ≤ (I 43 3).toInt ∧ (I 43 3).toInt ≤ 940) ∧ (0 ≤ (I 43 52).toInt ∧ (I 43 52).toInt ≤ 8) := ⟨h.1.1.1, h.1.1.2.1, h.1.1.2.2.2.2.2.2⟩
theorem Mz_.bnt (h : Mz_ I0 J0 Tl R C I J) : (0 ≤ (I 43 4).toInt ∧ (I 43 4).toInt ≤ (I 43 3).toInt ∧ (I 43 3).toInt ≤ 940) ∧ ((I 43 9).toInt ≠ 1 ∨ (0 ≤ (I 43 11).toInt ∧ (I 43 11).toInt ≤ 8 ∧ 0 ≤ (I 43 10).toInt ∧ (I 43 10).toInt + (I 43 11).toInt ≤ 940)) ∧ ((I 43 9).toInt ≠ 2 ∨ (0 ≤ (I 43 12).toInt ∧ (I 43 12).toInt ≤ 999)) := ⟨h.1.1.2.1, h.1.1.2.2.1⟩
theorem Mz_.b46 (h : Mz_ I0 J0 Tl R C I J) : (0 ≤ (I 46 0).toInt ∧ (I 46 0).toInt ≤ 8) ∧ (0 ≤ (I 46 1).toInt ∧ (I 46 1).toInt ≤ 8) := ⟨h.1.2.2.1.1, h.1.2.2.1.2.1⟩
theorem Mz_.kd (h : Mz_ I0 J0 Tl R C I J) {e : Nat} (he : 6 ≤ e ∧ e < 70) : 0 ≤ (I 45 e).toInt ∧ (I 45 e).toInt ≤ 6 := by
  have := h.1.2.1.1.2.2.1 (e - 6) (by omega)
  rw [show 6 + (e - 6) = e by omega] at this
  exact this
theorem Mz_.kt (h : Mz_ I0 J0 Tl R C I J) {e : Int32} {A : Int} (t : TI e A) (he : 6 ≤ A ∧ A < 70) : 0 ≤ (I 45 e.toNatClampNeg).toInt ∧ (I 45 e.toNatClampNeg).toInt ≤ 6 := by
  have := i_cl e (by rw [t.o]; omega)
  rw [t.o] at this
  exact h.kd (by omega)
theorem Mz_.si {n k : Nat} {v : Int32} (h : Mz_ I0 J0 Tl R C I J) (hf : 43 ≤ n ∧ n ≤ 62 ∧ n ≠ 44 ∧ n ≠ 45 ∧ n ≠ 46 ∧ n ≠ 50 ∧ n ≠ 56 ∧ n ≠ 63 ∧ n ≠ 66 ∧ ¬ (n = 43 ∧ k = 13) ∧ ¬ (n = 43 ∧ (k = 2 ∨ k = 3 ∨ k = 4 ∨ k = 9 ∨ k = 10 ∨ k = 11 ∨ k = 12 ∨ k = 42 ∨ k = 43 ∨ k = 47 ∨ k = 52))) : Mz_ I0 J0 Tl R C (mSet I n k v) J := by
  obtain ⟨h1, e0, e1, u, w⟩ := h
  have e45 : mSet I n k v 45 = I 45 := mSet_ne (by omega)
  refine ⟨h1.up ?_ e45 (mSet_ne (by omega)) (mSet_ne (by omega)) (mSet_ne (by omega)) (mSet_ne (by omega)) (mSet_ne (by omega)) (mSet_x (by omega)) rfl, by rw [e45]; exact e0, by rw [e45]; exact e1, u.s (by omega), w⟩
  have hn := h1.1
  unfold MN TKm at *
  rw [mSet_x (a := 43) (b := 2) (by omega), mSet_x (a := 43) (b := 3) (by omega), mSet_x (a := 43) (b := 4) (by omega), mSet_x (a := 43) (b := 9) (by omega), mSet_x (a := 43) (b := 10) (by omega), mSet_x (a := 43) (b := 11) (by omega), mSet_x (a := 43) (b := 12) (by omega), mSet_x (a := 43) (b := 42) (by omega), mSet_x (a := 43) (b := 43) (by omega), mSet_x (a := 43) (b := 47) (by omega), mSet_x (a := 43) (b := 52) (by omega)]
  exact hn
theorem Mz_.sj {n k : Nat} {v : Int64} (h : Mz_ I0 J0 Tl R C I J) (hf : 43 ≤ n ∧ n ≤ 62 ∧ ¬ (n = 43 ∧ k = 53)) : Mz_ I0 J0 Tl R C I (mSet J n k v) := by
  obtain ⟨h1, e0, e1, u, w⟩ := h
  exact ⟨h1.up h1.1 rfl rfl rfl rfl rfl rfl rfl (mSet_x (by omega)), e0, e1, u, fun b hb => by rw [mSet_ne (by omega)]; exact w b hb⟩
theorem Mz_.sn {n k : Nat} {v : Int32} (h : Mz_ I0 J0 Tl R C I J) (hf : 43 < n ∧ n ≤ 62 ∧ n ≠ 44 ∧ n ≠ 45 ∧ n ≠ 46 ∧ n ≠ 50 ∧ n ≠ 56 ∧ n ≠ 63 ∧ n ≠ 66) : Mz_ I0 J0 Tl R C (mSet I n k v) J := h.si (by omega)
theorem Mz_.sk {n k : Nat} {v : Int64} (h : Mz_ I0 J0 Tl R C I J) (hf : 43 < n ∧ n ≤ 62) : Mz_ I0 J0 Tl R C I (mSet J n k v) := h.sj (by omega)
theorem Mz_.fld {k : Nat} {v : Int32} (h : Mz_ I0 J0 Tl R C I J) (hn : MN (mSet I 43 k v)) (h52 : ¬ (k = 52 ∨ k = 2 ∨ k = 13)) : Mz_ I0 J0 Tl R C (mSet I 43 k v) J := by
  obtain ⟨h1, e0, e1, u, w⟩ := h
  exact ⟨h1.up hn (mSet_ne (by decide)) (mSet_ne (by decide)) (mSet_ne (by decide)) (mSet_ne (by decide)) (mSet_ne (by decide)) (mSet_ne (by decide)) (mSet_x (by omega)) rfl, by rw [mSet_ne (by decide)]; exact e0, by rw [mSet_ne (by decide)]; exact e1, u.s (by omega), w⟩
theorem Mz_.s2 {v : Int32} (h : Mz_ I0 J0 Tl R C I J) (hv : 0 ≤ v.toInt ∧ v.toInt ≤ 940) : Mz_ I0 J0 (v, Tl.2) R C (mSet I 43 2 v) J := by
  obtain ⟨h1, e0, e1, u, w⟩ := h
  obtain ⟨-, n2, n3, n4, n5, n6, n7⟩ := h1.1
  exact ⟨h1.up ⟨hv, n2, n3, n4, n5, n6, n7⟩ rfl rfl rfl rfl rfl rfl rfl rfl, e0, e1, ⟨⟨fun b hb => by rw [mSet_ne (by omega)]; exact u.1.1 b hb, rfl⟩, by rw [mSet_ne (by decide)]; exact u.2.1, u.2.2⟩, w⟩
/-- the readers' fault -/
theorem Mz_.s13 {t v : Int32} (h : Mz_ I0 J0 (t, none) R C I J) : Mz_ I0 J0 (t, none) R C (mSet I 43 13 v) J := by
  obtain ⟨h1, e0, e1, u, w⟩ := h
  have hn := h1.1
  exact ⟨h1.up hn rfl rfl rfl rfl rfl rfl rfl rfl, e0, e1, ⟨⟨fun b hb => by rw [mSet_ne (by omega)]; exact u.1.1 b hb, u.1.2⟩, u.2.1, fun v e => (by cases e)⟩, w⟩
theorem Mz_.s42 {v : Int32} (h : Mz_ I0 J0 Tl R C I J) (hv : 0 ≤ v.toInt ∧ v.toInt ≤ 601) : Mz_ I0 J0 Tl R C (mSet I 43 42 v) J := by
  obtain ⟨n1, n2, n3, -, n5, n6, n7⟩ := h.1.1
  exact h.fld ⟨n1, n2, n3, hv, n5, n6, n7⟩ (by decide)
theorem Mz_.s43 {v : Int32} (h : Mz_ I0 J0 Tl R C I J) (hv : 0 ≤ v.toInt ∧ v.toInt ≤ 30) : Mz_ I0 J0 Tl R C (mSet I 43 43 v) J := by
  obtain ⟨n1, n2, n3, n4, -, n6, n7⟩ := h.1.1
  exact h.fld ⟨n1, n2, n3, n4, hv, n6, n7⟩ (by decide)
theorem Mz_.s47 {v : Int32} (h : Mz_ I0 J0 Tl R C I J) (hv : 0 ≤ v.toInt ∧ v.toInt ≤ 14) : Mz_ I0 J0 Tl R C (mSet I 43 47 v) J := by
  obtain ⟨n1, n2, n3, n4, n5, -, n7⟩ := h.1.1
  exact h.fld ⟨n1, n2, n3, n4, n5, hv, n7⟩ (by decide)
theorem Mz_.s56 {k : Nat} {v : Int32} (h : Mz_ I0 J0 Tl R C I J) (hv : 0 ≤ v.toInt ∧ v.toInt ≤ 63) : Mz_ I0 J0 Tl R C (mSet I 56 k v) J := by
  obtain ⟨⟨m, a, b, c, e, f, g⟩, e0, e1, u, w⟩ := h
  refine ⟨⟨m, a, b, fun j => ?_, e, f, g⟩, e0, e1, u.s (by omega), w⟩
  unfold mSet va_up
  rw [if_pos rfl]
  split
  · exact hv
  · exact c j
theorem Mz_.rw {I' : rI0} (h : Mz_ I0 J0 Tl R C I J) (o : ∀ b, b ≠ 50 → I' b = I b) (h50 : ∀ k, I' 50 k = 0 ∨ I' 50 k = 1) : Mz_ I0 J0 Tl R C I' J := by
  obtain ⟨⟨m, a, b, c, e, f, g⟩, e0, e1, u, w⟩ := h
  unfold Mz_ MV MN TKm at *
  rw [o 43 (by decide), o 45 (by decide), o 46 (by decide), o 56 (by decide), o 63 (by decide), o 66 (by decide)]
  exact ⟨⟨m, a, b, c, h50, f, g⟩, e0, e1, ⟨⟨fun b hb => by rw [o b (by omega)]; exact u.1.1 b hb, by rw [o 43 (by decide)]; exact u.1.2⟩, by rw [o 45 (by decide)]; exact u.2.1, by rw [o 43 (by decide)]; exact u.2.2⟩, w⟩
theorem Mz_.tk {v : Int32} (h : Mz_ I0 J0 Tl R C I J) : Mz_ I0 J0 (0, Tl.2) R C (mSet (mSet (mSet (mSet I 43 3 (I 43 2)) 43 2 0) 43 4 0) 43 5 v) J := by
  obtain ⟨h1, e0, e1, u, w⟩ := h
  obtain ⟨n1, n2, n3, n4, n5, n6, n7⟩ := h1.1
  refine ⟨h1.up ⟨(show 0 ≤ (0 : Int32).toInt ∧ (0 : Int32).toInt ≤ 940 by decide), ?_, n3, n4, n5, n6, n7⟩ rfl rfl rfl rfl rfl rfl rfl rfl, e0, e1, ⟨⟨fun b hb => by rw [mSet_ne (by omega), mSet_ne (by omega), mSet_ne (by omega), mSet_ne (by omega)]; exact u.1.1 b hb, rfl⟩, by rw [mSet_ne (by decide), mSet_ne (by decide), mSet_ne (by decide), mSet_ne (by decide)]; exact u.2.1, u.2.2⟩, w⟩
  show 0 ≤ (0 : Int32).toInt ∧ (0 : Int32).toInt ≤ (I 43 2).toInt ∧ (I 43 2).toInt ≤ 940
  have : (0 : Int32).toInt = 0 := by decide
  omega
/-- the nights keep who was asked, how often it was arranged, and the house -/
def Mk_ (I0 : rI0) (J0 : rJ0) (Tl : Int32 × Option Int32) (R C K A : Int) (g : Nat → Int32) (I : rI0) (J : rJ0) : Prop := Mz_ I0 J0 Tl R C I J ∧ (I 43 47).toInt = K ∧ I 45 = g ∧ (I 43 63).toInt = A
section MK
variable {K A : Int} {g : Nat → Int32}
theorem Mk_.bnd (h : Mk_ I0 J0 Tl R C K A g I J) : ((I 45 0).toInt = R ∧ 0 ≤ R ∧ R ≤ 8) ∧ ((I 45 1).toInt = C ∧ 0 ≤ C ∧ C ≤ 8) ∧ (0 ≤ (I 45 590).toInt ∧ (I 45 590).toInt ≤ 30) ∧ (0 ≤ (I 43 42).toInt ∧ (I 43 42).toInt ≤ 601) ∧ (0 ≤ (I 43 43).toInt ∧ (I 43 43).toInt ≤ 30) ∧ (0 ≤ (I 43 47).toInt ∧ (I 43 47).toInt ≤ 14) := h.1.bnd
theorem Mk_.si {n k : Nat} {v : Int32} (h : Mk_ I0 J0 Tl R C K A g I J) (hf : (43 ≤ n ∧ n ≤ 62 ∧ n ≠ 44 ∧ n ≠ 45 ∧ n ≠ 46 ∧ n ≠ 50 ∧ n ≠ 56 ∧ n ≠ 63 ∧ n ≠ 66 ∧ ¬ (n = 43 ∧ k = 13) ∧ ¬ (n = 43 ∧ (k = 2 ∨ k = 3 ∨ k = 4 ∨ k = 9 ∨ k = 10 ∨ k = 11 ∨ k = 12 ∨ k = 42 ∨ k = 43 ∨ k = 47 ∨ k = 52))) ∧ ¬ (n = 43 ∧ k = 63)) : Mk_ I0 J0 Tl R C K A g (mSet I n k v) J := ⟨h.1.si hf.1, by rw [mSet_x (by omega)]; exact h.2.1, by rw [mSet_ne (by omega)]; exact h.2.2.1, by rw [mSet_x (by omega)]; exact h.2.2.2⟩
theorem Mk_.sn {n k : Nat} {v : Int32} (h : Mk_ I0 J0 Tl R C K A g I J) (hf : 43 < n ∧ n ≤ 62 ∧ n ≠ 44 ∧ n ≠ 45 ∧ n ≠ 46 ∧ n ≠ 50 ∧ n ≠ 56 ∧ n ≠ 63 ∧ n ≠ 66) : Mk_ I0 J0 Tl R C K A g (mSet I n k v) J := h.si (by omega)
theorem Mk_.sj {n k : Nat} {v : Int64} (h : Mk_ I0 J0 Tl R C K A g I J) (hf : 43 ≤ n ∧ n ≤ 62 ∧ ¬ (n = 43 ∧ k = 53)) : Mk_ I0 J0 Tl R C K A g I (mSet J n k v) := ⟨h.1.sj hf, h.2⟩
theorem Mk_.sk {n k : Nat} {v : Int64} (h : Mk_ I0 J0 Tl R C K A g I J) (hf : 43 < n ∧ n ≤ 62) : Mk_ I0 J0 Tl R C K A g I (mSet J n k v) := h.sj (by omega)
theorem Mk_.s42 {v : Int32} (h : Mk_ I0 J0 Tl R C K A g I J) (hv : 0 ≤ v.toInt ∧ v.toInt ≤ 601) : Mk_ I0 J0 Tl R C K A g (mSet I 43 42 v) J := ⟨h.1.s42 hv, h.2⟩
theorem Mk_.s43 {v : Int32} (h : Mk_ I0 J0 Tl R C K A g I J) (hv : 0 ≤ v.toInt ∧ v.toInt ≤ 30) : Mk_ I0 J0 Tl R C K A g (mSet I 43 43 v) J := ⟨h.1.s43 hv, h.2⟩
end MK
theorem mTaken {p : Int32} {T0 : Int32} {F : Option Int32} {Q : rI0 → rJ0 → Prop} (h : Mz_ I0 J0 (T0, F) R C I J) (k : ∀ I J, Mz_ I0 J0 (0, F) R C I J → (I 43 2).toInt = 0 ∧ (I 43 4).toInt = 0 ∧ 0 ≤ (I 43 3).toInt ∧ (I 43 3).toInt ≤ 940 → Q I J) : wcV S d 150 [.ref 43, .int p] x I J Q := c150_43 (k _ _ h.tk ⟨(show (0 : Int32).toInt = 0 by decide), (show (0 : Int32).toInt = 0 by decide), h.1.1.1⟩)
theorem mBits {p : Int64} {Q : Int32 → rI0 → rJ0 → Prop} (k : ∀ r : Int32, 0 ≤ r.toInt ∧ r.toInt ≤ 255 → Q r I J) : wcI S d 154 [.long p] x I J Q := c154 (k _ (bitsB _ _ (by decide)))
theorem mPrice {p : Int32} {Q : Int32 → rI0 → rJ0 → Prop} (h : Mz_ I0 J0 Tl R C I J) (hp : -1 ≤ p.toInt ∧ p.toInt ≤ 63 ∧ 1 ≤ C) (k : ∀ r, Q r I J) : wcI S d 188 [.ref 43, .int p] x I J Q := by
  have b := h.bnd
  have l1 : (1 : Int32).toInt = 1 := by decide
  have l70 : (70 : Int32).toInt = 70 := by decide
  have q := i_divm (a := p) (b := I 45 1) ⟨hp.1, hp.2.1⟩ (by omega)
  have s := i_add (a := 70) (b := p / I 45 1) l70 rfl (by omega)
  exact c188_43 ⟨i_in l1 (by omega), i_n0 (e := I 45 1) rfl (by omega), i_in s (by omega), k _⟩
end MZ0
