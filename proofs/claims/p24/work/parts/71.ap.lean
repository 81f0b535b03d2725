section AP0
theorem lpn {P : Nat → Prop} (h : ∀ n, (∀ m, m < n → P m) → P n) (n : Nat) : P n := Nat.strongRecOn n h
theorem i_add {a b : Int32} {A B : Int} (ha : a.toInt = A) (hb : b.toInt = B) (h : -2147483648 ≤ A + B ∧ A + B < 2147483648) : (a + b).toInt = A + B := by
  rw [Int32.toInt_add, ha, hb]
  exact Int.bmod_eq_of_le (by omega) (by omega)
theorem i_sub {a b : Int32} {A B : Int} (ha : a.toInt = A) (hb : b.toInt = B) (h : -2147483648 ≤ A - B ∧ A - B < 2147483648) : (a - b).toInt = A - B := by
  rw [Int32.toInt_sub, ha, hb]
  exact Int.bmod_eq_of_le (by omega) (by omega)
theorem i_mul {a b : Int32} {A B : Int} (ha : a.toInt = A) (hb : b.toInt = B) (h : -2147483648 ≤ A * B ∧ A * B < 2147483648) : (a * b).toInt = A * B := by
  rw [Int32.toInt_mul, ha, hb]
  exact Int.bmod_eq_of_le (by omega) (by omega)
theorem i_mb {A B : Int} (hA : 0 ≤ A ∧ A ≤ 8) (hB : 0 ≤ B ∧ B ≤ 8) : 0 ≤ A * B ∧ A * B ≤ 64 := ⟨Int.mul_nonneg hA.1 hB.1, Int.le_trans (Int.mul_le_mul hA.2 hB.2 hB.1 (by omega)) (by omega)⟩
theorem i_m7 {A B : Int} (hA : 0 ≤ A ∧ A ≤ 8) (hB : 0 ≤ B ∧ B ≤ 7) : A * B ≤ 56 := Int.le_trans (Int.mul_le_mul hA.2 hB.2 hB.1 (by omega)) (by omega)
theorem i_lt {a b : Int32} (h : a < b) : a.toInt < b.toInt := Int32.lt_iff_toInt_lt.mp h
theorem i_nlt {a b : Int32} (h : ¬ a < b) : b.toInt ≤ a.toInt := Int.not_lt.mp (fun z => h (Int32.lt_iff_toInt_lt.mpr z))
theorem i_eq {a b : Int32} (h : a = b) : a.toInt = b.toInt := congrArg _ h
theorem i_ne {a b : Int32} (h : ¬ a = b) : ¬ a.toInt = b.toInt := fun z => h (Int32.toInt_inj.mp z)
theorem i_nI {a : Int32} {n : Nat} (h0 : 0 ≤ a.toInt) (h1 : a.toInt ≤ (n : Int)) (hn : n < 2147483648) : RB a n := by
  refine ⟨a.toInt.toNat, by omega, ?_⟩
  rw [← Int32.toInt_inj, nI_toInt (by omega)]
  omega
theorem RB.i {a : Int32} {n : Nat} (h : RB a n) (hn : n < 2147483648) : 0 ≤ a.toInt ∧ a.toInt ≤ (n : Int) := by
  obtain ⟨k, hk, rfl⟩ := h
  rw [nI_toInt (by omega)]
  omega
theorem i_in {e : Int32} {A : Int} {n : Nat} (he : e.toInt = A) (h : 0 ≤ A ∧ A < (n : Int) ∧ n < 2147483648) : ¬ mOut e n := (i_nI (n := n - 1) (by omega) (by omega) (by omega)).mo (by omega) (by omega)
theorem i_n0 {e : Int32} {A : Int} (he : e.toInt = A) (h : ¬ A = 0) : ¬ e = 0 := fun z => h (by rw [← he, z]; decide)
theorem i_and (v : Int32) {m : Int32} (k : Nat) (hm : m.toBitVec.toNat = 2 ^ k - 1 ∧ k < 31) : 0 ≤ (v &&& m).toInt ∧ (v &&& m).toInt ≤ ((2 ^ k - 1 : Nat) : Int) := by
  have h : 2 ^ k ≤ 2 ^ 30 := Nat.pow_le_pow_right (by omega) (by omega)
  exact (rb_and v k (2 ^ k - 1) hm.1 (Nat.le_refl _)).i (by omega)
theorem i_rng (v : Int32) : -2147483648 ≤ v.toInt ∧ v.toInt < 2147483648 := ⟨Int32.le_toInt v, Int32.toInt_lt v⟩
theorem i_shl0 : ∀ k, k < 9 → 1 ≤ ((1 : Int32) <<< (nI k &&& 31)).toInt ∧ ((1 : Int32) <<< (nI k &&& 31)).toInt ≤ 256 := by decide +kernel
theorem i_shl {n : Int32} (h : 0 ≤ n.toInt ∧ n.toInt ≤ 8) : 1 ≤ ((1 : Int32) <<< (n &&& 31)).toInt ∧ ((1 : Int32) <<< (n &&& 31)).toInt ≤ 256 := by
  obtain ⟨k, hk, rfl⟩ := i_nI (n := 8) h.1 h.2 (by omega)
  exact i_shl0 k (by omega)
theorem i_shl1 : ∀ k, k < 8 → 1 ≤ ((1 : Int32) <<< (nI k &&& 31)).toInt ∧ ((1 : Int32) <<< (nI k &&& 31)).toInt ≤ 128 := by decide +kernel
theorem i_shl7 {n : Int32} (h : 0 ≤ n.toInt ∧ n.toInt ≤ 7) : 1 ≤ ((1 : Int32) <<< (n &&& 31)).toInt ∧ ((1 : Int32) <<< (n &&& 31)).toInt ≤ 128 := by
  obtain ⟨k, hk, rfl⟩ := i_nI (n := 7) h.1 h.2 (by omega)
  exact i_shl1 k (by omega)
theorem i_or8 {a b : Int32} (ha : 0 ≤ a.toInt ∧ a.toInt < 256) (hb : 0 ≤ b.toInt ∧ b.toInt < 256) : 0 ≤ (a ||| b).toInt ∧ (a ||| b).toInt < 256 := by
  obtain ⟨p, hp, rfl⟩ := i_nI (n := 255) ha.1 (by omega) (by omega)
  obtain ⟨q, hq, rfl⟩ := i_nI (n := 255) hb.1 (by omega) (by omega)
  have e : nI p ||| nI q = nI (p ||| q) := by
    rw [← Int32.toBitVec_inj, Int32.toBitVec_or]
    apply BitVec.eq_of_toNat_eq
    rw [BitVec.toNat_or]
    show (BitVec.ofNat 32 p).toNat ||| (BitVec.ofNat 32 q).toNat = (BitVec.ofNat 32 (p ||| q)).toNat
    have : p ||| q < 2 ^ 8 := Nat.or_lt_two_pow (by omega) (by omega)
    rw [BitVec.toNat_ofNat, BitVec.toNat_ofNat, BitVec.toNat_ofNat, Nat.mod_eq_of_lt (by omega), Nat.mod_eq_of_lt (by omega), Nat.mod_eq_of_lt (by omega)]
  have : p ||| q < 2 ^ 8 := Nat.or_lt_two_pow (by omega) (by omega)
  rw [e, nI_toInt (by omega)]
  omega
theorem i_b01 {v : Int32} (h : v.toInt = 0 ∨ v.toInt = 1) : v = 0 ∨ v = 1 := by
  rcases h with h | h
  · exact Or.inl (Int32.toInt_inj.mp h)
  · exact Or.inr (Int32.toInt_inj.mp h)
theorem i_max {a b : Int32} {A B : Int} (ha : a.toInt = A) (hb : b.toInt = B) : A ≤ (if a < b then b else a).toInt ∧ B ≤ (if a < b then b else a).toInt ∧ ((if a < b then b else a).toInt = A ∨ (if a < b then b else a).toInt = B) := by
  split
  · rename_i z
    have := i_lt z
    omega
  · rename_i z
    have := i_nlt z
    omega
theorem i_min {a b : Int32} {A B : Int} (ha : a.toInt = A) (hb : b.toInt = B) : (if b < a then b else a).toInt ≤ A ∧ (if b < a then b else a).toInt ≤ B ∧ ((if b < a then b else a).toInt = A ∨ (if b < a then b else a).toInt = B) := by
  split
  · rename_i z
    have := i_lt z
    omega
  · rename_i z
    have := i_nlt z
    omega
theorem i_div {a b : Int32} {A B : Int} (ha : a.toInt = A) (hb : b.toInt = B) (h0 : 0 ≤ A) (h1 : 0 < B) : (a / b).toInt = A / B ∧ 0 ≤ A / B ∧ A / B ≤ A ∧ A / B * B ≤ A ∧ A < A / B * B + B := by
  have e : (a / b).toInt = A / B := by
    rw [Int32.toInt_div, ha, hb, Int.tdiv_eq_ediv_of_nonneg h0]
    have := Int.ediv_le_self B h0
    have := Int.ediv_nonneg h0 (by omega : 0 ≤ B)
    have := Int32.toInt_lt a
    exact Int.bmod_eq_of_le (by omega) (by omega)
  refine ⟨e, Int.ediv_nonneg h0 (by omega), Int.ediv_le_self B h0, Int.ediv_mul_le A (by omega), ?_⟩
  have := Int.lt_ediv_add_one_mul_self A h1
  rw [Int.add_mul] at this
  omega
theorem i_rem {a b : Int32} {A B : Int} (ha : a.toInt = A) (hb : b.toInt = B) (h0 : 0 ≤ A) (h1 : 0 < B) : 0 ≤ (a - a / b * b).toInt ∧ (a - a / b * b).toInt < B ∧ (a - a / b * b).toInt = A - A / B * B := by
  obtain ⟨e, d0, d1, d2, d3⟩ := i_div ha hb h0 h1
  have := Int32.toInt_lt a
  have p0 : 0 ≤ A / B * B := Int.mul_nonneg d0 (by omega)
  have m : (a / b * b).toInt = A / B * B := i_mul e hb (by omega)
  have s := i_sub ha m (by omega)
  omega
end AP0
