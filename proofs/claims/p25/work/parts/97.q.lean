section
/-! how many bits are set: both ways of counting them -/
section PQ0
/-- how many below n -/
def nb (p : Nat → Bool) : Nat → Nat
  | 0 => 0
  | n + 1 => nb p n + (if p n = true then 1 else 0)
theorem nb_s (p : Nat → Bool) (n : Nat) : nb p (n + 1) = nb p n + (if p n = true then 1 else 0) := rfl
theorem nb_le {p : Nat → Bool} : ∀ n, nb p n ≤ n := by
  intro n
  induction n with
  | zero => exact Nat.le_refl _
  | succ n ih =>
    rw [nb_s]
    split <;> omega
theorem nb_cg {p q : Nat → Bool} : ∀ n, (∀ i, i < n → q i = p i) → nb q n = nb p n := by
  intro n
  induction n with
  | zero => intro _; rfl
  | succ n ih =>
    intro h
    rw [nb_s, nb_s, ih (fun i hi => h i (by omega)), h n (by omega)]
theorem nb_ad {p : Nat → Bool} {a : Nat} : ∀ k, nb p (a + k) = nb p a + nb (fun i => p (a + i)) k := by
  intro k
  induction k with
  | zero => rfl
  | succ k ih =>
    show nb p (a + k) + _ = nb p a + (nb (fun i => p (a + i)) k + _)
    rw [ih, Nat.add_assoc]
    rfl
def nbt (v n : Nat) : Nat := nb (fun i => v.testBit i) n
theorem nbt_8 (v k : Nat) : nbt v (8 + k) = nbt (v % 256) 8 + nbt (v / 256) k := by
  unfold nbt
  rw [nb_ad]
  congr 1
  · refine nb_cg 8 (fun i hi => ?_)
    show v.testBit i = (v % 2 ^ 8).testBit i
    rw [Nat.testBit_mod_two_pow, decide_eq_true hi]
    rfl
  · refine nb_cg k (fun i hi => ?_)
    show v.testBit (8 + i) = (v / 2 ^ 8).testBit i
    rw [Nat.testBit_div_two_pow, Nat.add_comm]
/-- a byte's mask, n times -/
def mk8 (m : Nat) : Nat → Nat
  | 0 => 0
  | n + 1 => m + 256 * mk8 m n
theorem an8 {v m : Nat} (n : Nat) (hm : m < 256) : v &&& mk8 m (n + 1) = (v % 256 &&& m) + 256 * (v / 256 &&& mk8 m n) := by
  have e1 : (v &&& mk8 m (n + 1)) % 2 ^ 8 = (v % 2 ^ 8) &&& (mk8 m (n + 1) % 2 ^ 8) := Nat.and_mod_two_pow
  have e2 : (v &&& mk8 m (n + 1)) / 2 ^ 8 = v / 2 ^ 8 &&& mk8 m (n + 1) / 2 ^ 8 := Nat.and_div_two_pow
  have e3 : mk8 m (n + 1) % 2 ^ 8 = m := by
    show (m + 256 * mk8 m n) % 256 = m
    omega
  have e4 : mk8 m (n + 1) / 2 ^ 8 = mk8 m n := by
    show (m + 256 * mk8 m n) / 256 = _
    omega
  rw [e3] at e1
  rw [e4] at e2
  have e5 := Nat.div_add_mod (v &&& mk8 m (n + 1)) (2 ^ 8)
  rw [e1, e2] at e5
  have e5 : 256 * (v / 256 &&& mk8 m n) + (v % 256 &&& m) = v &&& mk8 m (n + 1) := e5
  omega
/-- a mask below 2 ^ j takes what lies below alone -/
theorem an_j {v w m : Nat} (j : Nat) (hm : m < 2 ^ j) (h : v % 2 ^ j = w % 2 ^ j) : v &&& m = w &&& m := by
  have e1 : ∀ u : Nat, u &&& m = (u % 2 ^ j) &&& m := by
    intro u
    have hl : u &&& m < 2 ^ j := Nat.lt_of_le_of_lt Nat.and_le_right hm
    have e : (u &&& m) % 2 ^ j = (u % 2 ^ j) &&& (m % 2 ^ j) := Nat.and_mod_two_pow
    rw [Nat.mod_eq_of_lt hl, Nat.mod_eq_of_lt hm] at e
    exact e
  rw [e1 v, e1 w, h]
def f1 (n v : Nat) : Nat := v - (v / 2 &&& mk8 85 n)
def f2 (n v : Nat) : Nat := (f1 n v &&& mk8 51 n) + (f1 n v / 4 &&& mk8 51 n)
def f3 (n v : Nat) : Nat := (f2 n v + f2 n v / 16) &&& mk8 15 n
theorem f1_s {n lo hi : Nat} (h : lo < 256) : f1 (n + 1) (lo + 256 * hi) = f1 1 lo + 256 * f1 n hi := by
  unfold f1
  rw [an8 n (by omega), an8 0 (by omega)]
  have e1 : (lo + 256 * hi) / 2 % 256 &&& 85 = lo / 2 % 256 &&& 85 := an_j 7 (by omega) (by omega)
  have e2 : (lo + 256 * hi) / 2 / 256 = hi / 2 := by omega
  rw [e1, e2]
  have b1 : lo / 2 % 256 &&& 85 ≤ lo / 2 % 256 := Nat.and_le_left
  have b2 : hi / 2 &&& mk8 85 n ≤ hi / 2 := Nat.and_le_left
  show lo + 256 * hi - ((lo / 2 % 256 &&& 85) + 256 * (hi / 2 &&& mk8 85 n)) = lo - ((lo / 2 % 256 &&& 85) + 256 * (lo / 2 / 256 &&& 0)) + _
  rw [Nat.and_zero]
  omega
theorem f1_l {lo : Nat} (h : lo < 256) : f1 1 lo < 256 := by
  unfold f1
  omega
theorem f2_s {n lo hi : Nat} (h : lo < 256) : f2 (n + 1) (lo + 256 * hi) = f2 1 lo + 256 * f2 n hi := by
  unfold f2
  rw [f1_s h]
  have hl := f1_l h
  generalize f1 1 lo = a at *
  generalize f1 n hi = b
  rw [an8 n (by omega), an8 n (by omega), an8 0 (by omega), an8 0 (by omega)]
  have e1 : (a + 256 * b) / 4 % 256 &&& 51 = a / 4 % 256 &&& 51 := an_j 6 (by omega) (by omega)
  have e2 : (a + 256 * b) / 4 / 256 = b / 4 := by omega
  have e3 : (a + 256 * b) % 256 = a % 256 := by omega
  have e4 : (a + 256 * b) / 256 = b := by omega
  rw [e1, e2, e3, e4]
  show (a % 256 &&& 51) + 256 * (b &&& mk8 51 n) + ((a / 4 % 256 &&& 51) + 256 * (b / 4 &&& mk8 51 n)) = (a % 256 &&& 51) + 256 * (a / 256 &&& 0) + ((a / 4 % 256 &&& 51) + 256 * (a / 4 / 256 &&& 0)) + _
  rw [Nat.and_zero, Nat.and_zero]
  omega
theorem f2_1 : ∀ lo, lo < 256 → f2 1 lo % 16 ≤ 4 ∧ f2 1 lo / 16 ≤ 4 := by decide +kernel
theorem f2_n {n hi : Nat} : f2 n hi % 16 ≤ 4 := by
  cases n with
  | zero =>
    show ((f1 0 hi &&& 0) + (f1 0 hi / 4 &&& 0)) % 16 ≤ 4
    rw [Nat.and_zero, Nat.and_zero]
    omega
  | succ n =>
    have e := Nat.mod_add_div hi 256
    rw [← e, f2_s (Nat.mod_lt _ (by omega))]
    have := (f2_1 (hi % 256) (Nat.mod_lt _ (by omega))).1
    omega
theorem an15 (v : Nat) : v &&& 15 = v % 16 := Nat.and_two_pow_sub_one_eq_mod v 4
theorem f3_s {n lo hi : Nat} (h : lo < 256) : f3 (n + 1) (lo + 256 * hi) = f3 1 lo + 256 * f3 n hi := by
  unfold f3
  rw [f2_s h]
  have hl := f2_1 lo h
  have hn := f2_n (n := n) (hi := hi)
  generalize f2 1 lo = a at *
  generalize f2 n hi = b at *
  rw [an8 n (by omega), an8 0 (by omega), an15, an15]
  have e2 : (a + 256 * b + (a + 256 * b) / 16) / 256 = b + b / 16 := by omega
  have e3 : (a + 256 * b + (a + 256 * b) / 16) % 256 % 16 = (a + a / 16) % 256 % 16 := by omega
  rw [e2, e3]
  show _ = (a + a / 16) % 256 % 16 + 256 * ((a + a / 16) / 256 &&& 0) + _
  rw [Nat.and_zero]
  omega
theorem f3_1 : ∀ lo, lo < 256 → f3 1 lo = nbt lo 8 := by decide +kernel
/-- the bytes' counts -/
def bs : Nat → Nat → Nat
  | 0, _ => 0
  | n + 1, v => nbt (v % 256) 8 + 256 * bs n (v / 256)
theorem f3_bs : ∀ n v, f3 n v = bs n v := by
  intro n
  induction n with
  | zero =>
    intro v
    exact Nat.and_zero _
  | succ n ih =>
    intro v
    show _ = nbt (v % 256) 8 + 256 * bs n (v / 256)
    have e := Nat.mod_add_div v 256
    have g := f3_s (n := n) (lo := v % 256) (hi := v / 256) (Nat.mod_lt _ (by omega))
    rw [e] at g
    rw [g, f3_1 _ (Nat.mod_lt _ (by omega)), ih]
theorem nbt_l {v n : Nat} : nbt v n ≤ n := nb_le n
/-- eight bytes: their counts, apart and together -/
theorem bs_8 (v : Nat) : ∃ a0 a1 a2 a3 a4 a5 a6 a7, a0 ≤ 8 ∧ a1 ≤ 8 ∧ a2 ≤ 8 ∧ a3 ≤ 8 ∧ a4 ≤ 8 ∧ a5 ≤ 8 ∧ a6 ≤ 8 ∧ a7 ≤ 8 ∧ bs 8 v = a0 + 256 * (a1 + 256 * (a2 + 256 * (a3 + 256 * (a4 + 256 * (a5 + 256 * (a6 + 256 * a7)))))) ∧ nbt v 64 = a0 + a1 + a2 + a3 + a4 + a5 + a6 + a7 := by
  refine ⟨_, _, _, _, _, _, _, _, nbt_l (v := v % 256), nbt_l (v := v / 256 % 256), nbt_l (v := v / 256 / 256 % 256), nbt_l (v := v / 256 / 256 / 256 % 256), nbt_l (v := v / 256 / 256 / 256 / 256 % 256), nbt_l (v := v / 256 / 256 / 256 / 256 / 256 % 256), nbt_l (v := v / 256 / 256 / 256 / 256 / 256 / 256 % 256), nbt_l (v := v / 256 / 256 / 256 / 256 / 256 / 256 / 256 % 256), rfl, ?_⟩
  have e : nbt v 64 = nbt v (8 + (8 + (8 + (8 + (8 + (8 + (8 + (8 + 0)))))))) := rfl
  rw [e, nbt_8, nbt_8, nbt_8, nbt_8, nbt_8, nbt_8, nbt_8, nbt_8]
  show _ + (_ + (_ + (_ + (_ + (_ + (_ + (_ + 0))))))) = _
  omega
/-! the words -/
def un (v : Int64) : Nat := v.toBitVec.toNat
theorem un_l (v : Int64) : un v < 2 ^ 64 := v.toBitVec.isLt
theorem un_sub {a b : Int64} (h : un b ≤ un a) : un (a - b) = un a - un b := by
  unfold un at *
  rw [Int64.toBitVec_sub, BitVec.toNat_sub_of_le h]
theorem un_add {a b : Int64} (h : un a + un b < 2 ^ 64) : un (a + b) = un a + un b := by
  unfold un at *
  rw [Int64.toBitVec_add, BitVec.toNat_add, Nat.mod_eq_of_lt h]
theorem un_and {a b : Int64} : un (a &&& b) = un a &&& un b := by
  unfold un
  rw [Int64.toBitVec_and, BitVec.toNat_and]
theorem un_mul {a b : Int64} : un (a * b) = un a * un b % 2 ^ 64 := by
  unfold un
  rw [Int64.toBitVec_mul, BitVec.toNat_mul]
theorem un_shr {a : Int64} {u : UInt64} (k : Nat) (hu : (u.toBitVec % 64).toNat = k) : un ((a.toUInt64 >>> u).toInt64) = un a / 2 ^ k := by
  show (a.toBitVec >>> (u.toBitVec % 64)).toNat = _
  rw [BitVec.ushiftRight_eq', BitVec.toNat_ushiftRight, Nat.shiftRight_eq_div_pow, hu]
  rfl
def shu (a : Int64) (k : Int32) : Int64 := (a.toUInt64 >>> (k.toInt64.toUInt64 &&& Int64.toUInt64 63)).toInt64
def q1 (p : Int64) : Int64 := p - (shu p (1 : Int32) &&& (6148914691236517205 : Int64))
def q2 (p : Int64) : Int64 := (p &&& (3689348814741910323 : Int64)) + (shu p (2 : Int32) &&& (3689348814741910323 : Int64))
def q3 (p : Int64) : Int64 := (p + shu p (4 : Int32)) &&& (1085102592571150095 : Int64)
theorem m85 : mk8 85 8 = 6148914691236517205 := by decide
theorem m51 : mk8 51 8 = 3689348814741910323 := by decide
theorem m15 : mk8 15 8 = 1085102592571150095 := by decide
theorem q1_u (p : Int64) : un (q1 p) = f1 8 (un p) := by
  have e : un (shu p (1 : Int32) &&& (6148914691236517205 : Int64)) = un p / 2 &&& mk8 85 8 := by
    rw [un_and, m85]
    congr 1
    try exact un_shr 1 (by decide)
  have b : un p / 2 &&& mk8 85 8 ≤ un p / 2 := Nat.and_le_left
  unfold q1 f1
  rw [un_sub (by rw [e]; omega), e]
theorem q2_u (p : Int64) : un (q2 p) = (un p &&& mk8 51 8) + (un p / 4 &&& mk8 51 8) := by
  have e1 : un (p &&& (3689348814741910323 : Int64)) = un p &&& mk8 51 8 := by
    rw [un_and, m51]
    rfl
  have e2 : un (shu p (2 : Int32) &&& (3689348814741910323 : Int64)) = un p / 4 &&& mk8 51 8 := by
    rw [un_and, m51]
    congr 1
    exact un_shr 2 (by decide)
  have b1 : un p &&& mk8 51 8 ≤ mk8 51 8 := Nat.and_le_right
  have b2 : un p / 4 &&& mk8 51 8 ≤ mk8 51 8 := Nat.and_le_right
  have b3 := m51
  unfold q2
  rw [un_add (by rw [e1, e2]; omega), e1, e2]
theorem f2_8 (v : Nat) : f2 8 v ≤ 7378697629483820646 := by
  unfold f2
  have b1 : f1 8 v &&& mk8 51 8 ≤ mk8 51 8 := Nat.and_le_right
  have b2 : f1 8 v / 4 &&& mk8 51 8 ≤ mk8 51 8 := Nat.and_le_right
  have b3 := m51
  omega
theorem q3_u (p : Int64) : un (q3 (q2 (q1 p))) = bs 8 (un p) := by
  have e1 : un (q2 (q1 p)) = f2 8 (un p) := by
    rw [q2_u, q1_u]
    rfl
  have e2 : un (shu (q2 (q1 p)) (4 : Int32)) = f2 8 (un p) / 16 := by
    rw [← e1]
    exact un_shr 4 (by decide)
  have b := f2_8 (un p)
  rw [← f3_bs]
  unfold q3 f3
  rw [un_and, un_add (by rw [e1, e2]; omega), e1, e2, m15]
  rfl
def q4 (p : Int64) (k : Int32) : Int64 := p + shu p k
def bits5 (p : Int64) (k : Nat) : Bool := p.toBitVec.getLsbD k
/-- how many of the 64 -/
def pc (p : Int64) : Nat := nb (bits5 p) 64
theorem pc_n (p : Int64) : nbt (un p) 64 = pc p := rfl
theorem pc_l (p : Int64) : pc p ≤ 64 := nb_le 64
theorem l2i {v : Int64} {n : Nat} (h : un v % 2 ^ 32 = n) (hn : n < 2 ^ 31) : v.toInt32 = nI n := by
  refine nI_bv ?_
  rw [Int64.toBitVec_toInt32, BitVec.signExtend_eq_setWidth_of_le _ (by decide), BitVec.toNat_setWidth]
  exact h
theorem e154 (p : Int64) : (shu (q3 (q2 (q1 p)) * (72340172838076673 : Int64)) (56 : Int32)).toInt32 = nI (pc p) := by
  have hp := pc_l p
  refine l2i ?_ (by omega)
  have e : un (shu (q3 (q2 (q1 p)) * (72340172838076673 : Int64)) (56 : Int32)) = bs 8 (un p) * 72340172838076673 % 2 ^ 64 / 2 ^ 56 := by
    rw [← q3_u]
    exact (un_shr 56 (by decide)).trans (by rw [un_mul]; rfl)
  rw [e, ← pc_n]
  obtain ⟨a0, a1, a2, a3, a4, a5, a6, a7, h0, h1, h2, h3, h4, h5, h6, h7, e1, e2⟩ := bs_8 (un p)
  have e3 : (a0 + 256 * (a1 + 256 * (a2 + 256 * (a3 + 256 * (a4 + 256 * (a5 + 256 * (a6 + 256 * a7))))))) * 72340172838076673 = (a0 + 256 * ((a0 + a1) + 256 * ((a0 + a1 + a2) + 256 * ((a0 + a1 + a2 + a3) + 256 * ((a0 + a1 + a2 + a3 + a4) + 256 * ((a0 + a1 + a2 + a3 + a4 + a5) + 256 * ((a0 + a1 + a2 + a3 + a4 + a5 + a6) + 256 * (a0 + a1 + a2 + a3 + a4 + a5 + a6 + a7)))))))) + 2 ^ 64 * ((a1 + a2 + a3 + a4 + a5 + a6 + a7) + 256 * ((a2 + a3 + a4 + a5 + a6 + a7) + 256 * ((a3 + a4 + a5 + a6 + a7) + 256 * ((a4 + a5 + a6 + a7) + 256 * ((a5 + a6 + a7) + 256 * ((a6 + a7) + 256 * a7)))))) := by omega
  have e4 : a0 + 256 * ((a0 + a1) + 256 * ((a0 + a1 + a2) + 256 * ((a0 + a1 + a2 + a3) + 256 * ((a0 + a1 + a2 + a3 + a4) + 256 * ((a0 + a1 + a2 + a3 + a4 + a5) + 256 * (a0 + a1 + a2 + a3 + a4 + a5 + a6)))))) < 2 ^ 56 := by omega
  have e5 : (a0 + 256 * ((a0 + a1) + 256 * ((a0 + a1 + a2) + 256 * ((a0 + a1 + a2 + a3) + 256 * ((a0 + a1 + a2 + a3 + a4) + 256 * ((a0 + a1 + a2 + a3 + a4 + a5) + 256 * ((a0 + a1 + a2 + a3 + a4 + a5 + a6) + 256 * (a0 + a1 + a2 + a3 + a4 + a5 + a6 + a7)))))))) = (a0 + 256 * ((a0 + a1) + 256 * ((a0 + a1 + a2) + 256 * ((a0 + a1 + a2 + a3) + 256 * ((a0 + a1 + a2 + a3 + a4) + 256 * ((a0 + a1 + a2 + a3 + a4 + a5) + 256 * (a0 + a1 + a2 + a3 + a4 + a5 + a6))))))) + 2 ^ 56 * (a0 + a1 + a2 + a3 + a4 + a5 + a6 + a7) := by omega
  rw [e1, e2, e3, Nat.add_mul_mod_self_left, e5]
  generalize hx : a0 + 256 * ((a0 + a1) + 256 * ((a0 + a1 + a2) + 256 * ((a0 + a1 + a2 + a3) + 256 * ((a0 + a1 + a2 + a3 + a4) + 256 * ((a0 + a1 + a2 + a3 + a4 + a5) + 256 * (a0 + a1 + a2 + a3 + a4 + a5 + a6)))))) = lo at e4
  clear hx e3 e5 e1 e2 e
  omega
theorem e250 (p : Int64) : (q4 (q4 (q4 (q3 (q2 (q1 p))) (8 : Int32)) (16 : Int32)) (32 : Int32)).toInt32 &&& (127 : Int32) = nI (pc p) := by
  have hp := pc_l p
  obtain ⟨a0, a1, a2, a3, a4, a5, a6, a7, h0, h1, h2, h3, h4, h5, h6, h7, e1, e2⟩ := bs_8 (un p)
  have u0 : un (q3 (q2 (q1 p))) = a0 + 256 * (a1 + 256 * (a2 + 256 * (a3 + 256 * (a4 + 256 * (a5 + 256 * (a6 + 256 * a7)))))) := (q3_u p).trans e1
  generalize q3 (q2 (q1 p)) = v at *
  have s1 : un (shu v (8 : Int32)) = a1 + 256 * (a2 + 256 * (a3 + 256 * (a4 + 256 * (a5 + 256 * (a6 + 256 * a7))))) := by
    refine (un_shr 8 (by decide)).trans ?_
    rw [u0]
    omega
  have u1 : un (q4 v (8 : Int32)) = (a0 + a1) + 256 * ((a1 + a2) + 256 * ((a2 + a3) + 256 * ((a3 + a4) + 256 * ((a4 + a5) + 256 * ((a5 + a6) + 256 * ((a6 + a7) + 256 * a7)))))) := by
    unfold q4
    rw [un_add (by rw [u0, s1]; omega), u0, s1]
    omega
  generalize q4 v (8 : Int32) = w at *
  have s2 : un (shu w (16 : Int32)) = (a2 + a3) + 256 * ((a3 + a4) + 256 * ((a4 + a5) + 256 * ((a5 + a6) + 256 * ((a6 + a7) + 256 * a7)))) := by
    refine (un_shr 16 (by decide)).trans ?_
    rw [u1]
    omega
  have u2 : ∃ r1 r2 r3, r1 < 256 ∧ r2 < 256 ∧ r3 < 256 ∧ un (q4 w (16 : Int32)) = (a0 + a1 + a2 + a3) + 256 * (r1 + 256 * (r2 + 256 * (r3 + 256 * ((a4 + a5 + a6 + a7) + 256 * ((a5 + a6 + a7) + 256 * ((a6 + a7) + 256 * a7)))))) := by
    refine ⟨a1 + a2 + a3 + a4, a2 + a3 + a4 + a5, a3 + a4 + a5 + a6, by omega, by omega, by omega, ?_⟩
    unfold q4
    rw [un_add (by rw [u1, s2]; omega), u1, s2]
    omega
  generalize q4 w (16 : Int32) = y at *
  obtain ⟨r1, r2, r3, g1, g2, g3, u2⟩ := u2
  have s3 : un (shu y (32 : Int32)) = (a4 + a5 + a6 + a7) + 256 * ((a5 + a6 + a7) + 256 * ((a6 + a7) + 256 * a7)) := by
    refine (un_shr 32 (by decide)).trans ?_
    rw [u2]
    omega
  have u3 : un (q4 y (32 : Int32)) % 128 = pc p := by
    unfold q4
    rw [un_add (by rw [u2, s3]; omega), u2, s3, ← pc_n, e2]
    omega
  have t : (q4 y (32 : Int32)).toInt32.toBitVec.toNat = un (q4 y (32 : Int32)) % 2 ^ 32 := by
    rw [Int64.toBitVec_toInt32, BitVec.signExtend_eq_setWidth_of_le _ (by decide), BitVec.toNat_setWidth]
    rfl
  refine nI_bv ?_
  rw [Int32.toBitVec_and, BitVec.toNat_and, t]
  have a := Nat.and_two_pow_sub_one_eq_mod (un (q4 y (32 : Int32)) % 2 ^ 32) 7
  refine Eq.trans a ?_
  omega
end PQ0
section PQ1
variable {S : Nat × (Nat → Int32)} {d : Nat} {x : mX} {I : rI0} {J : rJ0}
/-- the class's count -/
theorem bcX {p : Int64} {Q : Int32 → rI0 → rJ0 → Prop} (k : Q (nI (pc p)) I J) : wcI S d 250 [.long p] x I J Q := by
  have h : Q ((q4 (q4 (q4 (q3 (q2 (q1 p))) (8 : Int32)) (16 : Int32)) (32 : Int32)).toInt32 &&& (127 : Int32)) I J := by
    rw [e250]
    exact k
  exact c250 h
/-- the reference's -/
theorem rbX {p : Int64} {Q : Int32 → rI0 → rJ0 → Prop} (k : Q (nI (pc p)) I J) : wcI S d 154 [.long p] x I J Q := by
  have h : Q ((shu (q3 (q2 (q1 p)) * (72340172838076673 : Int64)) (56 : Int32)).toInt32) I J := by
    rw [e154]
    exact k
  exact c154 h
end PQ1
end
section
/-! sets of SEATS as words: their bits, one by one -/
section NB0
theorem b5_SB {v : Int64} {s : Nat} : SB v s ↔ bits5 v s = true := Iff.rfl
theorem b5_or {v w : Int64} {s : Nat} : bits5 (v ||| w) s = (bits5 v s || bits5 w s) := by
  unfold bits5
  rw [Int64.toBitVec_or, BitVec.getLsbD_or]
theorem b5_and {v w : Int64} {s : Nat} : bits5 (v &&& w) s = (bits5 v s && bits5 w s) := by
  unfold bits5
  rw [Int64.toBitVec_and, BitVec.getLsbD_and]
theorem b5_xor {v w : Int64} {s : Nat} : bits5 (v ^^^ w) s = (bits5 v s ^^ bits5 w s) := by
  unfold bits5
  rw [Int64.toBitVec_xor, BitVec.getLsbD_xor]
theorem b5_m : ∀ s, s < 64 → bits5 (-1) s = true := by decide +kernel
theorem b5_not {v : Int64} {s : Nat} (hs : s < 64) : bits5 (v ^^^ (-1)) s = !bits5 v s := by
  rw [b5_xor, b5_m s hs, Bool.xor_true]
theorem b5_0 {s : Nat} : bits5 0 s = false := by
  cases h : bits5 0 s with
  | false => rfl
  | true => exact absurd (b5_SB.mpr h) SB_0
theorem b5_1 {c s : Nat} (hc : c < 64) : bits5 ((1 : Int64) <<< ((nI c).toInt64 &&& 63)) s = decide (s = c) := by
  cases h : bits5 ((1 : Int64) <<< ((nI c).toInt64 &&& 63)) s with
  | false =>
    refine (decide_eq_false (fun z => ?_)).symm
    rw [z] at h
    have := b5_SB.mp (SB_1I hc)
    rw [h] at this
    cases this
  | true => exact (decide_eq_true (SB_1 hc (b5_SB.mpr h))).symm
theorem b5_ext {v w : Int64} (h : ∀ s, s < 64 → bits5 v s = bits5 w s) : v = w := by
  apply Int64.toBitVec_inj.mp
  apply BitVec.eq_of_getLsbD_eq
  exact h
theorem b5_z {v : Int64} : v = 0 ↔ ∀ s, s < 64 → bits5 v s = false := ⟨fun h s _ => by rw [h, b5_0], fun h => b5_ext (fun s hs => by rw [h s hs, b5_0])⟩
theorem b5_e0 : ∀ c, c < 64 → (nI 0).toInt64 <<< ((nI c).toInt64 &&& 63) = 0 := by decide +kernel
/-- withBit -/
theorem b5_w {p : Int64} {c e : Nat} (hc : c < 64) (he : e ≤ 1) {s : Nat} (hs : s < 64) : bits5 ((p &&& (((1 : Int64) <<< ((nI c).toInt64 &&& 63)) ^^^ (-1 : Int64))) ||| ((nI e).toInt64 <<< ((nI c).toInt64 &&& 63))) s = if s = c then decide (e = 1) else bits5 p s := by
  have k : bits5 ((nI e).toInt64 <<< ((nI c).toInt64 &&& 63)) s = (decide (e = 1) && decide (s = c)) := by
    rcases (show e = 0 ∨ e = 1 by omega) with z | z <;> subst z
    · rw [b5_e0 c hc, b5_0]
      rfl
    · exact b5_1 hc
  rw [b5_or, b5_and, b5_not hs, b5_1 hc, k]
  by_cases z : s = c
  · rw [if_pos z, decide_eq_true z]
    cases bits5 p s <;> simp
  · rw [if_neg z, decide_eq_false z]
    cases bits5 p s <;> simp
/-- bitOf -/
theorem b5_o {p : Int64} {c : Nat} (hc : c < 64) : (((p.toUInt64 >>> ((nI c).toInt64.toUInt64 &&& Int64.toUInt64 63)).toInt64) &&& (1 : Int64)).toInt32 = nI (if bits5 p c = true then 1 else 0) := by
  have e : un (((p.toUInt64 >>> ((nI c).toInt64.toUInt64 &&& Int64.toUInt64 63)).toInt64) &&& (1 : Int64)) = un p / 2 ^ c % 2 := by
    rw [un_and, wb_cu c hc, un_shr c (show ((UInt64.ofNat c).toBitVec % 64).toNat = c from by
      show (UInt64.ofNat c).toNat % 64 = c
      rw [u64n hc]
      omega)]
    exact Nat.and_two_pow_sub_one_eq_mod _ 1
  have g : (un p / 2 ^ c % 2) = if bits5 p c = true then 1 else 0 := by
    show _ = if (un p).testBit c = true then 1 else 0
    by_cases z : (un p).testBit c = true
    · rw [if_pos z]
      exact (tb_i _ _).mpr z
    · rw [if_neg z]
      have := mt (tb_i (un p) c).mp z
      omega
  refine l2i ?_ ?_
  · rw [e, g]
    split <;> rfl
  · split <;> omega
/-- a row's SEATS and pillars -/
theorem rwS_b : ∀ C, C < 9 → ∀ r, r < 8 → ∀ s, s < 64 → (r + 1) * C ≤ 64 → bits5 ((((1 : Int64) <<< ((nI C).toInt64 &&& 63)) - (1 : Int64)) <<< ((nI r * nI C).toInt64 &&& 63)) s = (decide (r * C ≤ s) && decide (s < (r + 1) * C)) := by decide +kernel
end NB0
/-! the night, as the row of a house and its laws have it -/
section NT0
def gN (g : Nat → Int32) (k : Nat) : Nat := (g k).toInt.toNat
def seB (g : Nat → Int32) (s : Nat) : Bool := decide (s < 64) && decide (0 < (g (6 + s)).toInt)
def kdN (g : Nat → Int32) (s : Nat) : Nat := gN g (6 + s) - 1
def tlB (g : Nat → Int32) (l : Nat) : Bool := decide (0 < (g (86 + 42 * l)).toInt)
/-- u is in the area a of s -/
def arB (g : Nat → Int32) (a s u : Nat) : Bool := decide (u < gN g 0 * gN g 1) && (seB g u && (
  if a = 0 then decide (u ≠ s) && (decide (u / gN g 1 ≤ s / gN g 1 + 1) && (decide (s / gN g 1 ≤ u / gN g 1 + 1) && (decide (u % gN g 1 ≤ s % gN g 1 + 1) && decide (s % gN g 1 ≤ u % gN g 1 + 1))))
  else if a = 1 then decide (u / gN g 1 + 1 = s / gN g 1) && decide (u % gN g 1 = s % gN g 1)
  else if a = 2 then decide (u ≠ s) && (decide (u / gN g 1 = s / gN g 1) && (decide (u % gN g 1 ≤ s % gN g 1 + 1) && decide (s % gN g 1 ≤ u % gN g 1 + 1)))
  else if a = 3 then decide (u / gN g 1 = s / gN g 1 + 1) && decide (u % gN g 1 = s % gN g 1)
  else if a = 4 then (decide (1 ≤ s / gN g 1) && seB g (s - gN g 1)) && (decide (u / gN g 1 + 1 ≤ s / gN g 1) && (decide (s / gN g 1 ≤ u / gN g 1 + 3) && (decide (u % gN g 1 + u / gN g 1 ≤ s % gN g 1 + s / gN g 1) && decide (s % gN g 1 + u / gN g 1 ≤ u % gN g 1 + s / gN g 1))))
  else decide (u ≠ s)))
def cmpB (sg v w : Nat) : Bool := if sg = 0 then decide (v < w) else if sg = 1 then decide (v = w) else decide (w < v)
/-- what s perceives, N and hd being the LEVELS and HELD -/
def atB (g : Nat → Int32) (N hd : Nat → Nat) (s a lev sg num : Nat) : Bool := cmpB sg (if a = 6 then N s else if a = 7 then hd s else nb (fun u => arB g a s u && decide ((if lev = 1 then 1 else 2) ≤ N u)) 64) num
def lwB (g : Nat → Int32) (W : Nat → lV) (N hd : Nat → Nat) (l s : Nat) : Bool := tlB g l && W l (atB g N hd s)
/-- by the laws -/
def lwN (g : Nat → Int32) (W : Nat → lV) (N hd : Nat → Nat) (s : Nat) : Nat := if lwB g W N hd (2 * kdN g s) s = true then (if N s < 2 then N s + 1 else 2) else if lwB g W N hd (2 * kdN g s + 1) s = true then N s - 1 else N s
def thN (g : Nat → Int32) (W : Nat → lV) (P H L : Nat → Bool) (py st : Bool) (N hd : Nat → Nat) (s : Nat) : Nat := if seB g s = true then (if (L s || H s) = true then 0 else if (P s && py) = true then 2 else if st = true then 0 else lwN g W N hd s) else 0
/-- those of T come to the moment -/
def mvN (g : Nat → Int32) (W : Nat → lV) (P H L : Nat → Bool) (py st : Bool) (T : Nat → Bool) (N hd : Nat → Nat) (s : Nat) : Nat := if T s = true then thN g W P H L py st N hd s else N s
def rwB (g : Nat → Int32) (r s : Nat) : Bool := decide (r * gN g 1 ≤ s) && decide (s < (r + 1) * gN g 1)
/-- row by row -/
def rwN (g : Nat → Int32) (W : Nat → lV) (P H L : Nat → Bool) (py st : Bool) (N hd : Nat → Nat) : Nat → Nat → Nat
  | 0 => N
  | r + 1 => mvN g W P H L py st (rwB g r) (rwN g W P H L py st N hd r) hd
def nxN (g : Nat → Int32) (W : Nat → lV) (P H L : Nat → Bool) (py st : Bool) (N hd : Nat → Nat) : Nat → Nat := if gN g 5 = 0 then mvN g W P H L py st (seB g) N hd else rwN g W P H L py st N hd (gN g 0)
def hdN (g : Nat → Int32) (N N' hd : Nat → Nat) (s : Nat) : Nat := if seB g s = true then (if N' s = N s then (if hd s < 3 then hd s + 1 else 3) else 0) else 0
/-- how many CUES up to t -/
def cuN (g : Nat → Int32) (t : Nat) : Nat := nb (fun i => decide (gN g (591 + 3 * i) ≤ t)) (gN g 590)
/-- who is PAID (q = 0), who HISSES (q = 1) behind the first k CUES -/
def cuP (g : Nat → Int32) (q : Nat) (P : Nat → Bool) : Nat → Nat → Bool
  | 0 => P
  | k + 1 => fun s => if gN g (592 + 3 * k) = 3 then cuP g q P k s else if s = gN g (593 + 3 * k) then decide (gN g (592 + 3 * k) = q) else cuP g q P k s
def cuS (g : Nat → Int32) (t : Nat) : Bool := decide (0 < nb (fun i => decide (gN g (591 + 3 * i) = t) && decide (gN g (592 + 3 * i) = 3)) (gN g 590))
def lfB (g : Nat → Int32) (t s : Nat) : Bool := decide (s < gN g 0 * gN g 1) && (decide (1 ≤ gN g (78 + s / gN g 1)) && decide (gN g (78 + s / gN g 1) ≤ t + 1))
def n0N (g : Nat → Int32) (P H : Nat → Bool) (s : Nat) : Nat := if (seB g s && (cuP g 0 P (cuN g 0) s && (!cuP g 1 H (cuN g 0) s && !lfB g 0 s))) = true then 2 else 0
/-- a moment behind (N, hd) -/
def mtN (g : Nat → Int32) (W : Nat → lV) (P H : Nat → Bool) (t : Nat) (q : (Nat → Nat) × (Nat → Nat)) : (Nat → Nat) × (Nat → Nat) := (nxN g W (cuP g 0 P (cuN g t)) (cuP g 1 H (cuN g t)) (lfB g t) (decide (t ≤ gN g 4)) (cuS g t) q.1 q.2, hdN g q.1 (nxN g W (cuP g 0 P (cuN g t)) (cuP g 1 H (cuN g t)) (lfB g t) (decide (t ≤ gN g 4)) (cuS g t) q.1 q.2) q.2)
/-- the night: LEVELS and HELD at t -/
def nt (g : Nat → Int32) (W : Nat → lV) (P H : Nat → Bool) : Nat → (Nat → Nat) × (Nat → Nat)
  | 0 => (n0N g P H, fun _ => 0)
  | t + 1 => mtN g W P H (t + 1) (nt g W P H t)
variable {g : Nat → Int32} {W : Nat → lV} {P H L : Nat → Bool} {py st : Bool} {N hd : Nat → Nat}
theorem nb_all {p : Nat → Bool} : ∀ n, (∀ i, i < n → p i = true) → nb p n = n := by
  intro n
  induction n with
  | zero => intro _; rfl
  | succ n ih =>
    intro h
    rw [nb_s, ih (fun i hi => h i (by omega)), if_pos (h n (by omega))]
theorem nb_none {p : Nat → Bool} : ∀ n, (∀ i, i < n → p i = false) → nb p n = 0 := by
  intro n
  induction n with
  | zero => intro _; rfl
  | succ n ih =>
    intro h
    rw [nb_s, ih (fun i hi => h i (by omega)), h n (by omega)]
    rfl
theorem nb_pos {p : Nat → Bool} : ∀ n, 0 < nb p n ↔ ∃ i, i < n ∧ p i = true := by
  intro n
  induction n with
  | zero => exact ⟨fun h => absurd h (by show ¬ 0 < 0; omega), fun ⟨i, h, _⟩ => absurd h (by omega)⟩
  | succ n ih =>
    rw [nb_s]
    constructor
    · intro h
      by_cases z : p n = true
      · exact ⟨n, by omega, z⟩
      · rw [if_neg z] at h
        obtain ⟨i, a, b⟩ := ih.mp h
        exact ⟨i, by omega, b⟩
    · rintro ⟨i, a, b⟩
      by_cases z : i = n
      · rw [← z, if_pos b]
        omega
      · have := ih.mpr ⟨i, by omega, b⟩
        omega
/-- rising: a prefix -/
theorem nb_pre {p : Nat → Bool} : ∀ n, (∀ i j, i ≤ j → j < n → p j = true → p i = true) → ∀ i, i < n → (p i = true ↔ i < nb p n) := by
  intro n
  induction n with
  | zero => intro _ i hi; exact absurd hi (by omega)
  | succ n ih =>
    intro h i hi
    have ih := ih (fun i j a b c => h i j a (by omega) c)
    rw [nb_s]
    by_cases z : p n = true
    · have e : nb p n = n := nb_all n (fun i hi => h i n (by omega) (by omega) z)
      rw [if_pos z, e]
      exact iff_of_true (h i n (by omega) (by omega) z) (by omega)
    · rw [if_neg z]
      by_cases y : i = n
      · rw [y]
        have := nb_le (p := p) n
        exact iff_of_false z (by omega)
      · exact ih i (by omega)
/-- nothing happens from t on -/
def evB (g : Nat → Int32) (t : Nat) : Prop := (∀ i, i < gN g 590 → gN g (591 + 3 * i) < t) ∧ (∀ r, r < gN g 0 → gN g (78 + r) ≤ t) ∧ (gN g 4 < 600 → gN g 4 < t)
theorem ev_cn {t u : Nat} (h : evB g t) (hu : t ≤ u) : cuN g u = gN g 590 := nb_all _ (fun i hi => decide_eq_true (by have := h.1 i hi; omega))
theorem ev_cs {t u : Nat} (h : evB g t) (hu : t ≤ u) : cuS g u = false := by
  unfold cuS
  rw [nb_none _ (fun i hi => ?_)]
  · rfl
  · have := h.1 i hi
    rw [decide_eq_false (by omega)]
    rfl
theorem ev_lf {t u : Nat} (h : evB g t) (hu : t ≤ u) : lfB g u = lfB g t := by
  funext s
  unfold lfB
  by_cases z : s < gN g 0 * gN g 1
  · have hr : s / gN g 1 < gN g 0 := Nat.div_lt_of_lt_mul (by rw [Nat.mul_comm]; exact z)
    have := h.2.1 _ hr
    rw [decide_eq_true z, decide_eq_true (show gN g (78 + s / gN g 1) ≤ u + 1 by omega), decide_eq_true (show gN g (78 + s / gN g 1) ≤ t + 1 by omega)]
  · rw [decide_eq_false z]
    rfl
theorem ev_st {t u : Nat} {q : (Nat → Nat) × (Nat → Nat)} (h : evB g t) (hu : t ≤ u) (h6 : u ≤ 600) (h4 : gN g 4 ≤ 600) : mtN g W P H u q = mtN g W P H t q := by
  have e4 : decide (u ≤ gN g 4) = decide (t ≤ gN g 4) := by
    by_cases z : gN g 4 < 600
    · have := h.2.2 z
      rw [decide_eq_false (by omega), decide_eq_false (by omega)]
    · rw [decide_eq_true (by omega), decide_eq_true (by omega)]
  unfold mtN
  rw [ev_cn h hu, ev_cn h (Nat.le_refl t), ev_cs h hu, ev_cs h (Nat.le_refl t), ev_lf h hu, e4]
/-- a moment like the last, and nothing to come: it stays so -/
theorem nt_calm {t : Nat} (h : evB g (t + 1)) (h4 : gN g 4 ≤ 600) (e : nt g W P H (t + 1) = nt g W P H t) : ∀ u, t ≤ u → u ≤ 600 → nt g W P H u = nt g W P H t := by
  intro u hu
  induction u with
  | zero =>
    intro _
    rw [show t = 0 by omega]
  | succ u ih =>
    intro h6
    by_cases z : t = u + 1
    · rw [z]
    · have e1 := ih (by omega) (by omega)
      show mtN g W P H (u + 1) (nt g W P H u) = _
      rw [e1, ev_st h (by omega) h6 h4]
      exact e
theorem seB_l {s : Nat} (h : seB g s = true) : s < 64 := by
  unfold seB at h
  rw [Bool.and_eq_true] at h
  exact of_decide_eq_true h.1
theorem thN_f {s : Nat} (h : seB g s = false) : thN g W P H L py st N hd s = 0 := by
  unfold thN
  rw [h]
  rfl
theorem lwN_l {s : Nat} (h : N s ≤ 2) : lwN g W N hd s ≤ 2 := by
  unfold lwN
  split
  · split <;> omega
  · split <;> omega
theorem thN_l {s : Nat} (h : N s ≤ 2) : thN g W P H L py st N hd s ≤ 2 := by
  unfold thN
  have := lwN_l (g := g) (W := W) (hd := hd) h
  split
  · split
    · omega
    · split
      · omega
      · split
        · omega
        · exact this
  · omega
/-- LEVELS 0 to 2, at SEATS alone -/
def okN (g : Nat → Int32) (N : Nat → Nat) : Prop := ∀ s, N s ≤ 2 ∧ (seB g s = false → N s = 0)
def okH (g : Nat → Int32) (hd : Nat → Nat) : Prop := ∀ s, hd s ≤ 3 ∧ (seB g s = false → hd s = 0)
theorem mvN_o {T : Nat → Bool} (h : okN g N) : okN g (mvN g W P H L py st T N hd) := by
  intro s
  unfold mvN
  split
  · exact ⟨thN_l (h s).1, fun z => thN_f z⟩
  · exact h s
theorem rwN_o (h : okN g N) : ∀ r, okN g (rwN g W P H L py st N hd r) := by
  intro r
  induction r with
  | zero => exact h
  | succ r ih => exact mvN_o ih
theorem nxN_o (h : okN g N) : okN g (nxN g W P H L py st N hd) := by
  unfold nxN
  split
  · exact mvN_o h
  · exact rwN_o h _
theorem hdN_o {N' : Nat → Nat} : okH g (hdN g N N' hd) := by
  intro s
  unfold hdN
  constructor
  · split
    · split
      · split <;> omega
      · omega
    · omega
  · intro z
    rw [z]
    rfl
theorem nt_o : ∀ t, okN g (nt g W P H t).1 ∧ okH g (nt g W P H t).2 := by
  intro t
  induction t with
  | zero =>
    refine ⟨fun s => ?_, fun s => ⟨Nat.zero_le _, fun _ => rfl⟩⟩
    show n0N g P H s ≤ 2 ∧ (_ → n0N g P H s = 0)
    unfold n0N
    constructor
    · split <;> omega
    · intro z
      rw [z]
      rfl
  | succ t ih => exact ⟨nxN_o ih.1, hdN_o⟩
end NT0
end
