/-! how many bits are set: both ways of counting them -/
section PQ0
/-- how many below n -/
def nb (p : Nat → Bool) : Nat → Nat
  | 0 => 0
  | n + 1 => nb p n + (if p n = true then 1 else 0)
theorem nb_s (p : Nat → Bool) (n : Nat) : nb p (n + 1) = nb p n + (if p n = true then 1 else 0) := rfl
theorem nb_le {p : Nat → Bool} : ∀ n, nb p n ≤ n := by
  intro n
  induction n with
  | zero => exact Nat.le_refl _
  | succ n ih =>
    rw [nb_s]
    split <;> omega
theorem nb_cg {p q : Nat → Bool} : ∀ n, (∀ i, i < n → q i = p i) → nb q n = nb p n := by
  intro n
  induction n with
  | zero => intro _; rfl
  | succ n ih =>
    intro h
    rw [nb_s, nb_s, ih (fun i hi => h i (by omega)), h n (by omega)]
theorem nb_ad {p : Nat → Bool} {a : Nat} : ∀ k, nb p (a + k) = nb p a + nb (fun i => p (a + i)) k := by
  intro k
  induction k with
  | zero => rfl
  | succ k ih =>
    show nb p (a + k) + _ = nb p a + (nb (fun i => p (a + i)) k + _)
    rw [ih, Nat.add_assoc]
    rfl
def nbt (v n : Nat) : Nat := nb (fun i => v.testBit i) n
theorem nbt_8 (v k : Nat) : nbt v (8 + k) = nbt (v % 256) 8 + nbt (v / 256) k := by
  unfold nbt
  rw [nb_ad]
  congr 1
  · refine nb_cg 8 (fun i hi => ?_)
    show v.testBit i = (v % 2 ^ 8).testBit i
    rw [Nat.testBit_mod_two_pow, decide_eq_true hi]
    rfl
  · refine nb_cg k (fun i hi => ?_)
    show v.testBit (8 + i) = (v / 2 ^ 8).testBit i
    rw [Nat.testBit_div_two_pow, Nat.add_comm]
/-- a byte's mask, n times -/
def mk8 (m : Nat) : Nat → Nat
  | 0 => 0
  | n + 1 => m + 256 * mk8 m n
theorem an8 {v m : Nat} (n : Nat) (hm : m < 256) : v &&& mk8 m (n + 1) = (v % 256 &&& m) + 256 * (v / 256 &&& mk8 m n) := by
  have e1 : (v &&& mk8 m (n + 1)) % 2 ^ 8 = (v % 2 ^ 8) &&& (mk8 m (n + 1) % 2 ^ 8) := Nat.and_mod_two_pow
  have e2 : (v &&& mk8 m (n + 1)) / 2 ^ 8 = v / 2 ^ 8 &&& mk8 m (n + 1) / 2 ^ 8 := Nat.and_div_two_pow
  have e3 : mk8 m (n + 1) % 2 ^ 8 = m := by
    show (m + 256 * mk8 m n) % 256 = m
    omega
  have e4 : mk8 m (n + 1) / 2 ^ 8 = mk8 m n := by
    show (m + 256 * mk8 m n) / 256 = _
    omega
  rw [e3] at e1
  rw [e4] at e2
  have e5 := Nat.div_add_mod (v &&& mk8 m (n + 1)) (2 ^ 8)
  rw [e1, e2] at e5
  have e5 : 256 * (v / 256 &&& mk8 m n) + (v % 256 &&& m) = v &&& mk8 m (n + 1) := e5
  omega
/-- a mask below 2 ^ j takes what lies below alone -/
theorem an_j {v w m : Nat} (j : Nat) (hm : m < 2 ^ j) (h : v % 2 ^ j = w % 2 ^ j) : v &&& m = w &&& m := by
  have e1 : ∀ u : Nat, u &&& m = (u % 2 ^ j) &&& m := by
    intro u
    have hl : u &&& m < 2 ^ j := Nat.lt_of_le_of_lt Nat.and_le_right hm
    have e : (u &&& m) % 2 ^ j = (u % 2 ^ j) &&& (m % 2 ^ j) := Nat.and_mod_two_pow
    rw [Nat.mod_eq_of_lt hl, Nat.mod_eq_of_lt hm] at e
    exact e
  rw [e1 v, e1 w, h]
def f1 (n v : Nat) : Nat := v - (v / 2 &&& mk8 85 n)
def f2 (n v : Nat) : Nat := (f1 n v &&& mk8 51 n) + (f1 n v / 4 &&& mk8 51 n)
def f3 (n v : Nat) : Nat := (f2 n v + f2 n v / 16) &&& mk8 15 n
theorem f1_s {n lo hi : Nat} (h : lo < 256) : f1 (n + 1) (lo + 256 * hi) = f1 1 lo + 256 * f1 n hi := by
  unfold f1
  rw [an8 n (by omega), an8 0 (by omega)]
  have e1 : (lo + 256 * hi) / 2 % 256 &&& 85 = lo / 2 % 256 &&& 85 := an_j 7 (by omega) (by omega)
  have e2 : (lo + 256 * hi) / 2 / 256 = hi / 2 := by omega
  rw [e1, e2]
  have b1 : lo / 2 % 256 &&& 85 ≤ lo / 2 % 256 := Nat.and_le_left
  have b2 : hi / 2 &&& mk8 85 n ≤ hi / 2 := Nat.and_le_left
  show lo + 256 * hi - ((lo / 2 % 256 &&& 85) + 256 * (hi / 2 &&& mk8 85 n)) = lo - ((lo / 2 % 256 &&& 85) + 256 * (lo / 2 / 256 &&& 0)) + _
  rw [Nat.and_zero]
  omega
theorem f1_l {lo : Nat} (h : lo < 256) : f1 1 lo < 256 := by
  unfold f1
  omega
theorem f2_s {n lo hi : Nat} (h : lo < 256) : f2 (n + 1) (lo + 256 * hi) = f2 1 lo + 256 * f2 n hi := by
  unfold f2
  rw [f1_s h]
  have hl := f1_l h
  generalize f1 1 lo = a at *
  generalize f1 n hi = b
  rw [an8 n (by omega), an8 n (by omega), an8 0 (by omega), an8 0 (by omega)]
  have e1 : (a + 256 * b) / 4 % 256 &&& 51 = a / 4 % 256 &&& 51 := an_j 6 (by omega) (by omega)
  have e2 : (a + 256 * b) / 4 / 256 = b / 4 := by omega
  have e3 : (a + 256 * b) % 256 = a % 256 := by omega
  have e4 : (a + 256 * b) / 256 = b := by omega
  rw [e1, e2, e3, e4]
  show (a % 256 &&& 51) + 256 * (b &&& mk8 51 n) + ((a / 4 % 256 &&& 51) + 256 * (b / 4 &&& mk8 51 n)) = (a % 256 &&& 51) + 256 * (a / 256 &&& 0) + ((a / 4 % 256 &&& 51) + 256 * (a / 4 / 256 &&& 0)) + _
  rw [Nat.and_zero, Nat.and_zero]
  omega
theorem f2_1 : ∀ lo, lo < 256 → f2 1 lo % 16 ≤ 4 ∧ f2 1 lo / 16 ≤ 4 := by decide +kernel
theorem f2_n {n hi : Nat} : f2 n hi % 16 ≤ 4 := by
  cases n with
  | zero =>
    show ((f1 0 hi &&& 0) + (f1 0 hi / 4 &&& 0)) % 16 ≤ 4
    rw [Nat.and_zero, Nat.and_zero]
    omega
  | succ n =>
    have e := Nat.mod_add_div hi 256
    rw [← e, f2_s (Nat.mod_lt _ (by omega))]
    have := (f2_1 (hi % 256) (Nat.mod_lt _ (by omega))).1
    omega
theorem an15 (v : Nat) : v &&& 15 = v % 16 := Nat.and_two_pow_sub_one_eq_mod v 4
theorem f3_s {n lo hi : Nat} (h : lo < 256) : f3 (n + 1) (lo + 256 * hi) = f3 1 lo + 256 * f3 n hi := by
  unfold f3
  rw [f2_s h]
  have hl := f2_1 lo h
  have hn := f2_n (n := n) (hi := hi)
  generalize f2 1 lo = a at *
  generalize f2 n hi = b at *
  rw [an8 n (by omega), an8 0 (by omega), an15, an15]
  have e2 : (a + 256 * b + (a + 256 * b) / 16) / 256 = b + b / 16 := by omega
  have e3 : (a + 256 * b + (a + 256 * b) / 16) % 256 % 16 = (a + a / 16) % 256 % 16 := by omega
  rw [e2, e3]
  show _ = (a + a / 16) % 256 % 16 + 256 * ((a + a / 16) / 256 &&& 0) + _
  rw [Nat.and_zero]
  omega
theorem f3_1 : ∀ lo, lo < 256 → f3 1 lo = nbt lo 8 := by decide +kernel
/-- the bytes' counts -/
def bs : Nat → Nat → Nat
  | 0, _ => 0
  | n + 1, v => nbt (v % 256) 8 + 256 * bs n (v / 256)
theorem f3_bs : ∀ n v, f3 n v = bs n v := by
  intro n
  induction n with
  | zero =>
    intro v
    exact Nat.and_zero _
  | succ n ih =>
    intro v
    show _ = nbt (v % 256) 8 + 256 * bs n (v / 256)
    have e := Nat.mod_add_div v 256
    have g := f3_s (n := n) (lo := v % 256) (hi := v / 256) (Nat.mod_lt _ (by omega))
    rw [e] at g
    rw [g, f3_1 _ (Nat.mod_lt _ (by omega)), ih]
theorem nbt_l {v n : Nat} : nbt v n ≤ n := nb_le n
/-- eight bytes: their counts, apart and together -/
theorem bs_8 (v : Nat) : ∃ a0 a1 a2 a3 a4 a5 a6 a7, a0 ≤ 8 ∧ a1 ≤ 8 ∧ a2 ≤ 8 ∧ a3 ≤ 8 ∧ a4 ≤ 8 ∧ a5 ≤ 8 ∧ a6 ≤ 8 ∧ a7 ≤ 8 ∧ bs 8 v = a0 + 256 * (a1 + 256 * (a2 + 256 * (a3 + 256 * (a4 + 256 * (a5 + 256 * (a6 + 256 * a7)))))) ∧ nbt v 64 = a0 + a1 + a2 + a3 + a4 + a5 + a6 + a7 := by
  refine ⟨_, _, _, _, _, _, _, _, nbt_l (v := v % 256), nbt_l (v := v / 256 % 256), nbt_l (v := v / 256 / 256 % 256), nbt_l (v := v / 256 / 256 / 256 % 256), nbt_l (v := v / 256 / 256 / 256 / 256 % 256), nbt_l (v := v / 256 / 256 / 256 / 256 / 256 % 256), nbt_l (v := v / 256 / 256 / 256 / 256 / 256 / 256 % 256), nbt_l (v := v / 256 / 256 / 256 / 256 / 256 / 256 / 256 % 256), rfl, ?_⟩
  have e : nbt v 64 = nbt v (8 + (8 + (8 + (8 + (8 + (8 + (8 + (8 + 0)))))))) := rfl
  rw [e, nbt_8, nbt_8, nbt_8, nbt_8, nbt_8, nbt_8, nbt_8, nbt_8]
  show _ + (_ + (_ + (_ + (_ + (_ + (_ + (_ + 0))))))) = _
  omega
/-! the words -/
def un (v : Int64) : Nat := v.toBitVec.toNat
theorem un_l (v : Int64) : un v < 2 ^ 64 := v.toBitVec.isLt
theorem un_sub {a b : Int64} (h : un b ≤ un a) : un (a - b) = un a - un b := by
  unfold un at *
  rw [Int64.toBitVec_sub, BitVec.toNat_sub_of_le h]
theorem un_add {a b : Int64} (h : un a + un b < 2 ^ 64) : un (a + b) = un a + un b := by
  unfold un at *
  rw [Int64.toBitVec_add, BitVec.toNat_add, Nat.mod_eq_of_lt h]
theorem un_and {a b : Int64} : un (a &&& b) = un a &&& un b := by
  unfold un
  rw [Int64.toBitVec_and, BitVec.toNat_and]
theorem un_mul {a b : Int64} : un (a * b) = un a * un b % 2 ^ 64 := by
  unfold un
  rw [Int64.toBitVec_mul, BitVec.toNat_mul]
theorem un_shr {a : Int64} {u : UInt64} (k : Nat) (hu : (u.toBitVec % 64).toNat = k) : un ((a.toUInt64 >>> u).toInt64) = un a / 2 ^ k := by
  show (a.toBitVec >>> (u.toBitVec % 64)).toNat = _
  rw [BitVec.ushiftRight_eq', BitVec.toNat_ushiftRight, Nat.shiftRight_eq_div_pow, hu]
  rfl
def shu (a : Int64) (k : Int32) : Int64 := (a.toUInt64 >>> (k.toInt64.toUInt64 &&& Int64.toUInt64 63)).toInt64
def q1 (p : Int64) : Int64 := p - (shu p (1 : Int32) &&& (6148914691236517205 : Int64))
def q2 (p : Int64) : Int64 := (p &&& (3689348814741910323 : Int64)) + (shu p (2 : Int32) &&& (3689348814741910323 : Int64))
def q3 (p : Int64) : Int64 := (p + shu p (4 : Int32)) &&& (1085102592571150095 : Int64)
theorem m85 : mk8 85 8 = 6148914691236517205 := by decide
theorem m51 : mk8 51 8 = 3689348814741910323 := by decide
theorem m15 : mk8 15 8 = 1085102592571150095 := by decide
theorem q1_u (p : Int64) : un (q1 p) = f1 8 (un p) := by
  have e : un (shu p (1 : Int32) &&& (6148914691236517205 : Int64)) = un p / 2 &&& mk8 85 8 := by
    rw [un_and, m85]
    congr 1
    try exact un_shr 1 (by decide)
  have b : un p / 2 &&& mk8 85 8 ≤ un p / 2 := Nat.and_le_left
  unfold q1 f1
  rw [un_sub (by rw [e]; omega), e]
theorem q2_u (p : Int64) : un (q2 p) = (un p &&& mk8 51 8) + (un p / 4 &&& mk8 51 8) := by
  have e1 : un (p &&& (3689348814741910323 : Int64)) = un p &&& mk8 51 8 := by
    rw [un_and, m51]
    rfl
  have e2 : un (shu p (2 : Int32) &&& (3689348814741910323 : Int64)) = un p / 4 &&& mk8 51 8 := by
    rw [un_and, m51]
    congr 1
    exact un_shr 2 (by decide)
  have b1 : un p &&& mk8 51 8 ≤ mk8 51 8 := Nat.and_le_right
  have b2 : un p / 4 &&& mk8 51 8 ≤ mk8 51 8 := Nat.and_le_right
  have b3 := m51
  unfold q2
  rw [un_add (by rw [e1, e2]; omega), e1, e2]
theorem f2_8 (v : Nat) : f2 8 v ≤ 7378697629483820646 := by
  unfold f2
  have b1 : f1 8 v &&& mk8 51 8 ≤ mk8 51 8 := Nat.and_le_right
  have b2 : f1 8 v / 4 &&& mk8 51 8 ≤ mk8 51 8 := Nat.and_le_right
  have b3 := m51
  omega
theorem q3_u (p : Int64) : un (q3 (q2 (q1 p))) = bs 8 (un p) := by
  have e1 : un (q2 (q1 p)) = f2 8 (un p) := by
    rw [q2_u, q1_u]
    rfl
  have e2 : un (shu (q2 (q1 p)) (4 : Int32)) = f2 8 (un p) / 16 := by
    rw [← e1]
    exact un_shr 4 (by decide)
  have b := f2_8 (un p)
  rw [← f3_bs]
  unfold q3 f3
  rw [un_and, un_add (by rw [e1, e2]; omega), e1, e2, m15]
  rfl
def q4 (p : Int64) (k : Int32) : Int64 := p + shu p k
def bits5 (p : Int64) (k : Nat) : Bool := p.toBitVec.getLsbD k
/-- how many of the 64 -/
def pc (p : Int64) : Nat := nb (bits5 p) 64
theorem pc_n (p : Int64) : nbt (un p) 64 = pc p := rfl
theorem pc_l (p : Int64) : pc p ≤ 64 := nb_le 64
theorem l2i {v : Int64} {n : Nat} (h : un v % 2 ^ 32 = n) (hn : n < 2 ^ 31) : v.toInt32 = nI n := by
  refine nI_bv ?_
  rw [Int64.toBitVec_toInt32, BitVec.signExtend_eq_setWidth_of_le _ (by decide), BitVec.toNat_setWidth]
  exact h
theorem e154 (p : Int64) : (shu (q3 (q2 (q1 p)) * (72340172838076673 : Int64)) (56 : Int32)).toInt32 = nI (pc p) := by
  have hp := pc_l p
  refine l2i ?_ (by omega)
  have e : un (shu (q3 (q2 (q1 p)) * (72340172838076673 : Int64)) (56 : Int32)) = bs 8 (un p) * 72340172838076673 % 2 ^ 64 / 2 ^ 56 := by
    rw [← q3_u]
    exact (un_shr 56 (by decide)).trans (by rw [un_mul]; rfl)
  rw [e, ← pc_n]
  obtain ⟨a0, a1, a2, a3, a4, a5, a6, a7, h0, h1, h2, h3, h4, h5, h6, h7, e1, e2⟩ := bs_8 (un p)
  have e3 : (a0 + 256 * (a1 + 256 * (a2 + 256 * (a3 + 256 * (a4 + 256 * (a5 + 256 * (a6 + 256 * a7))))))) * 72340172838076673 = (a0 + 256 * ((a0 + a1) + 256 * ((a0 + a1 + a2) + 256 * ((a0 + a1 + a2 + a3) + 256 * ((a0 + a1 + a2 + a3 + a4) + 256 * ((a0 + a1 + a2 + a3 + a4 + a5) + 256 * ((a0 + a1 + a2 + a3 + a4 + a5 + a6) + 256 * (a0 + a1 + a2 + a3 + a4 + a5 + a6 + a7)))))))) + 2 ^ 64 * ((a1 + a2 + a3 + a4 + a5 + a6 + a7) + 256 * ((a2 + a3 + a4 + a5 + a6 + a7) + 256 * ((a3 + a4 + a5 + a6 + a7) + 256 * ((a4 + a5 + a6 + a7) + 256 * ((a5 + a6 + a7) + 256 * ((a6 + a7) + 256 * a7)))))) := by omega
  have e4 : a0 + 256 * ((a0 + a1) + 256 * ((a0 + a1 + a2) + 256 * ((a0 + a1 + a2 + a3) + 256 * ((a0 + a1 + a2 + a3 + a4) + 256 * ((a0 + a1 + a2 + a3 + a4 + a5) + 256 * (a0 + a1 + a2 + a3 + a4 + a5 + a6)))))) < 2 ^ 56 := by omega
  have e5 : (a0 + 256 * ((a0 + a1) + 256 * ((a0 + a1 + a2) + 256 * ((a0 + a1 + a2 + a3) + 256 * ((a0 + a1 + a2 + a3 + a4) + 256 * ((a0 + a1 + a2 + a3 + a4 + a5) + 256 * ((a0 + a1 + a2 + a3 + a4 + a5 + a6) + 256 * (a0 + a1 + a2 + a3 + a4 + a5 + a6 + a7)))))))) = (a0 + 256 * ((a0 + a1) + 256 * ((a0 + a1 + a2) + 256 * ((a0 + a1 + a2 + a3) + 256 * ((a0 + a1 + a2 + a3 + a4) + 256 * ((a0 + a1 + a2 + a3 + a4 + a5) + 256 * (a0 + a1 + a2 + a3 + a4 + a5 + a6))))))) + 2 ^ 56 * (a0 + a1 + a2 + a3 + a4 + a5 + a6 + a7) := by omega
  rw [e1, e2, e3, Nat.add_mul_mod_self_left, e5]
  generalize hx : a0 + 256 * ((a0 + a1) + 256 * ((a0 + a1 + a2) + 256 * ((a0 + a1 + a2 + a3) + 256 * ((a0 + a1 + a2 + a3 + a4) + 256 * ((a0 + a1 + a2 + a3 + a4 + a5) + 256 * (a0 + a1 + a2 + a3 + a4 + a5 + a6)))))) = lo at e4
  clear hx e3 e5 e1 e2 e
  omega
theorem e250 (p : Int64) : (q4 (q4 (q4 (q3 (q2 (q1 p))) (8 : Int32)) (16 : Int32)) (32 : Int32)).toInt32 &&& (127 : Int32) = nI (pc p) := by
  have hp := pc_l p
  obtain ⟨a0, a1, a2, a3, a4, a5, a6, a7, h0, h1, h2, h3, h4, h5, h6, h7, e1, e2⟩ := bs_8 (un p)
  have u0 : un (q3 (q2 (q1 p))) = a0 + 256 * (a1 + 256 * (a2 + 256 * (a3 + 256 * (a4 + 256 * (a5 + 256 * (a6 + 256 * a7)))))) := (q3_u p).trans e1
  generalize q3 (q2 (q1 p)) = v at *
  have s1 : un (shu v (8 : Int32)) = a1 + 256 * (a2 + 256 * (a3 + 256 * (a4 + 256 * (a5 + 256 * (a6 + 256 * a7))))) := by
    refine (un_shr 8 (by decide)).trans ?_
    rw [u0]
    omega
  have u1 : un (q4 v (8 : Int32)) = (a0 + a1) + 256 * ((a1 + a2) + 256 * ((a2 + a3) + 256 * ((a3 + a4) + 256 * ((a4 + a5) + 256 * ((a5 + a6) + 256 * ((a6 + a7) + 256 * a7)))))) := by
    unfold q4
    rw [un_add (by rw [u0, s1]; omega), u0, s1]
    omega
  generalize q4 v (8 : Int32) = w at *
  have s2 : un (shu w (16 : Int32)) = (a2 + a3) + 256 * ((a3 + a4) + 256 * ((a4 + a5) + 256 * ((a5 + a6) + 256 * ((a6 + a7) + 256 * a7)))) := by
    refine (un_shr 16 (by decide)).trans ?_
    rw [u1]
    omega
  have u2 : ∃ r1 r2 r3, r1 < 256 ∧ r2 < 256 ∧ r3 < 256 ∧ un (q4 w (16 : Int32)) = (a0 + a1 + a2 + a3) + 256 * (r1 + 256 * (r2 + 256 * (r3 + 256 * ((a4 + a5 + a6 + a7) + 256 * ((a5 + a6 + a7) + 256 * ((a6 + a7) + 256 * a7)))))) := by
    refine ⟨a1 + a2 + a3 + a4, a2 + a3 + a4 + a5, a3 + a4 + a5 + a6, by omega, by omega, by omega, ?_⟩
    unfold q4
    rw [un_add (by rw [u1, s2]; omega), u1, s2]
    omega
  generalize q4 w (16 : Int32) = y at *
  obtain ⟨r1, r2, r3, g1, g2, g3, u2⟩ := u2
  have s3 : un (shu y (32 : Int32)) = (a4 + a5 + a6 + a7) + 256 * ((a5 + a6 + a7) + 256 * ((a6 + a7) + 256 * a7)) := by
    refine (un_shr 32 (by decide)).trans ?_
    rw [u2]
    omega
  have u3 : un (q4 y (32 : Int32)) % 128 = pc p := by
    unfold q4
    rw [un_add (by rw [u2, s3]; omega), u2, s3, ← pc_n, e2]
    omega
  have t : (q4 y (32 : Int32)).toInt32.toBitVec.toNat = un (q4 y (32 : Int32)) % 2 ^ 32 := by
    rw [Int64.toBitVec_toInt32, BitVec.signExtend_eq_setWidth_of_le _ (by decide), BitVec.toNat_setWidth]
    rfl
  refine nI_bv ?_
  rw [Int32.toBitVec_and, BitVec.toNat_and, t]
  have a := Nat.and_two_pow_sub_one_eq_mod (un (q4 y (32 : Int32)) % 2 ^ 32) 7
  refine Eq.trans a ?_
  omega
end PQ0
section PQ1
variable {S : Nat × (Nat → Int32)} {d : Nat} {x : mX} {I : rI0} {J : rJ0}
/-- the class's count -/
theorem bcX {p : Int64} {Q : Int32 → rI0 → rJ0 → Prop} (k : Q (nI (pc p)) I J) : wcI S d 250 [.long p] x I J Q := by
  have h : Q ((q4 (q4 (q4 (q3 (q2 (q1 p))) (8 : Int32)) (16 : Int32)) (32 : Int32)).toInt32 &&& (127 : Int32)) I J := by
    rw [e250]
    exact k
  exact c250 h
/-- the reference's -/
theorem rbX {p : Int64} {Q : Int32 → rI0 → rJ0 → Prop} (k : Q (nI (pc p)) I J) : wcI S d 154 [.long p] x I J Q := by
  have h : Q ((shu (q3 (q2 (q1 p)) * (72340172838076673 : Int64)) (56 : Int32)).toInt32) I J := by
    rw [e154]
    exact k
  exact c154 h
end PQ1
