/-! the house that is read: the class's draft against the reference's row -/
section PE0
variable {S : Nat × (Nat → Int32)} {d : Nat} {x : mX} {I : rI0} {J : rJ0} {b : Nat → Int32} {n lim p : Nat}
theorem sh_r : ∀ r, r < 8 → (((nI r &&& 31).toBitVec.smod 32).toNat = r ∧ (((nI r).toUInt32 &&& Int32.toUInt32 31).toBitVec % 32).toNat = r) := by decide
theorem nI01 {v : Nat} (h : v ≤ 1) : (nI v = 1 ↔ v = 1) ∧ (nI v = 0 ↔ v = 0) := by
  rcases (show v = 0 ∨ v = 1 by omega) with z | z <;> subst z <;> decide
theorem tb_i (m r : Nat) : m / 2 ^ r % 2 = 1 ↔ m.testBit r = true := by
  rw [Nat.testBit_eq_decide_div_mod_eq, decide_eq_true_iff]
theorem hbt_n {m r : Nat} (hm : m < 256) (hr : r < 8) : ((nI m >>> (nI r &&& 31)) &&& 1) = 1 ↔ m.testBit r = true := by
  rw [pk_shrN (by omega) _ r (sh_r r hr).1, pk_andN (by have := Nat.div_le_self m (2 ^ r); omega) 1 (by decide), ← tb_i]
  exact (nI01 (by omega)).1
theorem hcu_n {m r : Nat} (hm : m < 256) (hr : r < 8) : ((((nI m).toUInt32 >>> ((nI r).toUInt32 &&& Int32.toUInt32 31)).toInt32) &&& 1) = 0 ↔ ¬ m.testBit r = true := by
  rw [pk_ushrN (by omega) _ r (sh_r r hr).2, pk_andN (by have := Nat.div_le_self m (2 ^ r); omega) 1 (by decide), ← tb_i]
  have := (nI01 (v := m / 2 ^ r % 2 ^ 1) (by omega)).2
  rw [this]
  omega
theorem or_n {m r : Nat} (hm : m < 256) (hr : r < 8) : nI m ||| ((1 : Int32) <<< (nI r &&& 31)) = nI (m ||| 2 ^ r) ∧ m ||| 2 ^ r < 256 := by
  have p8 : 2 ^ r < 2 ^ 8 := Nat.pow_lt_pow_right (by decide) hr
  have l : m ||| 2 ^ r < 2 ^ 8 := Nat.or_lt_two_pow (by omega) p8
  refine ⟨?_, l⟩
  have e : (1 : Int32) <<< (nI r &&& 31) = nI (1 * 2 ^ r) := pk_shlN (n := 1) _ r (sh_r r hr).1 (by omega)
  rw [e, Nat.one_mul, ← Int32.toBitVec_inj, Int32.toBitVec_or]
  apply BitVec.eq_of_toNat_eq
  rw [BitVec.toNat_or, pk_tn (by omega), pk_tn (by omega), pk_tn (by omega)]
theorem or_t {m r q : Nat} : (m ||| 2 ^ r).testBit q = true ↔ m.testBit q = true ∨ q = r := by
  rw [Nat.testBit_or, Nat.testBit_two_pow, Bool.or_eq_true, decide_eq_true_iff]
  constructor
  · rintro (h | h)
    · exact Or.inl h
    · exact Or.inr h.symm
  · rintro (h | h)
    · exact Or.inl h
    · exact Or.inr h.symm
def kc (K : Nat → Int32) : Nat → Nat
  | 0 => 0
  | k + 1 => kc K k + (if K k = -1 then 0 else 1)
theorem kc_le {K : Nat → Int32} : ∀ k, kc K k ≤ k := by
  intro k
  induction k with
  | zero => exact Nat.le_refl _
  | succ k ih =>
    show kc K k + (if K k = -1 then 0 else 1) ≤ k + 1
    split <;> omega
theorem kc_cg {K L : Nat → Int32} : ∀ k, (∀ i, i < k → L i = K i) → kc L k = kc K k := by
  intro k
  induction k with
  | zero => intro _; rfl
  | succ k ih =>
    intro h
    show kc L k + (if L k = -1 then 0 else 1) = kc K k + (if K k = -1 then 0 else 1)
    rw [ih (fun i hi => h i (by omega)), h k (by omega)]
/-- rows and SEATS -/
def hA (R C : Nat) (I I' : rI0) : Prop := R ≤ 8 ∧ C ≤ 8 ∧ (R = 0 → C = 0) ∧ (¬ R = 0 → 1 ≤ C) ∧ I 16 0 = nI R ∧ I' 46 0 = nI R ∧ I 16 1 = nI C ∧ I' 46 1 = nI C ∧ (∀ s, s < R * C → (I 17 s = -1 ∨ RB (I 17 s) 5) ∧ I' 46 (6 + s) = I 17 s + 1) ∧ (∀ s, R * C ≤ s → s < 64 → I' 46 (6 + s) = 0) ∧ I' 46 2 = nI (kc (I 17) (R * C))
/-- prices -/
def hP (I I' : rI0) : Prop := (∃ m, m < 256 ∧ I 29 3 = nI m ∧ I' 43 20 = nI m) ∧ ∀ r, r < 8 → RB (I 19 r) 999 ∧ I' 46 (70 + r) = I 19 r
/-- trains -/
def hL (I I' : rI0) : Prop := ∃ m, m < 256 ∧ I' 43 21 = nI m ∧ ∀ r, r < 8 → (I 20 r = -1 ∨ RB (I 20 r) 600) ∧ I' 46 (78 + r) = I 20 r + 1 ∧ (m.testBit r = true ↔ ¬ I 20 r = -1)
/-- what may be told once -/
def hO (I I' : rI0) : Prop := ∃ c0 c1 c2, c0 ≤ 1 ∧ c1 ≤ 1 ∧ c2 ≤ 1 ∧ I 29 4 = nI c0 ∧ I 29 5 = nI c1 ∧ I 16 4 = nI c2 ∧ I' 43 22 = nI (c0 + 2 * c1 + 4 * c2) ∧ I' 46 5 = nI c2 ∧ (∃ v, 1 ≤ v ∧ v ≤ 64 ∧ I 16 2 = nI v ∧ I' 46 3 = nI v) ∧ ∃ v, v ≤ 600 ∧ I 16 3 = nI v ∧ I' 46 4 = nI v
/-- a law that is told -/
def hT1 (A B : Nat → Int32) (l sz : Nat) : Prop := 1 ≤ sz ∧ sz ≤ 20 ∧ ∃ V R, lJ (lO A 8) (20 * l) sz V ∧ rOk R V ∧ R.length ≤ 40 ∧ B (87 + 42 * l) = nI R.length ∧ arr (fun i => B (88 + 42 * l + i)) R
def hT (I I' : rI0) : Prop := ∀ l, l < 12 → (I 21 l = -1 ∧ I' 46 (86 + 42 * l) = 0) ∨ ∃ sz, I 21 l = nI sz ∧ I' 46 (86 + 42 * l) = nI sz ∧ hT1 (I 22) (I' 46) l sz
def HRl (R C : Nat) (I I' : rI0) : Prop := hA R C I I' ∧ hP I I' ∧ hL I I' ∧ hO I I' ∧ hT I I'
theorem hA.cg {R C : Nat} {I1 I' I2 : rI0} (h : hA R C I I') (a : I1 16 0 = I 16 0) (c : I1 16 1 = I 16 1) (e : ∀ s, s < 64 → I1 17 s = I 17 s) (f : ∀ k, k < 70 → ¬ (3 ≤ k ∧ k ≤ 5) → I2 46 k = I' 46 k) : hA R C I1 I2 := by
  obtain ⟨h1, h2, h3, h4, h5, h6, h7, h8, h9, h10, h11⟩ := h
  have hm : R * C ≤ 64 := Nat.mul_le_mul h1 h2
  refine ⟨h1, h2, h3, h4, a.trans h5, (f 0 (by omega) (by omega)).trans h6, c.trans h7, (f 1 (by omega) (by omega)).trans h8, fun s hs => ?_, fun s hs hs2 => (f (6 + s) (by omega) (by omega)).trans (h10 s hs hs2), ?_⟩
  · rw [e s (by omega), f (6 + s) (by omega) (by omega)]
    exact h9 s hs
  · rw [f 2 (by omega) (by omega), h11, kc_cg _ (fun i hi => e i (by omega))]
theorem hP.cg {I1 I' I2 : rI0} (h : hP I I') (a : I1 29 3 = I 29 3) (c : I2 43 20 = I' 43 20) (e : I1 19 = I 19) (f : ∀ k, 70 ≤ k → k < 78 → I2 46 k = I' 46 k) : hP I1 I2 := by
  obtain ⟨⟨m, h1, h2, h3⟩, h4⟩ := h
  refine ⟨⟨m, h1, a.trans h2, c.trans h3⟩, fun r hr => ?_⟩
  rw [e, f (70 + r) (by omega) (by omega)]
  exact h4 r hr
theorem hL.cg {I1 I' I2 : rI0} (h : hL I I') (c : I2 43 21 = I' 43 21) (e : I1 20 = I 20) (f : ∀ k, 78 ≤ k → k < 86 → I2 46 k = I' 46 k) : hL I1 I2 := by
  obtain ⟨m, h1, h2, h3⟩ := h
  refine ⟨m, h1, c.trans h2, fun r hr => ?_⟩
  rw [e, f (78 + r) (by omega) (by omega)]
  exact h3 r hr
theorem hO.cg {I1 I' I2 : rI0} (h : hO I I') (a : ∀ k, k = 4 ∨ k = 5 → I1 29 k = I 29 k) (e : ∀ k, 2 ≤ k → k ≤ 4 → I1 16 k = I 16 k) (c : I2 43 22 = I' 43 22) (f : ∀ k, 3 ≤ k → k ≤ 5 → I2 46 k = I' 46 k) : hO I1 I2 := by
  unfold hO
  rw [a 4 (by omega), a 5 (by omega), e 4 (by omega) (by omega), e 2 (by omega) (by omega), e 3 (by omega) (by omega), c, f 3 (by omega) (by omega), f 4 (by omega) (by omega), f 5 (by omega) (by omega)]
  exact h
theorem hT1.cg {A B A' B' : Nat → Int32} {l sz : Nat} (h : hT1 A B l sz) (a : ∀ i, 20 * l ≤ i → i < 20 * l + 20 → A' i = A i) (c : ∀ k, 86 + 42 * l ≤ k → k < 128 + 42 * l → B' k = B k) : hT1 A' B' l sz := by
  obtain ⟨h1, h2, V, R, h3, h4, h5, h6, h7⟩ := h
  exact ⟨h1, h2, V, R, lJ_cg (fun t q1 q2 => a t q1 (by omega)) h3, h4, h5, (c (87 + 42 * l) (by omega) (by omega)).trans h6, arr_cg R (fun i hi => c (88 + 42 * l + i) (by omega) (by omega)) h7⟩
theorem hT.cg {I1 I' I2 : rI0} (h : hT I I') (a : I1 21 = I 21) (e : I1 22 = I 22) (f : ∀ k, 86 ≤ k → k < 590 → I2 46 k = I' 46 k) : hT I1 I2 := by
  intro l hl
  rw [a, e, f (86 + 42 * l) (by omega) (by omega)]
  rcases h l hl with g | ⟨sz, g1, g2, g3⟩
  · exact Or.inl g
  · exact Or.inr ⟨sz, g1, g2, g3.cg (fun _ _ _ => rfl) (fun k q1 q2 => f k (by omega) (by omega))⟩
/-- tokens alone have moved on both sides -/
theorem HRl.tk {R C : Nat} {I1 I' I2 : rI0} (h : HRl R C I I') (a : ∀ r, r ≠ 28 → I1 r = I r) (c : I2 46 = I' 46) (e : ∀ k, 20 ≤ k → k ≤ 22 → I2 43 k = I' 43 k) : HRl R C I1 I2 := by
  obtain ⟨h1, h2, h3, h4, h5⟩ := h
  exact ⟨h1.cg (by rw [a 16 (by decide)]) (by rw [a 16 (by decide)]) (fun s _ => by rw [a 17 (by decide)]) (fun k _ _ => by rw [c]), h2.cg (by rw [a 29 (by decide)]) (e 20 (by omega) (by omega)) (a 19 (by decide)) (fun k _ _ => by rw [c]), h3.cg (e 21 (by omega) (by omega)) (a 20 (by decide)) (fun k _ _ => by rw [c]), h4.cg (fun k _ => by rw [a 29 (by decide)]) (fun k _ _ => by rw [a 16 (by decide)]) (e 22 (by omega) (by omega)) (fun k _ _ => by rw [c]), h5.cg (a 21 (by decide)) (a 22 (by decide)) (fun k _ _ => by rw [c])⟩
end PE0
