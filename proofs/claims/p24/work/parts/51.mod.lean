/-! THE REFERENCE ON AN EMPTY EVENING -/
section P1M
variable {S : Nat × (Nat → Int32)} {d : Nat} {x : mX} {I : rI0} {J : rJ0}
theorem bits0 {p : Int64} {Q : Int32 → rI0 → rJ0 → Prop} (hp : p = 0) (k : Q 0 I J) : wcI S d 154 [.long p] x I J Q := by
  subst hp
  refine c154 ?_
  have e : ∀ v : Int32, v = 0 → Q v I J := fun v h => h ▸ k
  exact e _ (by decide +kernel)
theorem inY {p a b : Int32} {Q : Int32 → rI0 → rJ0 → Prop} (h0 : ¬ p < a) (h1 : ¬ b < p) (k : Q 1 I J) : wcI S d 151 [.int p, .int a, .int b] x I J Q := c151 ⟨fun h => absurd h h0, fun _ => ⟨fun h => absurd h h1, fun _ => k⟩⟩
theorem inN {p a b : Int32} {Q : Int32 → rI0 → rJ0 → Prop} (h : p < a ∨ b < p) (k : Q 0 I J) : wcI S d 151 [.int p, .int a, .int b] x I J Q := c151 ⟨fun _ => k, fun h1 => ⟨fun _ => k, fun h2 => absurd h (fun z => z.elim h1 h2)⟩⟩
theorem momY {p : Int32} {Q : Int32 → rI0 → rJ0 → Prop} (h0 : ¬ p < 0) (h1 : ¬ 600 < p) (k : Q 1 I J) : wcI S (d + 1) 203 [.int p] x I J Q := c203 (inY h0 h1 ⟨Or.inr rfl, k⟩)
theorem momN {p : Int32} {Q : Int32 → rI0 → rJ0 → Prop} (h : p < 0 ∨ 600 < p) (k : Q 0 I J) : wcI S (d + 1) 203 [.int p] x I J Q := c203 (inN h ⟨Or.inl rfl, k⟩)
theorem mo0 : ¬ mOut (0 : Int32) 681 := by decide
theorem mo1' : ¬ mOut (1 : Int32) 681 := by decide
theorem mo2' : ¬ mOut (2 : Int32) 681 := by decide
theorem mo3' : ¬ mOut (3 : Int32) 681 := by decide
theorem mo4' : ¬ mOut (4 : Int32) 681 := by decide
theorem mo590 : ¬ mOut (590 : Int32) 681 := by decide
def MFr (g : Nat → Int32) : Prop := g ((0 : Int32).toNatClampNeg) = 0 ∧ g ((1 : Int32).toNatClampNeg) = 0 ∧ g ((2 : Int32).toNatClampNeg) = 0 ∧ g ((3 : Int32).toNatClampNeg) = 1 ∧ g ((4 : Int32).toNatClampNeg) = 600 ∧ g ((5 : Int32).toNatClampNeg) = 0 ∧ g ((590 : Int32).toNatClampNeg) = 0
theorem any_out (p : Int32) : p < 0 ∨ ((0 : Int32) * 0 - 1) < p := by
  rw [Int32.lt_iff_toInt_lt, Int32.lt_iff_toInt_lt]
  have e0 : (0 : Int32).toInt = 0 := by decide
  have e1 : ((0 : Int32) * 0 - 1).toInt = -1 := by decide
  omega
theorem mSeat0 {p : Int32} {Q : Int32 → rI0 → rJ0 → Prop} (h : MFr (I 45)) (k : Q 0 I J) : wcI S (d + 1) 183 [.ref 43, .int p] x I J Q := by
  refine c183_43 ⟨mo0, mo1', ?_⟩
  rw [h.1, h.2.1]
  exact inN (any_out p) ⟨fun _ => k, fun h1 => absurd rfl h1⟩
theorem layOut0 {Q : rI0 → rJ0 → Prop} (h : MFr (I 45)) (k1 : Q I J) (k2 : Q (mSet I 43 30 0) J) : wcV S (d + 1) 186 [.ref 43] x I J Q := by
  have e : ¬ (0 : Int32) < (I 45 ((0 : Int32).toNatClampNeg)) * (I 45 ((1 : Int32).toNatClampNeg)) := by rw [h.1, h.2.1]; decide
  exact c186_43 ⟨fun _ => k1, fun _ => v186_43_17 ⟨mo0, mo1', fun h1 => absurd h1 e, fun _ => v186_43_64 ⟨mo0, mo1', fun h1 => absurd h1 e, fun _ => k2⟩⟩⟩
/-- the reference's night on an empty evening -/
def MZ (I : rI0) (J : rJ0) : Prop := MFr (I 45) ∧ I 43 43 = 0 ∧ J 43 16 = 0 ∧ J 43 17 = 0 ∧ J 43 38 = 0 ∧ J 43 39 = 0 ∧ (∀ m, J 52 m = 0) ∧ (∀ m, J 53 m = 0) ∧ (∀ m, J 54 m = 0) ∧ (∀ m, J 55 m = 0)
def MB (I : rI0) (J : rJ0) : Prop := MFr (I 45) ∧ J 43 16 = 0 ∧ J 43 17 = 0 ∧ (∀ m, J 52 m = 0) ∧ (∀ m, J 53 m = 0) ∧ (∀ m, J 54 m = 0) ∧ (∀ m, J 55 m = 0)
theorem MZ.b (h : MZ I J) : MB I J := ⟨h.1, h.2.2.1, h.2.2.2.1, h.2.2.2.2.2.2⟩
/-- what a night leaves of the reference's own ints -/
def FrM (I I' : rI0) : Prop := I' 45 = I 45 ∧ ∀ k, k ≠ 30 → k ≠ 42 → k ≠ 43 → k ≠ 44 → k ≠ 45 → I' 43 k = I 43 k
theorem FrM.rf : FrM I I := ⟨rfl, fun _ _ _ _ _ _ => rfl⟩
theorem FrM.tr {I1 I2 : rI0} (h : FrM I I1) (h2 : FrM I1 I2) : FrM I I2 := ⟨h2.1.trans h.1, fun k a b c e f => (h2.2 k a b c e f).trans (h.2 k a b c e f)⟩
theorem mSet_fld {f : rI0} {a n k : Nat} {v : Int32} (h : k ≠ n) : mSet f a n v a k = f a k := by
  unfold mSet va_up
  rw [if_pos rfl, if_neg h]
theorem FrM.set {n : Nat} {v : Int32} (hn : n = 30 ∨ n = 42 ∨ n = 43 ∨ n = 44 ∨ n = 45) : FrM I (mSet I 43 n v) := ⟨mSet_ne (by decide), fun k a b c e f => mSet_fld (by omega)⟩
theorem mbegin0 {p q : Int64} {Q : rI0 → rJ0 → Prop} (h : MB I J) (k : ∀ I' J', MZ I' J' → I' 43 42 = nI 0 → FrM I I' → Q I' J') : wcV S (d + 2) 199 [.ref 43, .long p, .long q] x I J Q := by
  obtain ⟨h1, h2, h3, h4, h5, h6, h7⟩ := h
  refine c199_43 (layOut0 h1 ?_ ?_)
  · exact k _ _ ⟨h1, rfl, h2, h3, rfl, rfl, h4, h5, h6, h7⟩ rfl ((FrM.set (by omega)).tr (FrM.set (by omega)))
  · exact k _ _ ⟨h1, rfl, h2, h3, rfl, rfl, h4, h5, h6, h7⟩ rfl ((FrM.set (by omega)).tr ((FrM.set (by omega)).tr (FrM.set (by omega))))
theorem moment0 {t : Nat} {Q : rI0 → rJ0 → Prop} (ht : t ≤ 600) (h : MZ I J) (h42 : I 43 42 = nI t) (k : ∀ J', MZ (mSet I 43 42 (nI (t + 1))) J' → Q (mSet I 43 42 (nI (t + 1))) J') : wcV S (d + 1) 200 [.ref 43] x I J Q := by
  obtain ⟨h1, h43, h2, h3, h38, h39, h4, h5, h6, h7⟩ := h
  have hin : ¬ mOut (I 43 42) 601 := by rw [h42]; exact nI_in (by omega) (by omega)
  refine c200_43 (v200_43_7 ⟨mo590, fun q => absurd q (by rw [h43, h1.2.2.2.2.2.2]; decide), fun _ => v200_43_176 (v200_43_202 ⟨mo0, fun q => absurd q (by rw [h1.1]; decide), fun _ => ⟨hin, hin, hin, hin, ?_⟩⟩)⟩)
  rw [show I 43 42 + 1 = nI (t + 1) from by rw [h42, nI_succ]]
  refine k _ ⟨h1, h43, h2, h3, rfl, rfl, ?_, ?_, ?_, ?_⟩
  · intro m
    rw [mSet_ne (by decide), mSet_ne (by decide), mSet_ne (by decide)]
    exact mSet_0 (fun m => by rw [mSet_ne (by decide), mSet_ne (by decide), mSet_ne (by decide), mSet_ne (by decide)]; exact h4 m) m
  · intro m
    rw [mSet_ne (by decide), mSet_ne (by decide)]
    exact mSet_0 (fun m => by rw [mSet_ne (by decide), mSet_ne (by decide), mSet_ne (by decide), mSet_ne (by decide), mSet_ne (by decide)]; exact h5 m) m
  · intro m
    rw [mSet_ne (by decide)]
    exact mSet_0 (fun m => by rw [mSet_ne (by decide), mSet_ne (by decide), mSet_ne (by decide), mSet_ne (by decide), mSet_ne (by decide), mSet_ne (by decide)]; exact h6 m) m
  · intro m
    exact mSet_0 (fun m => by rw [mSet_ne (by decide), mSet_ne (by decide), mSet_ne (by decide), mSet_ne (by decide), mSet_ne (by decide), mSet_ne (by decide), mSet_ne (by decide)]; exact h7 m) m
theorem i_nat {l : Int32} {n : Nat} (hn : n < 2 ^ 31) (h0 : ¬ l < 0) (h1 : ¬ nI n < l) : ∃ t : Nat, t ≤ n ∧ l = nI t := by
  refine ⟨l.toNatClampNeg, ?_, ?_⟩
  · rw [Int32.lt_iff_toInt_lt] at h0 h1
    rw [nI_toInt hn] at h1
    have e0 : (0 : Int32).toInt = 0 := by decide
    have := Int32.toNat_toInt l
    omega
  · rw [← Int32.toInt_inj, nI_toInt (Int32.toNatClampNeg_lt l)]
    rw [Int32.lt_iff_toInt_lt] at h0
    have e0 : (0 : Int32).toInt = 0 := by decide
    have := Int32.toNat_toInt l
    omega
theorem mnight_lp {t : Nat} {Q : rI0 → rJ0 → Prop} (ht : t ≤ 600) : ∀ (m c : Nat) (I : rI0) (J : rJ0), c + m = t + 1 → MZ I J → I 43 42 = nI c → (∀ I' J', MZ I' J' → FrM I I' → Q I' J') → wp S (d + 2) 201 12 [some (.ref 43), some (.int (nI t))] [] (wv x I J) (rV x Q) := by
  intro m
  induction m with
  | zero =>
    intro c I J hc h h42 k
    have hc : c = t + 1 := by omega
    subst hc
    exact v201_43_12 ⟨fun _ => k I J h FrM.rf, fun q => absurd (by rw [h42]; exact nI_lt (by omega) (by omega)) q⟩
  | succ m ih =>
    intro c I J hc h h42 k
    refine v201_43_12 ⟨fun q => absurd q (by rw [h42]; exact nI_nlt (by omega) (by omega)), fun _ => moment0 (t := c) (by omega) h h42 (fun J1 h1 => ?_)⟩
    exact ih (c + 1) _ J1 (by omega) h1 rfl (fun I2 J2 h2 f2 => k I2 J2 h2 ((FrM.set (by omega)).tr f2))
theorem mnight0 {l : Int32} {Q : rI0 → rJ0 → Prop} (h : MB I J) (h0 : ¬ l < 0) (h1 : ¬ 600 < l) (k : ∀ I' J', MZ I' J' → FrM I I' → Q I' J') : wcV S (d + 3) 201 [.ref 43, .int l] x I J Q := by
  obtain ⟨t, ht, rfl⟩ := i_nat (n := 600) (by decide) h0 h1
  exact c201_43 (mbegin0 h (fun I1 J1 z1 g1 f1 => mnight_lp ht (t + 1) 0 I1 J1 (by omega) z1 g1 (fun I2 J2 z2 f2 => k I2 J2 z2 (f1.tr f2))))
theorem mheight_lp {l1 l3 : Int64} {Q : Int32 → rI0 → rJ0 → Prop} : ∀ (m c : Nat) (I : rI0) (J : rJ0), c + m = 61 → MZ I J → I 43 42 = nI c → I 43 44 = 0 → (∀ I' J', MZ I' J' → FrM I I' → I' 43 44 = 0 → I' 43 45 = 0 → Q 0 I' J') → wp S (d + 2) 202 11 [some (.ref 43), some (.long l1), none, some (.long l3), none, none] [] (wv x I J) (rI x Q) := by
  intro m
  induction m with
  | zero =>
    intro c I J hc h h42 h44 k
    have hc : c = 61 := by omega
    subst hc
    refine v202_43_11 ⟨fun _ => ⟨mo3', fun _ => ?_, fun q => absurd (by rw [h44, h.1.2.2.2.1]; decide) q⟩, fun q => absurd (by rw [h42]; decide) q⟩
    rw [h44]
    exact k _ J h (FrM.set (by omega)) h44 rfl
  | succ m ih =>
    intro c I J hc h h42 h44 k
    refine v202_43_11 ⟨fun q => absurd q (by rw [h42]; exact nI_nlt (a := 60) (by omega) (by omega)), fun _ => moment0 (t := c) (by omega) h h42 (fun J1 h1 => bits0 h1.2.2.2.2.2.1 ⟨fun q => absurd q ?_, fun _ => ?_⟩)⟩
    · show ¬ I 43 44 < 0
      rw [h44]
      decide
    · exact ih (c + 1) _ J1 (by omega) h1 rfl h44 (fun I2 J2 h2 f2 a2 b2 => k I2 J2 h2 ((FrM.set (by omega)).tr ((FrM.set (by omega)).tr f2)) a2 b2)
theorem mheight0 {p q : Int64} {Q : Int32 → rI0 → rJ0 → Prop} (h : MB I J) (k : ∀ I' J', MZ I' J' → FrM I I' → I' 43 44 = 0 → I' 43 45 = 0 → Q 0 I' J') : wcI S (d + 3) 202 [.ref 43, .long p, .long q] x I J Q :=
  c202_43 (mbegin0 h (fun I1 J1 z1 g1 f1 => mheight_lp 61 0 _ J1 rfl z1 g1 rfl (fun I2 J2 z2 f2 a2 b2 => k I2 J2 z2 (f1.tr ((FrM.set (by omega)).tr f2)) a2 b2)))
theorem mUp0 {p : Int32} {Q : Int32 → rI0 → rJ0 → Prop} (h : MZ I J) (hp : ¬ mOut p 601) (k : Q 0 I J) : wcI S (d + 1) 210 [.ref 43, .int p] x I J Q :=
  c210_43 ⟨hp, bits0 (h.2.2.2.2.2.2.2.1 _) ⟨mo3', fun _ => k, fun q => absurd (by rw [h.1.2.2.2.1]; decide) q⟩⟩
theorem areEight0 {Q : Int32 → rI0 → rJ0 → Prop} (h : I 43 2 = 0) (k : ∀ I', Q 0 I' J) : wcI S (d + 1) 217 [.ref 43] x I J Q := by
  refine c217_43 (c150_43 (inN (Or.inl ?_) ⟨fun _ => k _, fun q => absurd rfl q⟩))
  show I 43 2 < 1
  rw [h]
  decide
end P1M
