section
section OP0
variable {S : Nat × (Nat → Int32)} {d n : Nat} {x : mX} {I I' : rI0} {J J' : rJ0} {l4 : Int32} {Q : mO → mW → Prop}
def KE (x : mX) (I : rI0) : Prop := ∀ k, k < 2 → (x.2.1 27 k = none ↔ I 66 k = 0)
def KY (x : mX) (I : rI0) (J : rJ0) : Prop := KX x I J ∧ KE x I
theorem KE.r {p : Int32} (h : KE x I) (z0 : ¬ p < 0) (z1 : ¬ 1 < p) : x.2.1 27 p.toNatClampNeg = none ↔ I 66 p.toNatClampNeg = 0 := by
  obtain ⟨t, ht, et⟩ := i_nat (n := 1) (by omega) z0 z1
  subst et
  rw [nI_clamp (by omega)]
  exact h t (by omega)
theorem KY.mv (h : KY x I J) (hi : ∀ b, 63 ≤ b → I' b = I b) (hj : ∀ b, 68 ≤ b → J' b = J b) : KY x I' J' := ⟨h.1.mv (fun b hb => hi b (by omega)) hj, fun k hk => by rw [hi 66 (by omega)]; exact h.2 k hk⟩
theorem KY.t (h : KY x I J) {q : Nat × Nat} {m : Nat} : KY (xA x q m) (va_up I (68 + x.1.length) (fun _ => 0)) (va_up J (68 + x.1.length) (fun _ => 0)) := ⟨h.1.t, fun k hk => by rw [xA_kf (n := 68 + x.1.length) rfl (by omega), vu_ne (by omega)]; exact h.2 k hk⟩
theorem KY.i {x1 : mX} {I1 I2 : rI0} {J1 J2 : rJ0} {t : Nat} (h : KY x I J) (kx : KX x1 I1 J1) (fi : ∀ b, b < 68 → I1 b = I b) (e : ¬ x1.2.1 27 t = none ∧ (∀ s, s ≠ t → x1.2.1 27 s = x.2.1 27 s)) {Tl : Int32} (m : Mfi I1 J1 Tl t I2 J2) : KY x1 I2 J2 := by
  refine ⟨kx.mv (fun b hb => m.2.1 b (by omega)) (fun b hb => m.2.2.1 b (by omega)), fun k hk => ?_⟩
  by_cases z : k = t
  · subst z
    exact iff_of_false e.1 m.2.2.2.1
  · rw [e.2 k z, m.2.2.2.2.1 k z, fi 66 (by omega)]
    exact h.2 k hk
def TB (I : rI0) : Prop := I 1 1 = I 43 2 ∧ ∀ i, i < 940 → I 44 i &&& 255 = I 2 i
def INV (n : Nat) (x : mX) (I : rI0) (J : rJ0) : Prop := CV I J ∧ MV I J ∧ KY x I J ∧ x.1.length ≤ 12 * n ∧ x.2.2.2 ≤ 12969 + 1100 * n
theorem MV.eq (h : MV I J) (hi : ∀ b, 43 ≤ b ∧ b ≤ 66 → I' b = I b) (hj : ∀ b, 43 ≤ b ∧ b ≤ 66 → J' b = J b) : MV I' J' := by
  refine h.up ?_ (hi 45 (by omega)) (hi 46 (by omega)) (hi 50 (by omega)) (hi 56 (by omega)) (hi 63 (by omega)) (hi 66 (by omega)) (by rw [hi 43 (by omega)]) (by rw [hj 43 (by omega)])
  have m := h.1
  unfold MN TKm at *
  rw [hi 43 (by omega)]
  exact m
theorem INV.c (h : INV n x I J) (c : CV I' J') (u : U43 I J I' J') : INV n x I' J' := ⟨c, h.2.1.eq (fun b hb => u.1 b (by omega)) (fun b hb => u.2 b hb.1), h.2.2.1.mv (fun b hb => u.1 b (by omega)) (fun b hb => u.2 b (by omega)), h.2.2.2⟩
theorem INV.m (h : INV n x I J) {Tl : Int32} (m : Mf I J Tl I' J') : INV (n + 1) x I' J' := ⟨h.1.eq (fun b hb => m.2.1.1 b (by omega)) (fun b hb => m.2.2 b (by omega)), m.1, h.2.2.1.mv (fun b hb => m.2.1.1 b (by omega)) (fun b hb => m.2.2 b (by omega)), by have := h.2.2.2; omega⟩
theorem INV.j (h : INV n x I J) {v : Int64} : INV n x I (mSet J 67 0 v) := ⟨h.1.eq (fun _ _ => rfl) (fun b hb => mSet_ne (by omega)), h.2.1.eq (fun _ _ => rfl) (fun b hb => mSet_ne (by omega)), h.2.2.1.mv (fun _ _ => rfl) (fun b hb => mSet_ne (by omega)), h.2.2.2⟩
/-- behind a throw: one cell more (the count of calls is not raised yet) -/
def INX (n : Nat) (x : mX) (I : rI0) (J : rJ0) : Prop := CV I J ∧ MV I J ∧ KY x I J ∧ x.1.length ≤ 12 * (n + 1) ∧ x.2.2.2 ≤ 12969 + 1100 * (n + 1)
theorem INV.t (h : INV n x I J) : INX n (xA x (0, 11) 6) (va_up I (68 + x.1.length) (fun _ => 0)) (va_up J (68 + x.1.length) (fun _ => 0)) := by
  refine ⟨h.1.eq (fun b hb => vu_ne (by omega)) (fun b hb => vu_ne (by omega)), h.2.1.eq (fun b hb => vu_ne (by omega)) (fun b hb => vu_ne (by omega)), h.2.2.1.t, ?_, ?_⟩
  · have l := xA_len (x := x) (q := (0, 11)) (m := 6) rfl
    have := h.2.2.2.1
    omega
  · show x.2.2.2 + 6 ≤ _
    have := h.2.2.2.2
    omega
theorem INX.m (h : INX n x I J) {Tl : Int32} (m : Mf I J Tl I' J') : INV (n + 1) x I' J' := by
  obtain ⟨h1, h2, h3, h4, h5⟩ := h
  refine ⟨h1.eq (fun b hb => m.2.1.1 b (by omega)) (fun b hb => m.2.2 b (by omega)), m.1, h3.mv (fun b hb => m.2.1.1 b (by omega)) (fun b hb => m.2.2 b (by omega)), ?_, ?_⟩
  · exact h4
  · exact h5
theorem INV.w (h : INV n x I J) (c : CV I' J') (u : ∀ b, 43 ≤ b → I' b = I b) (w : ∀ b, 43 ≤ b → J' b = J b) : INV n x I' J' := ⟨c, h.2.1.eq (fun b hb => u b hb.1) (fun b hb => w b hb.1), h.2.2.1.mv (fun b hb => u b (by omega)) (fun b hb => w b (by omega)), h.2.2.2⟩
theorem INV.m4 (h : INV n x I J) {I0 : rI0} {Tl : Int32} (e : ∀ b, b ≠ 44 → I0 b = I b) (m : Mf I0 J Tl I' J') : INV (n + 1) x I' J' := ⟨h.1.eq (fun b hb => (m.2.1.1 b (by omega)).trans (e b (by omega))) (fun b hb => m.2.2 b (by omega)), m.1, h.2.2.1.mv (fun b hb => (m.2.1.1 b (by omega)).trans (e b (by omega))) (fun b hb => m.2.2 b (by omega)), by have := h.2.2.2; omega⟩
theorem tr_k {I1 I2 : rI0} {J1 J2 : rJ0} (ht : TB I) (u : U43 I J I1 J1) (e1 : I1 1 1 = I 1 1) (m : Mf I1 J1 (I1 43 2) I2 J2) : TB I2 := by
  refine ⟨?_, fun i hi => ?_⟩
  · rw [m.2.1.2, m.2.1.1 1 (by omega), e1, ht.1, u.1 43 (by omega)]
  · rw [m.2.1.1 44 (by omega), m.2.1.1 2 (by omega), u.1 44 (by omega), u.1 2 (by omega)]
    exact ht.2 i hi
theorem tr_v {I1 I2 : rI0} {J1 J2 : rJ0} {v : Int32} (ht : TB I) (u : U43 I J I1 J1) (e1 : I1 1 1 = v) (m : Mf I1 J1 v I2 J2) : TB I2 := by
  refine ⟨?_, fun i hi => ?_⟩
  · rw [m.2.1.2, m.2.1.1 1 (by omega), e1]
  · rw [m.2.1.1 44 (by omega), m.2.1.1 2 (by omega), u.1 44 (by omega), u.1 2 (by omega)]
    exact ht.2 i hi
theorem tr_t {I2 : rI0} {J2 : rJ0} {n : Nat} (ht : TB I) (m : Mf (va_up I (68 + n) (fun _ => 0)) (va_up J (68 + n) (fun _ => 0)) (va_up I (68 + n) (fun _ => 0) 43 2) I2 J2) : TB I2 := by
  refine ⟨?_, fun i hi => ?_⟩
  · rw [m.2.1.2, m.2.1.1 1 (by omega), vu_ne (by omega), vu_ne (by omega)]
    exact ht.1
  · rw [m.2.1.1 44 (by omega), m.2.1.1 2 (by omega), vu_ne (by omega), vu_ne (by omega)]
    exact ht.2 i hi
theorem tr_j {I2 : rI0} {J2 J1 : rJ0} (ht : TB I) (m : Mf I J1 (I 43 2) I2 J2) : TB I2 := by
  refine ⟨?_, fun i hi => ?_⟩
  · rw [m.2.1.2, m.2.1.1 1 (by omega)]
    exact ht.1
  · rw [m.2.1.1 44 (by omega), m.2.1.1 2 (by omega)]
    exact ht.2 i hi
theorem tr_i {I1 I2 : rI0} {J1 J2 : rJ0} {t : Nat} (ht : TB I) (fi : ∀ b, b < 68 → I1 b = I b) (m : Mfi I1 J1 (I1 43 2) t I2 J2) : TB I2 := by
  refine ⟨?_, fun i hi => ?_⟩
  · rw [m.2.2.2.2.2.1, m.2.1 1 (by omega), fi 1 (by omega), fi 43 (by omega)]
    exact ht.1
  · rw [m.2.1 44 (by omega), m.2.1 2 (by omega), fi 44 (by omega), fi 2 (by omega)]
    exact ht.2 i hi
theorem tl_n (h : MV I J) : I 43 2 = nI (I 43 2).toInt.toNat := by
  have b := h.1.1
  rw [← Int32.toInt_inj, nI_toInt (by omega)]
  omega
theorem tl_l (h : MV I J) : (I 43 2).toInt.toNat ≤ 940 := by
  have b := h.1.1
  omega
/-! feed -/
theorem b255 : ∀ i, i < 32 → (255#32).getLsbD i = decide (i < 8) := by decide
theorem byt_k (w a c : BitVec 32) (k : Nat) (hk : k ≤ 24) (ha : a.toNat = k) (hc : c.toNat = k) : (((w.sshiftRight' a).signExtend 8).signExtend 32) &&& 255#32 = (w >>> c) &&& 255#32 := by
  apply BitVec.eq_of_getLsbD_eq
  intro i hi
  rw [BitVec.getLsbD_and, BitVec.getLsbD_and, b255 i hi]
  by_cases h : i < 8
  · rw [BitVec.getLsbD_signExtend, BitVec.getLsbD_signExtend, BitVec.getLsbD_sshiftRight', BitVec.ushiftRight_eq', BitVec.getLsbD_ushiftRight, ha, hc]
    simp [h, hi, show k + i < 32 by omega]
  · simp [h]
theorem byt (v s : Int32) (hs : s = 24 ∨ s = 16 ∨ s = 8 ∨ s = 0) : ((v >>> (s &&& 31)).toInt8.toInt32) &&& 255 = ((v.toUInt32 >>> (s.toUInt32 &&& Int32.toUInt32 31)).toInt32) &&& 255 := by
  apply Int32.toBitVec_inj.mp
  rw [Int32.toBitVec_and, Int32.toBitVec_and, Int8.toBitVec_toInt32, Int32.toBitVec_toInt8, Int32.toBitVec_shiftRight, UInt32.toBitVec_toInt32, UInt32.toBitVec_shiftRight]
  rcases hs with h | h | h | h <;> subst h
  · exact byt_k v.toBitVec _ _ 24 (by omega) (by decide) (by decide)
  · exact byt_k v.toBitVec _ _ 16 (by omega) (by decide) (by decide)
  · exact byt_k v.toBitVec _ _ 8 (by omega) (by decide) (by decide)
  · exact byt_k v.toBitVec _ _ 0 (by omega) (by decide) (by decide)
theorem b8_bt (v s : Int32) (hs : s = 24 ∨ s = 16 ∨ s = 8 ∨ s = 0) : b8 v s &&& 255 = bt v s := by
  unfold b8
  rw [pk_vb]
  exact byt v s hs
theorem m4_ne {I0 : rI0} {m : Nat} {p : Int32} {b : Nat} (h : b ≠ 44) : m4 I0 m p b = I0 b := by
  unfold m4
  rw [mSet_ne h, mSet_ne h, mSet_ne h, mSet_ne h]
theorem mS_at {I0 : rI0} {a k i : Nat} {v : Int32} : mSet I0 a k v a i = if i = k then v else I0 a i := by
  unfold mSet va_up
  rw [if_pos rfl]
theorem ft_m4 {I0 : rI0} {g : Nat → Int32} {m : Nat} {p : Int32} (h : ∀ i, i < 940 → I0 44 i &&& 255 = g i) : ∀ i, i < 940 → m4 I0 m p 44 i &&& 255 = ft g m p i := by
  intro i hi
  unfold m4 ft
  rw [mS_at, mS_at, mS_at, mS_at]
  split
  · exact b8_bt _ _ (by decide)
  · split
    · exact b8_bt _ _ (by decide)
    · split
      · exact b8_bt _ _ (by decide)
      · split
        · exact b8_bt _ _ (by decide)
        · exact h i hi
theorem tr_f {I1 I2 : rI0} {J1 J2 : rJ0} {v p1 p2 p3 p4 p5 : Int32} {m : Nat} (ht : TB I) (u : ∀ b, b ≠ 1 → b ≠ 2 → I1 b = I b) (e2 : I1 2 = ft (ft (ft (ft (ft (I 2) m p1) (m + 4) p2) (m + 8) p3) (m + 12) p4) (m + 16) p5) (e1 : I1 1 1 = v) (mm : Mf (m4 (m4 (m4 (m4 (m4 I1 m p1) (m + 4) p2) (m + 8) p3) (m + 12) p4) (m + 16) p5) J1 v I2 J2) : TB I2 := by
  refine ⟨?_, fun i hi => ?_⟩
  · rw [mm.2.1.2, mm.2.1.1 1 (by omega), m4_ne (by decide), m4_ne (by decide), m4_ne (by decide), m4_ne (by decide), m4_ne (by decide), e1]
  · rw [mm.2.1.1 44 (by omega), mm.2.1.1 2 (by omega), m4_ne (show 2 ≠ 44 by decide), m4_ne (show 2 ≠ 44 by decide), m4_ne (show 2 ≠ 44 by decide), m4_ne (show 2 ≠ 44 by decide), m4_ne (show 2 ≠ 44 by decide), e2]
    have h0 : ∀ i, i < 940 → I1 44 i &&& 255 = I 2 i := fun i hi => by rw [u 44 (by decide) (by decide)]; exact ht.2 i hi
    exact ft_m4 (ft_m4 (ft_m4 (ft_m4 (ft_m4 h0)))) i hi
theorem fz {I1 : rI0} (ht : TB I) (u : ∀ b, b ≠ 1 → b ≠ 2 → I1 b = I b) (z : (940 : Int32) < I1 43 2 + 20) : (940 : Int32) < I 1 1 + 20 := by
  rw [u 43 (by decide) (by decide), ← ht.1] at z
  exact z
theorem fe {I1 : rI0} (ht : TB I) (u : ∀ b, b ≠ 1 → b ≠ 2 → I1 b = I b) (e1 : I1 1 1 = I 1 1 + 20) : I1 1 1 = I1 43 2 + 20 := by
  rw [e1, u 43 (by decide) (by decide), ht.1]
theorem fe2 {I1 : rI0} (ht : TB I) (u : ∀ b, b ≠ 1 → b ≠ 2 → I1 b = I b) : I 1 1 + 20 = I1 43 2 + 20 := by
  rw [u 43 (by decide) (by decide), ht.1]
theorem ez {I1 : rI0} {J1 : rJ0} {p : Int32} (ht : TB I) (u : U43 I J I1 J1) (y : I1 43 2 < p) : I 1 1 < p := by
  rw [u.1 43 (by omega), ← ht.1] at y
  exact y
/-! two specs of one run -/
theorem wcI_and {S : Nat × (Nat → Int32)} {d mj : Nat} {as : List Value} {P P' : Int32 → rI0 → rJ0 → Prop} (h1 : wcI S d mj as x I J P) (h2 : wcI S d mj as x I J P') : wcI S d mj as x I J (fun v I1 J1 => P v I1 J1 ∧ P' v I1 J1) := by
  obtain ⟨n1, o1, w1, x1, v, I1, J1, y1, y2, y3⟩ := h1
  obtain ⟨n2, o2, w2, x2, v2, I2, J2, z1, z2, z3⟩ := h2
  have a1 := ex_le x1 (Nat.le_add_right n1 n2)
  have a2 := ex_le x2 (Nat.le_add_left n2 n1)
  rw [a1] at a2
  have e := Option.some.inj a2
  have eo : o1 = o2 := congrArg Prod.fst e
  have ew : w1 = w2 := congrArg Prod.snd e
  subst eo ew
  have ev : v = v2 := by
    have q := y1.symm.trans z1
    cases q
    rfl
  have e3 : wv x I1 J1 = wv x I2 J2 := y2.symm.trans z2
  have eI : I1 = I2 := congrArg (fun w : mW => w.2.1) e3
  have eJ : J1 = J2 := congrArg (fun w : mW => w.2.2.1) e3
  subst ev eI eJ
  exact ⟨n1, o1, w1, x1, v, I1, J1, y1, y2, y3, z3⟩
/-! the houses alike -/
/-- the kept evenings -/
def KN (x : mX) (I : rI0) (J : rJ0) : Prop := (∀ k a, k < 2 → x.2.1 27 k = some a → 68 ≤ a ∧ NRx a I J (fun i => I 63 (681 * k + i))) ∧ ∀ a, x.2.1 27 0 = some a → ¬ x.2.1 27 1 = some a
def RLx (x : mX) (I : rI0) (J : rJ0) : Prop := TB I ∧ NRx 3 I J (I 45) ∧ KN x I J ∧ I 0 9 = I 43 13
theorem NRx.c {I1 : rI0} {J1 : rJ0} (h : NRx 3 I J (I 45)) (u : UN I J I1 J1) : NRx 3 I1 J1 (I1 45) := h.mv (fun b hb => u.1 b (by omega)) (u.2.1 4 (by omega)) (by rw [u.1 45 (by omega)]; exact PK.rf) (by rw [u.1 45 (by omega)]; exact PQ.rf)
theorem NRx.m {g : Nat → Int32} {v : Int32} (h : NRx 3 I J g) (m : Mf I J v I' J') (pk : PK g (I' 45)) (pq : PQ g (I' 45)) : NRx 3 I' J' (I' 45) := h.mv (fun b hb => m.2.1.1 b (by omega)) (m.2.2 4 (by omega)) pk pq
theorem NRx.g {t : Nat} {g g' : Nat → Int32} (h : NRx t I J g) (q : ∀ i, i < 681 → g' i = g i) : NRx t I J g' := h.mv (fun _ _ => rfl) rfl ⟨fun i hi _ => q i (by omega), fun v hv => by rw [q (6 + v) (by omega)]⟩ (fun i _ hi => q i hi)
theorem KN.mv (h : KN x I J) (hi : ∀ b, b = 63 ∨ 68 ≤ b → I' b = I b) (hj : ∀ b, 68 ≤ b → J' b = J b) : KN x I' J' := by
  refine ⟨fun k a hk e => ?_, h.2⟩
  obtain ⟨ha, w⟩ := h.1 k a hk e
  have e63 := hi 63 (Or.inl rfl)
  refine ⟨ha, w.mv (fun b hb => hi b (by omega)) (hj (a + 1) (by omega)) (by rw [e63]; exact PK.rf) (by rw [e63]; exact PQ.rf)⟩
theorem KN.u {I1 : rI0} {J1 : rJ0} (h : KN x I J) (u : U43 I J I1 J1) : KN x I1 J1 := h.mv (fun b hb => u.1 b (by omega)) (fun b hb => u.2 b (by omega))
theorem KN.m {v : Int32} (h : KN x I J) (m : Mf I J v I' J') : KN x I' J' := h.mv (fun b hb => m.2.1.1 b (by omega)) (fun b hb => m.2.2 b (by omega))
theorem fe_0 {I1 I2 : rI0} {J1 J2 : rJ0} {t : Int32} {R C : Int} (e : I1 0 9 = I1 43 13) (m : Mz_ I1 J1 (t, some (I1 43 13)) R C I2 J2) : I2 0 9 = I2 43 13 := by
  rw [m.f.2.1.1 0 (by omega), m.f13]
  exact e
theorem fe_u {I1 : rI0} {J1 : rJ0} (e : I 0 9 = I 43 13) (u : UN I J I1 J1) : I1 0 9 = I1 43 13 := by
  rw [u.2.2, u.1 43 (by omega)]
  exact e
theorem rl_k {I1 I2 : rI0} {J1 J2 : rJ0} {R C : Int} (ht : RLx x I J) (u : UN I J I1 J1) (e1 : I1 1 1 = I 1 1) (m : Mz_ I1 J1 (I1 43 2, some (I1 43 13)) R C I2 J2) : RLx x I2 J2 := ⟨tr_k ht.1 u.w e1 m.f, (ht.2.1.c u).m m.f m.pk m.pq, (ht.2.2.1.u u.w).m m.f, fe_0 (fe_u ht.2.2.2 u) m⟩
theorem rl_v {I1 I2 : rI0} {J1 J2 : rJ0} {v : Int32} {R C : Int} (ht : RLx x I J) (u : UN I J I1 J1) (e1 : I1 1 1 = v) (m : Mz_ I1 J1 (v, some (I1 43 13)) R C I2 J2) : RLx x I2 J2 := ⟨tr_v ht.1 u.w e1 m.f, (ht.2.1.c u).m m.f m.pk m.pq, (ht.2.2.1.u u.w).m m.f, fe_0 (fe_u ht.2.2.2 u) m⟩
theorem rl_j {I2 : rI0} {J2 : rJ0} {v : Int64} {R C : Int} (ht : RLx x I J) (m : Mz_ I (mSet J 67 0 v) (I 43 2, some (I 43 13)) R C I2 J2) : RLx x I2 J2 := by
  have n1 : NRx 3 I (mSet J 67 0 v) (I 45) := ht.2.1.mv (fun _ _ => rfl) (mSet_ne (by decide)) PK.rf PQ.rf
  have k1 : KN x I (mSet J 67 0 v) := ht.2.2.1.mv (fun _ _ => rfl) (fun b hb => mSet_ne (by omega))
  exact ⟨tr_j ht.1 m.f, n1.m m.f m.pk m.pq, k1.m m.f, fe_0 ht.2.2.2 m⟩
theorem rl_t {I2 : rI0} {J2 : rJ0} {R C : Int} {n : Nat} (hx : KX x I J) (hn : n = x.1.length) (ht : RLx x I J) (m : Mz_ (va_up I (68 + n) (fun _ => 0)) (va_up J (68 + n) (fun _ => 0)) (va_up I (68 + n) (fun _ => 0) 43 2, some (va_up I (68 + n) (fun _ => 0) 43 13)) R C I2 J2) : RLx (xA x (0, 11) 6) I2 J2 := by
  have n1 : NRx 3 (va_up I (68 + n) (fun _ => 0)) (va_up J (68 + n) (fun _ => 0)) (va_up I (68 + n) (fun _ => 0) 45) := ht.2.1.mv (fun b hb => vu_ne (by omega)) (vu_ne (by omega)) (by rw [vu_ne (by omega)]; exact PK.rf) (by rw [vu_ne (by omega)]; exact PQ.rf)
  have k1 : KN (xA x (0, 11) 6) (va_up I (68 + n) (fun _ => 0)) (va_up J (68 + n) (fun _ => 0)) := by
    have f : ∀ k, (xA x (0, 11) 6).2.1 27 k = x.2.1 27 k := fun k => congrFun (xA_kf (n := 68 + x.1.length) rfl (by omega)) k
    refine ⟨fun k a hk e => ?_, fun a e0 e1 => ht.2.2.1.2 a (by rw [← f 0]; exact e0) (by rw [← f 1]; exact e1)⟩
    rw [f k] at e
    obtain ⟨ha, w⟩ := ht.2.2.1.1 k a hk e
    rcases hx k hk with z | ⟨b, hb, eb, evb, -⟩
    · rw [z] at e
      cases e
    · have : b = a := Option.some.inj (eb.symm.trans e)
      subst this
      have l := evb.lt
      exact ⟨ha, w.mv (fun c hc => vu_ne (by omega)) (vu_ne (by omega)) (by rw [vu_ne (by omega)]; exact PK.rf) (by rw [vu_ne (by omega)]; exact PQ.rf)⟩
  exact ⟨tr_t ht.1 m.f, n1.m m.f m.pk m.pq, k1.m m.f, fe_0 (by rw [vu_ne (by omega), vu_ne (by omega)]; exact ht.2.2.2) m⟩
theorem rl_f {I1 I2 : rI0} {J2 : rJ0} {v p1 p2 p3 p4 p5 : Int32} {m : Nat} {R C : Int} (ht : RLx x I J) (u : ∀ b, b ≠ 1 → b ≠ 2 → I1 b = I b) (e2 : I1 2 = ft (ft (ft (ft (ft (I 2) m p1) (m + 4) p2) (m + 8) p3) (m + 12) p4) (m + 16) p5) (e1 : I1 1 1 = v) (mm : Mz_ (m4 (m4 (m4 (m4 (m4 I1 m p1) (m + 4) p2) (m + 8) p3) (m + 12) p4) (m + 16) p5) J (v, some (I1 43 13)) R C I2 J2) : RLx x I2 J2 := by
  have q : ∀ b, b ≠ 44 → (m4 (m4 (m4 (m4 (m4 I1 m p1) (m + 4) p2) (m + 8) p3) (m + 12) p4) (m + 16) p5) b = I1 b := fun b hb => by rw [m4_ne hb, m4_ne hb, m4_ne hb, m4_ne hb, m4_ne hb]
  refine ⟨tr_f ht.1 u e2 e1 mm.f, ?_, ?_, ?_⟩
  · refine ht.2.1.mv (fun b hb => ?_) (mm.f.2.2 4 (by omega)) ?_ ?_
    · rw [mm.f.2.1.1 b (by omega), q b (by omega)]
      exact u b (by omega) (by omega)
    · have := mm.pk
      rw [q 45 (by decide), u 45 (by decide) (by decide)] at this
      exact this
    · have := mm.pq
      rw [q 45 (by decide), u 45 (by decide) (by decide)] at this
      exact this
  · refine ht.2.2.1.mv (fun b hb => ?_) (fun b hb => mm.f.2.2 b (by omega))
    rw [mm.f.2.1.1 b (by omega), q b (by omega)]
    exact u b (by omega) (by omega)
  · rw [mm.f.2.1.1 0 (by omega), q 0 (by decide), mm.f13, u 0 (by decide) (by decide), u 43 (by decide) (by decide)]
    exact ht.2.2.2
theorem cl2 {p : Int32} (z0 : ¬ p < 0) (z1 : ¬ 1 < p) : p.toNatClampNeg < 2 := by
  obtain ⟨t, ht, et⟩ := i_nat (n := 1) (by omega) z0 z1
  subst et
  rw [nI_clamp (by omega)]
  omega
theorem rl_i {x1 : mX} {I1 I2 : rI0} {J1 J2 : rJ0} {t : Nat} (ht : RLx x I J) (hx : KX x I J) (t2 : t < 2) (fi : ∀ b, b < 68 → I1 b = I b) (fj : ∀ b, b < 68 → J1 b = J b) (ke : ¬ x1.2.1 27 t = none ∧ (∀ s, s ≠ t → x1.2.1 27 s = x.2.1 27 s)) (cp : ∃ a, 68 ≤ a ∧ x1.2.1 27 t = some a ∧ EvX x1 a ∧ CPe 3 a I J I1 J1 ∧ (x.2.1 27 t = some a ∨ a = 68 + x.1.length) ∧ ∀ c, c < 68 + x.1.length → ¬ (a ≤ c ∧ c ≤ a + 11) → I1 c = I c ∧ J1 c = J c) (m : Mfi I1 J1 (I1 43 2) t I2 J2) (m13 : I2 43 13 = I1 43 13) : RLx x1 I2 J2 := by
  obtain ⟨a, ha, ea, -, cpe, nw, fo⟩ := cp
  have pk : PK (I 45) (I2 45) := by
    have := m.2.2.2.2.2.2.1
    rw [fi 45 (by omega)] at this
    exact this
  have pq : PQ (I 45) (I2 45) := by
    have := m.2.2.2.2.2.2.2.1
    rw [fi 45 (by omega)] at this
    exact this
  have lt : ∀ k b, k < 2 → x.2.1 27 k = some b → EvX x b ∧ b + 11 < 68 + x.1.length := fun k b hk e => by
    rcases hx k hk with z | ⟨b', -, eb, evb, -⟩
    · rw [z] at e
      cases e
    · have : b' = b := Option.some.inj (eb.symm.trans e)
      subst this
      exact ⟨evb, evb.lt⟩
  have df : ∀ k b, k < 2 → k ≠ t → x.2.1 27 k = some b → a + 12 ≤ b ∨ b + 12 ≤ a := fun k b hk hkt e => by
    obtain ⟨evb, lb⟩ := lt k b hk e
    rcases nw with z | z
    · rcases (lt t a t2 z).1.dj evb with y | y | y
      · subst y
        rcases (show (k = 0 ∧ t = 1) ∨ (k = 1 ∧ t = 0) by omega) with ⟨k0, t1⟩ | ⟨k0, t1⟩ <;> subst k0 t1
        · exact absurd z (ht.2.2.1.2 a e)
        · exact absurd e (ht.2.2.1.2 a z)
      · exact Or.inl y
      · exact Or.inr y
    · exact Or.inr (by omega)
  refine ⟨tr_i ht.1 fi m, ?_, ⟨fun k b hk e => ?_, fun b e0 e1 => ?_⟩, by rw [m.2.1 0 (by omega), fi 0 (by omega), m13, fi 43 (by omega)]; exact ht.2.2.2⟩
  · refine ht.2.1.mv (fun b hb => ?_) ?_ pk pq
    · rw [m.2.1 b (by omega)]
      exact fi b (by omega)
    · rw [m.2.2.1 4 (by omega)]
      exact fj 4 (by omega)
  · by_cases z : k = t
    · subst z
      have : a = b := Option.some.inj (ea.symm.trans e)
      subst this
      refine ⟨ha, ?_⟩
      have w1 : NRx a I1 J1 (I 45) := ht.2.1.cp cpe (fun _ _ => rfl)
      have w2 : NRx a I2 J2 (I2 45) := w1.mv (fun c hc => m.2.1 c (by omega)) (m.2.2.1 (a + 1) (by omega)) pk pq
      exact w2.g (fun i hi => m.2.2.2.2.2.2.2.2.1 i (by omega))
    · have e' : x.2.1 27 k = some b := (ke.2 k z).symm.trans e
      obtain ⟨hb, w⟩ := ht.2.2.1.1 k b hk e'
      have lb := (lt k b hk e').2
      have dd := df k b hk z e'
      refine ⟨hb, ?_⟩
      have w1 : NRx b I2 J2 (fun i => I 63 (681 * k + i)) := w.mv (fun c hc => (m.2.1 c (by omega)).trans (fo c (by omega) (by omega)).1) ((m.2.2.1 (b + 1) (by omega)).trans (fo (b + 1) (by omega) (by omega)).2) PK.rf PQ.rf
      refine w1.g (fun i hi => ?_)
      show I2 63 (681 * k + i) = I 63 (681 * k + i)
      rw [m.2.2.2.2.2.2.2.2.2 (681 * k + i) (by rcases (show (k = 0 ∧ t = 1) ∨ (k = 1 ∧ t = 0) by omega) with ⟨k0, t1⟩ | ⟨k0, t1⟩ <;> subst k0 t1 <;> omega), fi 63 (by omega)]
  · rcases (show t = 0 ∨ t = 1 by omega) with z | z <;> subst z
    · have : a = b := Option.some.inj (ea.symm.trans e0)
      subst this
      have e1' : x.2.1 27 1 = some a := (ke.2 1 (by decide)).symm.trans e1
      have := df 1 a (by omega) (by decide) e1'
      omega
    · have : a = b := Option.some.inj (ea.symm.trans e1)
      subst this
      have e0' : x.2.1 27 0 = some a := (ke.2 0 (by decide)).symm.trans e0
      have := df 0 a (by omega) (by decide) e0'
      omega
theorem rl_r {I1 I2 : rI0} {J1 J2 : rJ0} {t : Nat} (ht : RLx x I J) (u : UK I J I1 J1) (t2 : t < 2) (cp : ∃ a, 68 ≤ a ∧ x.2.1 27 t = some a ∧ CPe a 3 I J I1 J1) (m : Mf I1 J1 (I1 43 2) I2 J2) (q : ∀ i, i < 681 → I2 45 i = I1 63 (681 * t + i)) (z0 : I1 0 = I 0) (m13 : I2 43 13 = I1 43 13) : RLx x I2 J2 := by
  obtain ⟨a, ha, ea, cpe⟩ := cp
  have w := (ht.2.2.1.1 t a t2 ea).2
  have w1 : NRx 3 I1 J1 (I2 45) := w.cp cpe (fun i hi => by rw [q i hi, u.1.1 63 (by omega)])
  exact ⟨tr_k ht.1 u.1 u.2 m, w1.m m PK.rf PQ.rf, (ht.2.2.1.u u.1).m m, by rw [m.2.1.1 0 (by omega), z0, m13, u.1.1 43 (by omega)]; exact ht.2.2.2⟩
theorem house_q {S : Nat × (Nat → Int32)} {d : Nat} {Q : Int32 → rI0 → rJ0 → Prop} (h : INV n x I J) (ht : RLx x I J) (k : ∀ r1 I1 J1, wcI S (d + 47) 181 [.ref 43] x I1 J1 (fun r2 I2 J2 => r1 = r2 ∧ INV (n + 1) x I2 J2 ∧ RLx x I2 J2) → Q r1 I1 J1) : wcI S (d + 47) 101 [.ref 0] x I J Q := by
  obtain ⟨m, hm, em⟩ := h.1.1
  obtain ⟨v, I1, J1, ⟨c, u, e1⟩, ev⟩ := ev_of (houseP (S := S) (d := d + 17) (x := x) (Q := fun _ I1 J1 => CV I1 J1 ∧ U43 I J I1 J1 ∧ I1 1 1 = 0) h.1 (fun r I' J' c u e => ⟨c, u, e⟩))
  have hE := houseE (S := S) (d := d + 17) (x := x) (J := J) (S' := S) (d' := d + 37) (x' := x) (I' := I1) (J' := J1) (Q := fun v I2 J2 => HOut S (d + 37) x I J I1 J1 v I2 J2) hm em (by rw [u.1 43 (by omega), ← ht.1.1]; exact em) (fun i hi => by rw [u.1 44 (by omega)]; exact ht.1.2 i hi) (fun v I2 J2 g => g)
  have key : HOut S (d + 37) x I J I1 J1 v I1 J1 := by
    obtain ⟨v', I1', J1', ⟨⟨e0, e2, e3⟩, g⟩, -⟩ := ev_of (wcI_and (ev (fun v' a c => v' = v ∧ a = I1 ∧ c = J1) ⟨rfl, rfl, rfl⟩) hE)
    subst e0 e2 e3
    exact g
  obtain ⟨I2, J2, e09, al, ev2⟩ := key
  refine ev _ (k _ _ _ ?_)
  refine wcI_mono (wcI_and (ev2 (fun w a c => w = v ∧ a = I2 ∧ c = J2) ⟨rfl, rfl, rfl⟩) (mHouse (S := S) (d := d + 39) (x := x) (Q := fun _ I3 J3 => Mf I1 J1 0 I3 J3) ((h.c c u).2.1.mq0) (fun r I3 J3 m => m))) (fun r I3 J3 g => ?_)
  obtain ⟨⟨g1, g2, g3⟩, g4⟩ := g
  subst g1 g2 g3
  refine ⟨rfl, (h.c c u).m g4, tr_v ht.1 u e1 g4, ?_, (ht.2.2.1.u u).m g4, by rw [g4.2.1.1 0 (by omega)]; exact e09⟩
  rcases al with ⟨-, al, a45⟩ | ⟨-, al, al2⟩
  · have w : NRx 3 I1 J1 (I1 45) := ht.2.1.mv (fun b hb => (al b (by omega) (by omega)).1) (al 4 (by omega) (by omega)).2 (by rw [u.1 45 (by omega)]; exact PK.rf) (by rw [u.1 45 (by omega)]; exact PQ.rf)
    exact w.m g4 (by rw [a45]; exact PK.rf) (by rw [a45]; exact PQ.rf)
  · exact NRx.m ⟨al, al2⟩ g4 PK.rf PQ.rf
theorem cues_q {S : Nat × (Nat → Int32)} {d : Nat} {Q : Int32 → rI0 → rJ0 → Prop} (h : INV n x I J) (ht : RLx x I J) (k : ∀ r1 I1 J1, wcI S (d + 47) 193 [.ref 43] x I1 J1 (fun r2 I2 J2 => r1 = r2 ∧ INV (n + 1) x I2 J2 ∧ RLx x I2 J2) → Q r1 I1 J1) : wcI S (d + 47) 107 [.ref 0] x I J Q := by
  obtain ⟨m, hm, em⟩ := h.1.1
  obtain ⟨v, I1, J1, c, ev⟩ := ev_of (zCues (S := S) (x := x) (Q := fun _ I1 J1 => CW I J 0 I1 J1) h.1.cz (fun r I' J' c => c) : wcI S (d + 47) 107 [.ref 0] x I J _)
  have u := c.2.1
  have hE := cuesE (S := S) (d := d + 36) (x := x) (J := J) (S' := S) (d' := d + 41) (x' := x) (I' := I1) (J' := J1) (Q := fun v I2 J2 => J2 = J ∧ CuOut S (d + 41) x I I1 J1 v I2) hm em (by rw [u.1 43 (by omega), ← ht.1.1]; exact em) (fun i hi => by rw [u.1 44 (by omega)]; exact ht.1.2 i hi) (by rw [u.1 45 (by omega)]; exact ht.2.1.1) (fun v I2 g => ⟨rfl, g⟩)
  have key : J1 = J ∧ CuOut S (d + 41) x I I1 J1 v I1 := by
    obtain ⟨v', I1', J1', ⟨⟨e0, e2, e3⟩, g⟩, -⟩ := ev_of (wcI_and (ev (fun v' a c => v' = v ∧ a = I1 ∧ c = J1) ⟨rfl, rfl, rfl⟩) hE)
    subst e0 e2 e3
    exact g
  obtain ⟨-, I2, J2, e09, al, ev2⟩ := key
  refine ev _ (k _ _ _ ?_)
  refine wcI_mono (wcI_and (ev2 (fun w a c => w = v ∧ a = I2 ∧ c = J2) ⟨rfl, rfl, rfl⟩) (mCues (S := S) (d := d + 43) (x := x) (Q := fun _ I3 J3 => Mc I1 J1 0 I3 J3) ((h.c c.1 u).2.1.mq0) (fun r I3 J3 m => m))) (fun r I3 J3 g => ?_)
  obtain ⟨⟨g1, g2, g3⟩, g4⟩ := g
  subst g1 g2 g3
  have w1 : NRw 3 I1 J1 (I1 45) := ht.2.1.1.mv (fun b hb => c.2.2.2.1 b (by omega)) c.2.2.2.2 (by rw [u.1 45 (by omega)]; exact PK.rf)
  have w2 : NRw 3 I3 J3 (I3 45) := w1.mv (fun b hb => g4.1.2.1.1 b (by omega)) (g4.1.2.2 4 (by omega)) g4.2
  refine ⟨rfl, (h.c c.1 u).m g4.1, tr_v ht.1 u c.2.2.1 g4.1, ⟨w2, ?_⟩, (ht.2.2.1.u u).m g4.1, by rw [g4.1.2.1.1 0 (by omega)]; exact e09⟩
  have f3 : ∀ b, b < 43 → I3 b = I1 b := fun b hb => g4.1.2.1.1 b (by omega)
  rcases al with ⟨-, al, a45⟩ | ⟨-, al⟩
  · refine ht.2.1.2.mv (fun b hb => (f3 b (by omega)).trans (al b (by omega) (by omega))) ?_
    rw [a45, u.1 45 (by omega)]
    exact PQ.rf
  · exact al.mv (fun b hb => f3 b (by omega)) PQ.rf
end OP0
end
section
/-! everything alike: the relation, and what makes it -/
section OR0
variable {S : Nat × (Nat → Int32)} {d n : Nat} {x : mX} {I I' I1 I2 : rI0} {J J' J1 J2 : rJ0} {g : Nat → Int32} {W : Nat → lV}
theorem b5_ge {p : Int64} {s : Nat} (h : 64 ≤ s) : bits5 p s = false := BitVec.getLsbD_of_ge _ _ h
/-- the evening at t -/
def EV (t : Nat) (I : rI0) (J : rJ0) (g : Nat → Int32) (p h : Int64) : Prop := NX t I J g ∧ CG g ∧ J t 5 = p ∧ J t 6 = h ∧ ∀ s, bits5 p s = true → seB g s = true
/-- the kept evenings -/
def KP (x : mX) (I : rI0) (J : rJ0) : Prop := ∀ k a, k < 2 → x.2.1 27 k = some a → EV a I J (fun i => I 63 (681 * k + i)) (J 64 k) (J 65 k)
/-- what other calls told last -/
def TRs (I : rI0) (J : rJ0) : Prop := I 37 8 = I 43 48 ∧ (∃ n a, WR n a I J) ∧ ((I 43 55 = 0 ∧ I 37 9 = -1 ∧ I 37 10 = -1 ∧ I 37 11 = -1) ∨ (¬ I 43 55 = 0 ∧ I 60 0 = I 37 9 ∧ I 60 1 = I 37 10 ∧ I 60 2 = I 37 11)) ∧ I 0 10 = I 43 63
def NTw (W : Nat → lV) (x : mX) (I : rI0) (J : rJ0) : Prop := EV 3 I J (I 45) (J 43 16) (J 43 17) ∧ KP x I J ∧ TRs I J ∧ (I 43 30 = 0 → AR (I 45) J) ∧ HM (I 45) W I J ∧ LR (I 45) W ∧ DI (I 45) W (bits5 (J 3 5)) (bits5 (J 3 6)) I J
def RX (x : mX) (I : rI0) (J : rJ0) : Prop := RLx x I J ∧ ∃ W, NTw W x I J
theorem gn_i {k m : Nat} (h : g k = nI m) (hm : m < 2 ^ 31) : gN g k = m := by
  unfold gN
  rw [h, nI_tn hm]
/-! the house's numbers -/
theorem nr_n {t : Nat} (h : NRw t I J g) : (∃ R C, R ≤ 8 ∧ C ≤ 8 ∧ I (t + 1) 0 = nI R ∧ I (t + 1) 1 = nI C ∧ gN g 0 = R ∧ gN g 1 = C ∧ g 0 = nI R ∧ g 1 = nI C ∧ ∀ s, s < 64 → R * C ≤ s → ¬ SB (J (t + 1) 5) s) ∧ (∃ v, 1 ≤ v ∧ v ≤ 64 ∧ I (t + 1) 2 = nI v ∧ gN g 3 = v ∧ g 3 = nI v) ∧ (∃ v, v ≤ 600 ∧ I (t + 1) 3 = nI v ∧ gN g 4 = v ∧ g 4 = nI v) ∧ (∃ v, v ≤ 1 ∧ I (t + 1) 4 = nI v ∧ gN g 5 = v ∧ g 5 = nI v) := by
  obtain ⟨⟨R, C, hR, hC, a1, a2, a3, a4, a5⟩, -, -, -, ⟨e1, e2, ⟨v, v1, v2, v3, v4⟩, ⟨w, w1, w2, w3⟩⟩, -⟩ := h
  refine ⟨⟨R, C, hR, hC, a1, a3, gn_i a2 (by omega), gn_i a4 (by omega), a2, a4, a5⟩, ⟨v, v1, v2, v3, gn_i v4 (by omega), v4⟩, ⟨w, w1, w2, gn_i w3 (by omega), w3⟩, ?_⟩
  rcases e1 with e1 | e1
  · exact ⟨0, by omega, e1, gn_i (m := 0) (e2.trans e1) (by omega), e2.trans e1⟩
  · exact ⟨1, by omega, e1, gn_i (m := 1) (e2.trans e1) (by omega), e2.trans e1⟩
theorem nr_s {t : Nat} (h : NRw t I J g) : ∀ s, s < 64 → bits5 (J (t + 1) 5) s = seB g s := by
  intro s hs
  have k := h.2.1 s hs
  unfold seB
  rw [decide_eq_true hs, Bool.true_and]
  by_cases z : 0 < (g (6 + s)).toInt
  · rw [decide_eq_true z]
    exact k.mpr z
  · rw [decide_eq_false z]
    exact Bool.eq_false_iff.mpr (fun y => z (k.mp y))
theorem mk_ga {t : Nat} (h : NRw t I J g) (hx : NX t I J g) (hc : CG g) : GA g := by
  obtain ⟨⟨R, C, hR, hC, -, -, e0, e1, -, -, no⟩, -, ⟨w, hw, -, e4, -⟩, ⟨u, hu, -, e5, -⟩⟩ := nr_n h
  obtain ⟨c1, c2, c3⟩ := hc
  refine ⟨by omega, by omega, by omega, by omega, fun s hs => ⟨?_, (hx.1 s hs).1⟩, c1, fun i hi => ?_, fun i j hij hj => ?_⟩
  · have hl := seB_l hs
    rw [e0, e1]
    have b := nr_s h s hl
    rw [hs] at b
    exact Nat.lt_of_not_le (fun z => no s hl z b)
  · obtain ⟨⟨-, a1⟩, ⟨-, a2⟩, a3, -⟩ := c3 i hi
    exact ⟨a1, a2, fun z => (a3 z).2⟩
  · by_cases z : i = j
    · rw [z]
      exact Nat.le_refl _
    · exact (c3 j hj).2.2.2 i (by omega)
theorem mk_gi {t : Nat} (h : NRw t I J g) (hw : HW g) (hc : CG g) : GI g := by
  obtain ⟨⟨R, C, hR, hC, -, -, e0, e1, g0, g1, -⟩, ⟨v, -, -, -, e3, g3⟩, ⟨w, -, -, e4, g4⟩, ⟨u, -, -, e5, g5⟩⟩ := nr_n h
  obtain ⟨-, -, pr, lv, -, -⟩ := h
  refine ⟨fun k hk => ?_, fun s hs => ?_, fun r hr => ?_, hc.2.1, fun i hi => ?_⟩
  · rcases (show k = 0 ∨ k = 1 ∨ k = 2 ∨ k = 3 ∨ k = 4 ∨ k = 5 by omega) with z | z | z | z | z | z <;> subst z
    · rw [e0]; exact g0
    · rw [e1]; exact g1
    · have a := g2_n hw
      have n64 := nb_le (p := seB g) 64
      rw [gn_i a (by omega)]
      exact a
    · rw [e3]; exact g3
    · rw [e4]; exact g4
    · rw [e5]; exact g5
  · have a := hw.2.2.1 s hs
    have e : g (6 + s) = nI (gN g (6 + s)) := by
      rw [← Int32.toInt_inj, nI_toInt (by unfold gN; omega)]
      unfold gN
      omega
    exact ⟨e, by unfold gN; omega⟩
  · obtain ⟨⟨m, hm, em⟩, ep⟩ := pr r hr
    obtain ⟨el, eg⟩ := lv r hr
    have e1 : g (70 + r) = nI m := ep.trans em
    have e2 : ∃ q, q ≤ 601 ∧ g (78 + r) = nI q := by
      rcases el with el | ⟨q, hq, eq⟩
      · exact ⟨0, by omega, eg.trans (by rw [el]; decide)⟩
      · exact ⟨q + 1, by omega, eg.trans (by rw [eq, nI_succ])⟩
    obtain ⟨q, hq, e2⟩ := e2
    rw [gn_i e1 (by omega), gn_i e2 (by omega)]
    exact ⟨e1, hm, e2, hq⟩
  · obtain ⟨⟨a1, -⟩, ⟨a2, -⟩, a3, -⟩ := hc.2.2 i hi
    exact ⟨a1, a2, fun z => (a3 z).1⟩
theorem mk_hm (h : NRw 3 I J g) (hu : NCu 3 I g) (hx : NX 3 I J g) (hc : CG g) : ∃ W, HM g W I J ∧ LR g W := by
  obtain ⟨⟨R, C, hR, hC, c0, c1, e0, e1, -, -, -⟩, -, ⟨w, hw, c3, e4, -⟩, ⟨u, hu1, c4, e5, -⟩⟩ := nr_n h
  have se := nr_s h
  obtain ⟨-, -, -, lv, -, lw⟩ := h
  have ex : ∀ l : Nat, ∃ V : lV, l < 12 → tlB g l = true → ∃ sz, 1 ≤ sz ∧ sz ≤ 20 ∧ I 9 l = nI sz ∧ lJ (lO (I 10) 8) (20 * l) sz V ∧ ∃ Rw : List Int32, Rw.length ≤ 40 ∧ g (87 + 42 * l) = nI Rw.length ∧ arr (fun i => g (88 + 42 * l + i)) Rw ∧ rOk Rw V := by
    intro l
    by_cases hl : l < 12
    · rcases lw l hl with ⟨a, c⟩ | ⟨sz, a, c, q1, q2, V, Rw, q3, q4, q5, q6, q7⟩
      · refine ⟨fun _ => false, fun _ ht => ?_⟩
        unfold tlB at ht
        rw [c] at ht
        exact absurd ht (by decide)
      · exact ⟨V, fun _ _ => ⟨sz, q1, q2, a, q3, Rw, q5, q6, q7, q4⟩⟩
    · exact ⟨fun _ => false, fun z => absurd z hl⟩
  obtain ⟨W, hW⟩ := Classical.axiomOfChoice ex
  obtain ⟨n, hn, n1, n2, n3⟩ := hu
  have en : gN g 590 = n := gn_i n2 (by omega)
  refine ⟨W, ⟨?_, ?_, ?_, ?_, se, hx.2.1, fun r hr => ?_, fun l hl => ?_, hx.2.2, ?_, fun i hi => ?_⟩, fun l hl ht => ?_⟩
  · rw [e0]; exact c0
  · rw [e1]; exact c1
  · rw [e4]; exact c3
  · rw [e5]; exact c4
  · obtain ⟨el, eg⟩ := lv r hr
    rcases el with el | ⟨q, hq, eq⟩
    · exact Or.inl ⟨el, gn_i (m := 0) (eg.trans (by rw [el]; decide)) (by omega)⟩
    · exact Or.inr ⟨q, hq, eq, gn_i (m := q + 1) (eg.trans (by rw [eq, nI_succ])) (by omega)⟩
  · rcases lw l hl with ⟨a, c⟩ | ⟨sz, a, c, q⟩
    · refine Or.inl ⟨a, ?_⟩
      unfold tlB
      rw [c]
      decide
    · have t : tlB g l = true := by
        unfold tlB
        have := q.1
        have := q.2.1
        rw [c, nI_toInt (by omega)]
        exact decide_eq_true (by omega)
      obtain ⟨s2, a1, a2, a3, a4, -⟩ := hW l hl t
      exact Or.inr ⟨s2, a1, a2, a3, t, a4⟩
  · rw [en]; exact n1
  · rw [en] at hi
    obtain ⟨m1, m2, m3⟩ := n3 i hi
    obtain ⟨⟨a1, -⟩, ⟨a2, -⟩, a3, -⟩ := hc.2.2 i (by omega)
    exact ⟨m1.trans a1, m2.trans a2, fun z => m3.trans (a3 z).1⟩
  · obtain ⟨sz, -, -, -, -, Rw, q5, q6, q7, q4⟩ := hW l hl ht
    exact ⟨Rw, q5, q6, q7, q4⟩
/-! out of the relation -/
theorem NTw.ce (h : NTw W x I J) (rl : RLx x I J) : CE (I 45) W (bits5 (J 3 5)) (bits5 (J 3 6)) I J := by
  obtain ⟨ev, -, -, -, hm, -, -⟩ := h
  obtain ⟨-, ⟨v, -, v2, v3, v4, -⟩, -, -⟩ := nr_n rl.2.1.1
  exact ⟨mk_ga rl.2.1.1 ev.1 ev.2.1, hm, by rw [ev.2.2.1]; exact ev.2.2.2.2, fun _ _ => rfl, fun _ _ => rfl, by rw [v4]; exact v3, by omega⟩
theorem NTw.rh (h : NTw W x I J) (rl : RLx x I J) (hv : MV I J) : RH (I 45) W I J := ⟨mk_ga rl.2.1.1 h.1.1 h.1.2.1, mk_gi rl.2.1.1 hv.2.1.1 h.1.2.1, hv.2.1.1, h.2.2.2.2.2.1, rfl, h.2.2.2.1⟩
theorem NTw.kd (h : NTw W x I J) : KDs (I 45) I := h.1.1.1
theorem NTw.e6 (h : NTw W x I J) : ∀ s, s < 64 → bits5 (J 43 16) s = bits5 (J 3 5) s := fun s _ => by rw [h.1.2.2.1]
theorem NTw.e7 (h : NTw W x I J) : ∀ s, s < 64 → bits5 (J 43 17) s = bits5 (J 3 6) s := fun s _ => by rw [h.1.2.2.2.1]
theorem NTw.pr (rl : RLx x I J) : ∀ r, r < 8 → I 7 r = nI (gN (I 45) (70 + r)) ∧ gN (I 45) (70 + r) ≤ 999 := fun r hr => by
  obtain ⟨⟨m, hm, em⟩, ep⟩ := rl.2.1.1.2.2.1 r hr
  rw [gn_i (ep.trans em) (by omega)]
  exact ⟨em, hm⟩
theorem NTw.tl (rl : RLx x I J) : ∀ l, l < 12 → 0 ≤ (I 45 (86 + 42 * l)).toInt := fun l hl => by
  rcases rl.2.1.1.2.2.2.2.2 l hl with ⟨-, c⟩ | ⟨sz, -, c, q⟩
  · rw [c]
    decide
  · have := q.2.1
    rw [c, nI_toInt (by omega)]
    omega
/-- the reference's side, where its own rows are as they were -/
theorem RH.mv (h : RH g W I J) (e45 : I1 45 = I 45) (e43 : I1 43 30 = I 43 30) (j : J1 51 = J 51) : RH g W I1 J1 := ⟨h.1, h.2.1, h.2.2.1, h.2.2.2.1, e45.trans h.2.2.2.2.1, fun z => by
  have a := h.2.2.2.2.2 (e43.symm.trans z)
  unfold AR at a ⊢
  rw [j]
  exact a⟩
/-! into the relation -/
theorem EV.mv {t : Nat} {p h : Int64} (v : EV t I J g p h) (hi : I1 (t + 2) = I (t + 2)) (hj : ∀ b, b = t ∨ b = t + 3 ∨ b = t + 8 → J1 b = J b) : EV t I1 J1 g p h := by
  obtain ⟨⟨n1, n2, n3⟩, c, a, b, s⟩ := v
  refine ⟨⟨?_, ?_, ?_⟩, c, ?_, ?_, s⟩
  · rw [hi]; exact n1
  · rw [hj (t + 3) (by omega)]; exact n2
  · rw [hj (t + 8) (by omega)]; exact n3
  · rw [hj t (by omega)]; exact a
  · rw [hj t (by omega)]; exact b
theorem KP.mv (h : KP x I J) (hk : ∀ k a, k < 2 → x.2.1 27 k = some a → 68 ≤ a) (hi : ∀ b, b = 63 ∨ 68 ≤ b → I1 b = I b) (hj : ∀ b, b = 64 ∨ b = 65 ∨ 68 ≤ b → J1 b = J b) : KP x I1 J1 := by
  intro k a h2 e
  have h68 := hk k a h2 e
  rw [hi 63 (Or.inl rfl), hj 64 (Or.inl rfl), hj 65 (Or.inr (Or.inl rfl))]
  exact (h k a h2 e).mv (hi _ (by omega)) (fun b hb => hj b (by omega))
theorem TRs.mv (h : TRs I J) (e37 : ∀ q, 7 ≤ q → q ≤ 11 → I1 37 q = I 37 q) (e40 : I1 40 = I 40) (e43 : ∀ q, q = 48 ∨ q = 52 ∨ q = 55 ∨ q = 63 → I1 43 q = I 43 q) (e60 : I1 60 = I 60) (e59 : J1 59 = J 59) (e53 : J1 43 53 = J 43 53) (e10 : I1 0 10 = I 0 10) : TRs I1 J1 := by
  unfold TRs WR at *
  rw [e37 8 (by omega) (by omega), e37 7 (by omega) (by omega), e37 9 (by omega) (by omega), e37 10 (by omega) (by omega), e37 11 (by omega) (by omega), e40, e43 48 (by omega), e43 52 (by omega), e43 55 (by omega), e43 63 (by omega), e60, e59, e53, e10]
  exact h
theorem NTw.go (h : NTw W x I J) (rl : RLx x I J) (e45 : I2 45 = I 45) (hM : HM (I 45) W I2 J2) (e5 : I2 5 = I 5) (j3 : J2 3 = J 3) (j16 : J2 43 16 = J 43 16) (j17 : J2 43 17 = J 43 17) (kp : ∀ b, b = 63 ∨ 68 ≤ b → I2 b = I b) (kj : ∀ b, b = 64 ∨ b = 65 ∨ 68 ≤ b → J2 b = J b) (tr : TRs I2 J2) (ar : I2 43 30 = 0 → AR (I 45) J2) (di : DI (I 45) W (bits5 (J 3 5)) (bits5 (J 3 6)) I2 J2) : NTw W x I2 J2 := by
  obtain ⟨⟨⟨n1, -, -⟩, c, a, b, s⟩, k, -, -, -, lr, -⟩ := h
  unfold NTw
  rw [e45, j16, j17, j3]
  refine ⟨⟨⟨?_, hM.2.2.2.2.2.1, hM.2.2.2.2.2.2.2.2.1⟩, c, ?_, ?_, s⟩, k.mv (fun k a hk e => (rl.2.2.1.1 k a hk e).1) kp kj, tr, ar, hM, lr, di⟩
  · show ∀ s, seB (I 45) s = true → kdN (I 45) s < 6 ∧ I2 5 s = nI (kdN (I 45) s)
    rw [e5]
    exact n1
  · rw [j3]; exact a
  · rw [j3]; exact b
/-- what the class's asking leaves as it was -/
def AKc (W : Nat → lV) (I : rI0) (J : rJ0) (I' : rI0) (J' : rJ0) : Prop := (∀ b, ¬ ((31 ≤ b ∧ b ≤ 36) ∨ b = 41 ∨ b = 42) → I' b = I b) ∧ (∀ b, ¬ ((31 ≤ b ∧ b ≤ 36) ∨ b = 41 ∨ b = 42) → b ≠ 6 → J' b = J b) ∧ HM (I 45) W I' J' ∧ DI (I 45) W (bits5 (J 3 5)) (bits5 (J 3 6)) I' J'
theorem AKc.fa (h : NTw W x I J) (rl : RLx x I J) (f : FA I J I1 J1) (di : DI (I 45) W (bits5 (J 3 5)) (bits5 (J 3 6)) I1 J1) : AKc W I J I1 J1 := ⟨f.1, fun b hb _ => f.2 b hb, ((h.ce rl).a f).2.1, di⟩
theorem AKc.fv (h : NTw W x I J) (rl : RLx x I J) (f : FV I J I1 J1) : AKc W I J I1 J1 := ⟨fun b hb => f.1 b (by omega) (by omega), fun b hb _ => f.2 b (by omega) (by omega), ((h.ce rl).v f).2.1, h.2.2.2.2.2.2.mv (fun b hb => f.1 b (by omega) (by omega)) (fun b hb => f.2 b (by omega) (by omega))⟩
theorem AKc.fx {P H : Nat → Bool} (e1 : P = bits5 (J 3 5)) (e2 : H = bits5 (J 3 6)) (f : FX (I 45) W P H I J I1 J1) : AKc W I J I1 J1 := by
  subst e1 e2
  exact ⟨fun b hb => f.1 b (by omega), fun b hb h6 => f.2.1 b (by omega) h6, f.2.2.1, f.2.2.2⟩
theorem NTw.ask (h : NTw W x I J) (rl : RLx x I J) (c : AKc W I J I1 J1) (f : FP I1 J1 I2 J2) (r : RH (I 45) W I2 J2) : NTw W x I2 J2 := by
  have f1 : ∀ b, b ≠ 43 → b ≠ 50 → ¬ ((31 ≤ b ∧ b ≤ 36) ∨ b = 41 ∨ b = 42) → I2 b = I b := fun b h1 h2 h3 => (f.1 b h1 h2).trans (c.1 b h3)
  have f3 : ∀ q, q ≠ 0 → q ≠ 30 → ¬ (42 ≤ q ∧ q ≤ 45) → I2 43 q = I 43 q := fun q h1 h2 h3 => (f.2.1 q h1 h2 h3).trans (by rw [c.1 43 (by omega)])
  have j1 : ∀ b, b ≠ 43 → ¬ (51 ≤ b ∧ b ≤ 55) → ¬ (61 ≤ b ∧ b ≤ 62) → ¬ ((31 ≤ b ∧ b ≤ 36) ∨ b = 41 ∨ b = 42) → b ≠ 6 → J2 b = J b := fun b h1 h2 h3 h4 h5 => (f.2.2.1 b h1 h2 h3).trans (c.2.1 b h4 h5)
  have j3 : ∀ q, ¬ (36 ≤ q ∧ q ≤ 41) → J2 43 q = J 43 q := fun q h1 => (f.2.2.2 q h1).trans (by rw [c.2.1 43 (by omega) (by omega)])
  refine h.go rl r.2.2.2.2.1 (c.2.2.1.m3 (fun b h1 h2 => f.1 b (by omega) (by omega)) (fun b h1 h2 => f.2.2.1 b (by omega) (by omega) (by omega))) (f1 5 (by omega) (by omega) (by omega)) (j1 3 (by omega) (by omega) (by omega) (by omega) (by omega)) (j3 16 (by omega)) (j3 17 (by omega)) (fun b hb => f1 b (by omega) (by omega) (by omega)) (fun b hb => j1 b (by omega) (by omega) (by omega) (by omega) (by omega)) ?_ r.2.2.2.2.2 (c.2.2.2.mv (fun b hb => f.1 b (by omega) (by omega)) (fun b hb => f.2.2.1 b (by omega) (by omega) (by omega)))
  exact h.2.2.1.mv (fun q _ _ => by rw [f1 37 (by omega) (by omega) (by omega)]) (f1 40 (by omega) (by omega) (by omega)) (fun q hq => f3 q (by omega) (by omega) (by omega)) (f1 60 (by omega) (by omega) (by omega)) (j1 59 (by omega) (by omega) (by omega) (by omega) (by omega)) (j3 53 (by omega)) (by rw [f1 0 (by omega) (by omega) (by omega)])
end OR0
end
