section PF0
variable {S : Nat × (Nat → Int32)} {d : Nat} {x : mX} {I I' : rI0} {J J' : rJ0} {b : Nat → Int32} {n lim p R C : Nat}
def hcF (I I1 : rI0) : Prop := ∀ a, ¬ (a = 16 ∨ a = 17 ∨ (19 ≤ a ∧ a ≤ 22) ∨ a = 28 ∨ a = 29) → I1 a = I a
theorem hcF.rf : hcF I I := fun _ _ => rfl
theorem hcF.tr {I1 I2 : rI0} (h : hcF I I1) (h2 : hcF I1 I2) : hcF I I2 := fun a ha => (h2 a ha).trans (h a ha)
theorem hcF.s {a k : Nat} {v : Int32} (ha : a = 16 ∨ a = 17 ∨ (19 ≤ a ∧ a ≤ 22) ∨ a = 28 ∨ a = 29) : hcF I (mSet I a k v) := fun c hc => mSet_ne (by omega)
theorem hcF.o {I1 : rI0} (h : ∀ a, a ≠ 28 → I1 a = I a) : hcF I I1 := fun a ha => h a (by omega)
def hrF (I : rI0) (J : rJ0) (I2 : rI0) (J2 : rJ0) : Prop := (∀ a, ¬ (a = 43 ∨ a = 46 ∨ a = 48 ∨ a = 49) → I2 a = I a) ∧ (∀ k, ¬ (k = 4 ∨ (9 ≤ k ∧ k ≤ 14) ∨ k = 18 ∨ (20 ≤ k ∧ k ≤ 22) ∨ (26 ≤ k ∧ k ≤ 28)) → I2 43 k = I 43 k) ∧ (∀ a, a ≠ 43 → J2 a = J a) ∧ ∀ k, k ≠ 15 → J2 43 k = J 43 k
theorem hrF.rf : hrF I J I J := ⟨fun _ _ => rfl, fun _ _ => rfl, fun _ _ => rfl, fun _ _ => rfl⟩
theorem hrF.tr {I1 I2 : rI0} {J1 J2 : rJ0} (h : hrF I J I1 J1) (h2 : hrF I1 J1 I2 J2) : hrF I J I2 J2 := ⟨fun a ha => (h2.1 a ha).trans (h.1 a ha), fun k hk => (h2.2.1 k hk).trans (h.2.1 k hk), fun a ha => (h2.2.2.1 a ha).trans (h.2.2.1 a ha), fun k hk => (h2.2.2.2 k hk).trans (h.2.2.2 k hk)⟩
theorem hrF.s {k : Nat} {v : Int32} (hk : k = 4 ∨ (9 ≤ k ∧ k ≤ 14) ∨ k = 18 ∨ (20 ≤ k ∧ k ≤ 22) ∨ (26 ≤ k ∧ k ≤ 28)) : hrF I J (mSet I 43 k v) J := ⟨fun a ha => mSet_ne (by omega), fun j hj => mSet_x (by omega), fun _ _ => rfl, fun _ _ => rfl⟩
theorem hrF.h {k : Nat} {v : Int32} : hrF I J (mSet I 46 k v) J := ⟨fun a ha => mSet_ne (by omega), fun j hj => by rw [mSet_ne (by decide)], fun _ _ => rfl, fun _ _ => rfl⟩
theorem hrF.pf {I2 : rI0} {J2 : rJ0} (h : pFr I J I2 J2) : hrF I J I2 J2 := ⟨fun a ha => h.1 a (by omega) (by omega) (by omega), fun k hk => h.2.1 k (by omega), h.2.2.1, h.2.2.2⟩
theorem hrF.nx {I2 : rI0} {J2 : rJ0} (h : Nf5 I J I2 J2) : hrF I J I2 J2 := hrF.pf (pFr.nx h)
theorem hrF.bd {v : Int32} : hrF I J (bdI I v) J := (hrF.s (by omega)).tr (hrF.s (by omega))
def LOut (b : Nat → Int32) (n lim p : Nat) (I' : rI0) (v : Int32) (I1 I2 : rI0) (J2 : rJ0) : Prop := (v = 0 ∧ ∃ f, ¬ f = 0 ∧ I1 28 8 = f ∧ I2 43 13 = f ∧ I1 28 4 = I2 43 14) ∨ (v = 1 ∧ I2 43 13 = I' 43 13 ∧ ∃ p1 R C, p < p1 ∧ p1 ≤ n ∧ Tck b n lim p1 I1 ∧ I1 28 8 = 0 ∧ Nck b n lim p1 I2 J2 ∧ HRl R C I1 I2)
def RefL (b : Nat → Int32) (n lim p : Nat) (I' : rI0) (J' : rJ0) (v : Int32) (I1 : rI0) : Prop := ∀ (S : Nat × (Nat → Int32)) (d : Nat) (x : mX) (Q' : Int32 → rI0 → rJ0 → Prop), (∀ I2 J2, hrF I' J' I2 J2 → LOut b n lim p I' v I1 I2 J2 → Q' v I2 J2) → wcI S (d + 9) 167 [.ref 43] x I' J' Q'
theorem lo0 {f : Int32} {I' I1 I2 : rI0} {J2 : rJ0} {q : Nat} (hf : ¬ f = 0) (e8 : I1 28 8 = f) (e13 : I2 43 13 = f) (e4 : I1 28 4 = nI q) (e14 : I2 43 14 = nI q) : LOut b n lim p I' 0 I1 I2 J2 := Or.inl ⟨rfl, f, hf, e8, e13, e4.trans e14.symm⟩
theorem hasR {m r : Nat} {Q : Int32 → rI0 → rJ0 → Prop} (hm : m < 256) (hr : r < 8) (k1 : m.testBit r = true → Q 1 I J) (k0 : ¬ m.testBit r = true → Q 0 I J) : wcI S d 152 [.int (nI m), .int (nI r)] x I J Q :=
  c152 ⟨fun z => k1 ((hbt_n hm hr).mp z), fun z => k0 (fun q => z ((hbt_n hm hr).mpr q))⟩
theorem row_c {v R : Nat} (hv : v ≤ 999) (hR : R ≤ 8) : (nI v < 0 ∨ nI R - 1 < nI v) ↔ ¬ v < R := by
  have e : (nI R - 1).toInt = (R : Int) - 1 := i_sub (nI_toInt (by omega)) (by decide) (by omega)
  rw [Int32.lt_iff_toInt_lt, Int32.lt_iff_toInt_lt, e, nI_toInt (by omega), show (0 : Int32).toInt = 0 by decide]
  omega
/-- takesRow(): the reference's -/
theorem uV_e (b : Nat → Int32) (n lim p : Nat) : ∃ v, uK b n lim p = 3 → v ≤ 999 ∧ uV b n p = nI v := by
  by_cases z : uK b n lim p = 3
  · obtain ⟨v, h1, h2⟩ := uV_b z
    exact ⟨v, fun _ => ⟨h1, h2⟩⟩
  · exact ⟨0, fun q => absurd q z⟩
theorem rowR {m v : Nat} {Q : Int32 → rI0 → rJ0 → Prop} (hv : uK b n lim (uE b n lim p) = 3 → v ≤ 999 ∧ uV b n (uE b n lim p) = nI v) (u : Nck b n lim p I J) (hR : R ≤ 8) (h0 : I 46 0 = nI R) (hm : m < 256)
    (k1 : ¬ uK b n lim (uE b n lim p) = 3 → ∀ I1 J1, hrF I J I1 J1 → I1 43 13 = 1 → I1 43 14 = nI (uA b n lim (uE b n lim p)) → Q 0 I1 J1)
    (k2 : uK b n lim (uE b n lim p) = 3 → ¬ v < R → ∀ I1 J1, hrF I J I1 J1 → I1 43 13 = 2 → I1 43 14 = nI (uA b n lim (uE b n lim p)) → Q 0 I1 J1)
    (k3 : uK b n lim (uE b n lim p) = 3 → v < R → m.testBit v = true → ∀ I1 J1, hrF I J I1 J1 → I1 43 13 = 3 → I1 43 14 = nI (uA b n lim (uE b n lim p)) → Q 0 I1 J1)
    (k4 : uK b n lim (uE b n lim p) = 3 → v < R → ¬ m.testBit v = true → ∀ I1 J1, Nck b n lim (uE b n lim (uE b n lim p)) I1 J1 → (∀ a, a ≠ 43 → I1 a = I a) → hrF I J I1 J1 → (∀ k, k = 13 ∨ (20 ≤ k ∧ k ≤ 22) → I1 43 k = I 43 k) → I1 43 18 = nI v → Q 1 I1 J1) : wcI S (d + 2) 169 [.ref 43, .int (nI m)] x I J Q := by
  refine c169_43 (nextS u.2.1 (fun I1 J1 f1 t1 => ?_))
  have r0 : I1 46 ((0 : Int32).toNatClampNeg) = nI R := by
    show I1 46 0 = _
    rw [f1.1 46 (by decide)]
    exact h0
  refine ⟨fun z => ⟨by decide, ?_⟩, fun z => badR ⟨Or.inl rfl, k1 (fun q => z (by rw [t1.2.2.1, q]; rfl)) _ _ ((hrF.nx f1).tr hrF.bd) rfl t1.2.2.2.1⟩⟩
  have z : uK b n lim (uE b n lim p) = 3 := tokOf_3.mp (t1.2.2.1.symm.trans z)
  obtain ⟨hv, ev⟩ := hv z
  have e12 : I1 43 12 = nI v := (t1.2.2.2.2.2.1 z).trans ev
  rw [r0, e12]
  refine ⟨fun y => ?_, fun y => badR ⟨Or.inl rfl, k2 z (fun q => y (nI_lt q (by omega))) _ _ ((hrF.nx f1).tr hrF.bd) rfl t1.2.2.2.1⟩⟩
  have y : v < R := by
    rcases Nat.lt_or_ge v R with w | w
    · exact w
    · exact absurd y (nI_nlt w (by omega))
  refine hasR hm (by omega) (fun w => ⟨fun q => absurd q (by decide), fun _ => badR ⟨Or.inl rfl, k3 z y w _ _ ((hrF.nx f1).tr hrF.bd) rfl t1.2.2.2.1⟩⟩) (fun w => ⟨fun _ => ?_, fun q => absurd rfl q⟩)
  refine nextS (t1.2.1.mv t1.2.1.2.2.1 (mSet_ne (by decide)) rfl rfl t1.2.1.2.2.2.2.2.2) (fun I2 J2 f2 t2 => k4 z y w I2 J2 t2 (fun a ha => by rw [f2.1 a ha, mSet_ne ha, f1.1 a ha]) ((hrF.nx f1).tr ((hrF.s (by omega)).tr (hrF.nx f2))) (fun k q1 => by rw [f2.2.1 k (by omega), mSet_x (by omega), f1.2.1 k (by omega)]) ?_)
  rw [f2.2.1 18 (by omega)]
  exact e12
/-- the class's row number -/
theorem rowC {v : Nat} {e : Int32} {Q : Int32 → rI0 → rJ0 → Prop} (hv : uK b n lim p = 3 → v ≤ 999 ∧ uV b n p = nI v) (t : Tck b n lim p I) (h8 : I 28 8 = 0) (hR : R ≤ 8) (e1 : e = nI R - 1)
    (k1 : ¬ uK b n lim p = 3 → Q 0 (mSet I 28 8 1) J)
    (k2 : uK b n lim p = 3 → ¬ v < R → Q 0 (mSet I 28 8 2) J)
    (k3 : uK b n lim p = 3 → v < R → I 28 6 = nI v → Q 1 I J) : wcI S d 76 [.ref 28, .int (0 : Int32), .int e] x I J Q := by
  subst e1
  refine withinS t h8 k1 (fun z y => ?_) (fun z y1 y2 e6 => ?_)
  · obtain ⟨h1, h2⟩ := hv z
    rw [h2] at y
    exact k2 z ((row_c h1 hR).mp y)
  · obtain ⟨h1, h2⟩ := hv z
    rw [h2] at y1 y2 e6
    refine k3 z ?_ e6
    rcases Nat.lt_or_ge v R with w | w
    · exact w
    · rcases (row_c h1 hR).mpr (by omega) with q | q
      · exact absurd q y1
      · exact absurd q y2
/-- a number within 0 .. hi, where hi is at least 999 or below: both sides -/
theorem numC {v lo hi : Nat} {Q : Int32 → rI0 → rJ0 → Prop} (hv : uK b n lim p = 3 → v ≤ 999 ∧ uV b n p = nI v) (t : Tck b n lim p I) (h8 : I 28 8 = 0) (hh : lo ≤ 999 ∧ hi ≤ 999)
    (k1 : ¬ uK b n lim p = 3 → Q 0 (mSet I 28 8 1) J)
    (k2 : uK b n lim p = 3 → ¬ (lo ≤ v ∧ v ≤ hi) → Q 0 (mSet I 28 8 2) J)
    (k3 : uK b n lim p = 3 → lo ≤ v ∧ v ≤ hi → ∀ I', (∀ a, a ≠ 28 → I' a = I a) → I' 28 7 = nI v → I' 28 8 = 0 → Tck b n lim (uE b n lim p) I' → Q 1 I' J) : wcI S (d + 1) 77 [.ref 28, .int (nI lo), .int (nI hi)] x I J Q := by
  refine takeS t h8 k1 (fun z y => ?_) (fun z y1 y2 I' a1 a2 a3 a4 => ?_)
  · obtain ⟨h1, h2⟩ := hv z
    rw [h2] at y
    refine k2 z (fun q => ?_)
    rcases y with y | y
    · exact absurd y (nI_nlt q.1 (by omega))
    · exact absurd y (nI_nlt q.2 (by omega))
  · obtain ⟨h1, h2⟩ := hv z
    rw [h2] at y1 y2 a2
    refine k3 z ⟨?_, ?_⟩ I' a1 a2 a3 a4
    · rcases Nat.lt_or_ge v lo with w | w
      · exact absurd (nI_lt w (by omega)) y1
      · exact w
    · rcases Nat.lt_or_ge hi v with w | w
      · exact absurd (nI_lt w (by omega)) y2
      · exact w
theorem numR {v lo hi : Nat} {Q : Int32 → rI0 → rJ0 → Prop} (hv : uK b n lim p = 3 → v ≤ 999 ∧ uV b n p = nI v) (u : Nck b n lim p I J) (hh : lo ≤ 999 ∧ hi ≤ 999)
    (k1 : ¬ uK b n lim p = 3 → Q 0 (bdI I 1) J)
    (k2 : uK b n lim p = 3 → ¬ (lo ≤ v ∧ v ≤ hi) → Q 0 (bdI I 2) J)
    (k3 : uK b n lim p = 3 → lo ≤ v ∧ v ≤ hi → ∀ I' J', Nf5 (mSet I 43 18 (nI v)) J I' J' → Nck b n lim (uE b n lim p) I' J' → Q 1 I' J') : wcI S (d + 2) 166 [.ref 43, .int (nI lo), .int (nI hi)] x I J Q := by
  refine takesR u k1 (fun z y => ?_) (fun z y1 y2 I' J' a1 a2 => ?_)
  · obtain ⟨h1, h2⟩ := hv z
    rw [h2] at y
    refine k2 z (fun q => ?_)
    rcases y with y | y
    · exact absurd y (nI_nlt q.1 (by omega))
    · exact absurd y (nI_nlt q.2 (by omega))
  · obtain ⟨h1, h2⟩ := hv z
    rw [h2] at y1 y2 a1
    refine k3 z ⟨?_, ?_⟩ I' J' a1 a2
    · rcases Nat.lt_or_ge v lo with w | w
      · exact absurd (nI_lt w (by omega)) y1
      · exact w
    · rcases Nat.lt_or_ge hi v with w | w
      · exact absurd (nI_lt w (by omega)) y2
      · exact w
theorem lnPrice {Q : Int32 → rI0 → rJ0 → Prop} (h : HRl R C I I') (t : Tck b n lim p I) (h8 : I 28 8 = 0) (u : Nck b n lim p I' J') (hw : uW b n lim p = 482955846501) (k : ∀ v I1, hcF I I1 → RefL b n lim p I' J' v I1 → Q v I1 J) : wcI S (d + 3) 44 [.ref 29] x I J Q := by
  obtain ⟨ha, hp, hl, ho, ht⟩ := h
  have hR := ha.1
  have h460 := ha.2.2.2.2.2.1
  have g1 := uE_le (b := b) (lim := lim) t.1
  have g2 := uE_le (b := b) (lim := lim) g1.2
  have g3 := uE_le (b := b) (lim := lim) g2.2
  obtain ⟨v, hv⟩ := uV_e b n lim (uE b n lim p)
  obtain ⟨y, hy⟩ := uV_e b n lim (uE b n lim (uE b n lim p))
  have pg := (uE_gt (b := b) (n := n) (lim := lim) (p := p) (fun q => by rw [uW_n (by rw [q]; decide)] at hw; exact absurd hw (by decide)) (fun q => by rw [uW_n (by rw [q]; decide)] at hw; exact absurd hw (by decide))).1
  obtain ⟨⟨m, hm, em, em'⟩, hpr⟩ := hp
  -- the reference up to the row's number
  have rr : ∀ {S : Nat × (Nat → Int32)} {d : Nat} {x : mX} {Q' : Int32 → rI0 → rJ0 → Prop}, wcI S (d + 8) 169 [.ref 43, .int (nI m)] x I' J' (fun r17 I17 J17 => ((r17 = (0 : Int32) → Q' (0 : Int32) I17 J17) ∧ (¬ r17 = (0 : Int32) → (wcI S (d + 8) 166 [.ref 43, .int (0 : Int32), .int (999 : Int32)] x (mSet I17 43 20 ((I17 43 20) ||| ((1 : Int32) <<< (I17 43 18 &&& 31)))) J17 (fun r18 I18 J18 => ((r18 = (0 : Int32) → Q' (0 : Int32) I18 J18) ∧ (¬ r18 = (0 : Int32) → (¬ mOut ((70 : Int32) + (I17 43 18)) 590 ∧ Q' (1 : Int32) (mSet I18 46 (((70 : Int32) + (I17 43 18)).toNatClampNeg) (I18 43 18)) J18))))))) ) → wcI S (d + 9) 167 [.ref 43] x I' J' Q' := fun kk => c167_43 (wordR (by decide) u (fun q => absurd (hw.symm.trans q) (by decide)) (fun _ => ⟨fun _ => wordR (by decide) u (fun q => absurd (hw.symm.trans q) (by decide)) (fun _ => ⟨fun _ => wordR (by decide) u (fun q => absurd (hw.symm.trans q) (by decide)) (fun _ => ⟨fun _ => wordR (by decide) u (fun _ => ⟨fun q => absurd q (by decide), fun _ => (by rw [em']; exact kk)⟩) (fun q => absurd hw q), fun q => absurd rfl q⟩), fun q => absurd rfl q⟩), fun q => absurd rfl q⟩))
  refine c44_29 (readS t.2.1 (fun I1 o1 t1 => ?_))
  have e8 : I1 28 8 = 0 := (o1.2 8 (by omega)).trans h8
  have eR : I1 16 0 = nI R := by rw [o1.1 16 (by decide)]; exact ha.2.2.2.2.1
  refine rowC (R := R) hv t1 e8 hR (by rw [eR]) (fun z => ⟨fun _ => k 0 _ ((hcF.o o1.1).tr (hcF.s (by omega))) (fun S d x Q' kk => rr ?_), fun q => absurd rfl q⟩) (fun z y => ⟨fun _ => k 0 _ ((hcF.o o1.1).tr (hcF.s (by omega))) (fun S d x Q' kk => rr ?_), fun q => absurd rfl q⟩) (fun z yv e6 => ⟨fun q => absurd q (by decide), fun _ => ?_⟩)
  · exact rowR (R := R) hv u hR h460 hm (fun _ I2 J2 f2 a13 a14 => ⟨fun _ => kk I2 J2 f2 (lo0 (f := 1) (by decide) rfl a13 t1.2.2.2.1 a14), fun q => absurd rfl q⟩) (fun q => absurd q z) (fun q => absurd q z) (fun q => absurd q z)
  · exact rowR (R := R) hv u hR h460 hm (fun q => absurd z q) (fun _ _ I2 J2 f2 a13 a14 => ⟨fun _ => kk I2 J2 f2 (lo0 (f := 2) (by decide) rfl a13 t1.2.2.2.1 a14), fun q => absurd rfl q⟩) (fun _ q => absurd q y) (fun _ q => absurd q y)
  · have em1 : I1 29 3 = nI m := by rw [o1.1 29 (by decide)]; exact em
    rw [e6, em1]
    refine ⟨fun w => ?_, fun w => ?_⟩
    · have w : ¬ m.testBit v = true := (hcu_n hm (by omega)).mp w
      have om := or_n hm (r := v) (by omega)
      rw [om.1]
      refine readS t1.2.1.s29 (fun I2 o2 t2 => ?_)
      have e82 : I2 28 8 = 0 := by rw [o2.2 8 (by omega), mSet_ne (by decide)]; exact e8
      have f2 : hcF I I2 := (hcF.o o1.1).tr ((hcF.s (by omega)).tr (hcF.o o2.1))
      refine numC (lo := 0) (hi := 999) hy t2 e82 (by omega) (fun z2 => ⟨fun _ => k 0 _ (f2.tr (hcF.s (by omega))) (fun S d x Q' kk => rr ?_), fun q => absurd rfl q⟩) (fun z2 q => absurd ⟨Nat.zero_le _, (hy z2).1⟩ q) (fun z2 yy I3 o3 e7 e83 t3 => ⟨fun q => absurd q (by decide), fun _ => ⟨nI_in (by omega) (by omega), k 1 _ (f2.tr ((hcF.o o3).tr (hcF.s (by omega)))) (fun S d x Q' kk => rr ?_)⟩⟩)
      · refine rowR (R := R) hv u hR h460 hm (fun q => absurd z q) (fun _ q => absurd yv q) (fun _ _ q => absurd q w) (fun _ _ _ I4 J4 n4 _ f4 g4 e18 => ⟨fun q => absurd q (by decide), fun _ => ?_⟩)
        exact numR (lo := 0) (hi := 999) hy (n4.cg (mSet_ne (by decide)) (fun k hk => mSet_x (by omega))) (by omega) (fun _ => ⟨fun _ => kk _ _ (f4.tr ((hrF.s (by omega)).tr hrF.bd)) (lo0 (f := 1) (by decide) rfl rfl t2.2.2.2.1 n4.2.2.2.1), fun q => absurd rfl q⟩) (fun q => absurd q z2) (fun q => absurd q z2)
      · refine rowR (R := R) hv u hR h460 hm (fun q => absurd z q) (fun _ q => absurd yv q) (fun _ _ q => absurd q w) (fun _ _ _ I4 J4 n4 a4 f4 g4 e18 => ⟨fun q => absurd q (by decide), fun _ => ?_⟩)
        have e20 : I4 43 20 ||| ((1 : Int32) <<< (I4 43 18 &&& 31)) = nI (m ||| 2 ^ v) := by rw [g4 20 (by omega), em', e18, om.1]
        refine numR (lo := 0) (hi := 999) hy (n4.cg (mSet_ne (by decide)) (fun k hk => mSet_x (by omega))) (by omega) (fun q => absurd z2 q) (fun _ q => absurd yy q) (fun _ _ I5 J5 f5 n5 => ⟨fun q => absurd q (by decide), fun _ => ⟨by rw [e18]; show ¬ mOut (nI 70 + nI v) 590; rw [nI_add]; exact nI_in (by omega) (by omega), ?_⟩⟩)
        have ix : ((70 : Int32) + I4 43 18).toNatClampNeg = 70 + v := by
          rw [e18]
          show (nI 70 + nI v).toNatClampNeg = _
          rw [nI_add, nI_clamp (by omega)]
        have e518 : I5 43 18 = nI y := f5.2.1 18 (by omega)
        rw [ix, e518]
        refine kk _ _ (f4.tr ((hrF.s (by omega)).tr ((hrF.s (by omega)).tr ((hrF.nx f5).tr hrF.h)))) (Or.inr ⟨rfl, (by rw [mSet_ne (by decide), f5.2.1 13 (by omega), mSet_x (by omega), mSet_x (by omega)]; exact g4 13 (by omega)), _, R, C, by omega, g3.2, t3.o (mSet_ne (by decide)) (mSet_ne (by decide)), by rw [mSet_ne (by decide)]; exact e83, n5.cg (mSet_ne (by decide)) (fun k hk => by rw [mSet_ne (by decide)]), ?_⟩)
        rw [nI_clamp (by omega), e7]
        have r46 : ∀ k, I5 46 k = I' 46 k := fun k => by rw [f5.1 46 (by decide), mSet_ne (by decide), mSet_ne (by decide), a4 46 (by decide)]
        have r43 : ∀ k, 21 ≤ k → k ≤ 22 → I5 43 k = I' 43 k := fun k q1 q2 => by rw [f5.2.1 k (by omega), mSet_x (by omega), mSet_x (by omega), g4 k (by omega)]
        have c1 : ∀ a, a ≠ 28 → a ≠ 29 → I3 a = I a := fun a q1 q2 => by rw [o3 a q1, o2.1 a q1, mSet_ne q2, o1.1 a q1]
        have c29 : ∀ k, k ≠ 3 → I3 29 k = I 29 k := fun k q => by rw [o3 29 (by decide), o2.1 29 (by decide), mSet_x (by omega), o1.1 29 (by decide)]
        refine ⟨ha.cg ?_ ?_ ?_ ?_, ⟨⟨m ||| 2 ^ v, om.2, ?_, ?_⟩, ?_⟩, hl.cg ?_ ?_ ?_, ho.cg ?_ ?_ ?_ ?_, ht.cg ?_ ?_ ?_⟩
        · rw [mSet_ne (by decide), c1 16 (by decide) (by decide)]
        · rw [mSet_ne (by decide), c1 16 (by decide) (by decide)]
        · intro s _; rw [mSet_ne (by decide), c1 17 (by decide) (by decide)]
        · intro k q1 q2; rw [mSet_x (by omega), r46]
        · rw [mSet_ne (by decide), o3 29 (by decide), o2.1 29 (by decide)]; rfl
        · rw [mSet_ne (by decide), f5.2.1 20 (by omega), mSet_x (by omega)]; exact e20
        · intro r hr
          by_cases q : r = v
          · subst q
            have l1 : (mSet I3 19 r (nI y)) 19 r = nI y := by unfold mSet va_up; rw [if_pos rfl, if_pos rfl]
            have l2 : (mSet I5 46 (70 + r) (nI y)) 46 (70 + r) = nI y := by unfold mSet va_up; rw [if_pos rfl, if_pos rfl]
            rw [l1, l2]
            exact ⟨⟨y, yy.2, rfl⟩, rfl⟩
          · rw [mSet_x (by omega), mSet_x (by omega), r46, c1 19 (by decide) (by decide)]
            exact hpr r hr
        · rw [mSet_ne (by decide)]; exact r43 21 (by omega) (by omega)
        · rw [mSet_ne (by decide), c1 20 (by decide) (by decide)]
        · intro k q1 q2; rw [mSet_x (by omega), r46]
        · intro k q; rw [mSet_ne (by decide), c29 k (by omega)]
        · intro k q1 q2; rw [mSet_ne (by decide), c1 16 (by decide) (by decide)]
        · rw [mSet_ne (by decide)]; exact r43 22 (by omega) (by omega)
        · intro k q1 q2; rw [mSet_x (by omega), r46]
        · rw [mSet_ne (by decide), c1 21 (by decide) (by decide)]
        · rw [mSet_ne (by decide), c1 22 (by decide) (by decide)]
        · intro k q1 q2; rw [mSet_x (by omega), r46]
    · have w : m.testBit v = true := by
        by_cases q : m.testBit v = true
        · exact q
        · exact absurd ((hcu_n hm (by omega)).mpr q) w
      refine failS ⟨Or.inl rfl, k 0 _ ((hcF.o o1.1).tr (hcF.s (by omega))) (fun S d x Q' kk => rr ?_)⟩
      exact rowR (R := R) hv u hR h460 hm (fun q => absurd z q) (fun _ q => absurd yv q) (fun _ _ _ I2 J2 f2 a13 a14 => ⟨fun _ => kk I2 J2 f2 (lo0 (f := 3) (by decide) rfl a13 t1.2.2.2.1 a14), fun q => absurd rfl q⟩) (fun _ _ q => absurd w q)
end PF0
