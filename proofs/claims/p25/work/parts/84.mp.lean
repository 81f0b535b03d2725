section MP0
variable {S : Nat × (Nat → Int32)} {d : Nat} {x : mX} {I I0 : rI0} {J J0 : rJ0} {Tl : Int32 × Option Int32} {R C : Int}
def fo : Nat → Int64
  | 0 => 1
  | j + 1 => fo j * (nI (j + 2)).toInt64
theorem fo_nz : ∀ j, j < 8 → ¬ fo j = 0 := by decide +kernel
theorem ord_lp {p : Int32} {Q : Int64 → rI0 → rJ0 → Prop} (hp : p.toInt ≤ 1000) (k : ∀ r : Int64, (p.toInt ≤ 8 → ¬ r = 0) → Q r I J) : ∀ m j : Nat, (p.toInt - (j : Int)).toNat = m → j ≤ 1000 → (j = 0 ∨ (j : Int) + 1 ≤ p.toInt) → wp S d 223 4 [some (.int p), some (.long (fo j)), none, some (.int (nI (j + 2)))] [] (wv x I J) (rJ x Q) := by
  intro m
  induction m with
  | zero =>
    intro j hm hj h0
    have t : (nI (j + 2)).toInt = (j : Int) + 2 := by rw [nI_toInt (by omega)]; omega
    refine v223_4 ⟨fun _ => k _ (fun h8 => fo_nz j (by omega)), fun q => ?_⟩
    have := i_nlt q
    omega
  | succ m ih =>
    intro j hm hj h0
    have t : (nI (j + 2)).toInt = (j : Int) + 2 := by rw [nI_toInt (by omega)]; omega
    refine v223_4 ⟨fun _ => k _ (fun h8 => fo_nz j (by omega)), fun q => ?_⟩
    have := i_nlt q
    have e := ih (j + 1) (by omega) (by omega) (Or.inr (by omega))
    rw [show nI (j + 2) + (1 : Int32) = nI (j + 1 + 2) from (nI_succ (j + 2)).symm]
    exact e
theorem mOrders {p0 : Int32} {Q : Int64 → rI0 → rJ0 → Prop} (hp : p0.toInt ≤ 1000) (k : ∀ r : Int64, (p0.toInt ≤ 8 → ¬ r = 0) → Q r I J) : wcJ S d 223 [.int p0] x I J Q := c223 (ord_lp hp k _ 0 rfl (by omega) (Or.inl rfl))
theorem cnt_congr {g g' : Nat → Int32} : ∀ n, (∀ v, v < n → (0 < (g (6 + v)).toInt ↔ 0 < (g' (6 + v)).toInt)) → cnt g n = cnt g' n := by
  intro n
  induction n with
  | zero => intro _; rfl
  | succ n ih =>
    intro h
    show cnt g n + _ = cnt g' n + _
    rw [ih (fun v hv => h v (by omega))]
    by_cases z : 0 < (g (6 + n)).toInt
    · rw [if_pos z, if_pos ((h n (by omega)).mp z)]
    · rw [if_neg z, if_neg (fun y => z ((h n (by omega)).mpr y))]
theorem cok_congr {c c' : Nat → Int32} {n : Nat} (h : ∀ j, c' j = c j) (o : cok c n) : cok c' n := by
  have e : c' = c := funext h
  rw [e]
  exact o
theorem HW.ch {g g' : Nat → Int32} (h : HW g) {a b : Nat} (ha : 6 ≤ a ∧ a < 70) (hb : 6 ≤ b ∧ b < 70) (ka : 1 ≤ (g a).toInt) (kb : 1 ≤ (g b).toInt) (e : ∀ i, g' i = if i = b then g a else if i = a then g b else g i) : HW g' := by
  obtain ⟨h0, h1, h2, h3, h4, h5⟩ := h
  have f : ∀ i, ¬ (6 ≤ i ∧ i < 70) → g' i = g i := fun i hi => by rw [e i, if_neg (by omega), if_neg (by omega)]
  have k0 : ∀ i, 6 ≤ i ∧ i < 70 → 0 ≤ (g i).toInt ∧ (g i).toInt ≤ 6 := fun i hi => by
    have := h2 (i - 6) (by omega)
    rw [show 6 + (i - 6) = i by omega] at this
    exact this
  have p : ∀ i, (0 < (g i).toInt ↔ 0 < (g' i).toInt) := by
    intro i
    rw [e i]
    split
    · rename_i z
      subst z
      exact ⟨fun _ => by omega, fun _ => by omega⟩
    · split
      · rename_i z
        subst z
        exact ⟨fun _ => by omega, fun _ => by omega⟩
      · exact Iff.rfl
  refine ⟨by rw [f 0 (by omega)]; exact h0, by rw [f 1 (by omega)]; exact h1, fun v hv => ?_, ?_, fun v hv hz => ?_, fun l hl => ?_⟩
  · rw [e (6 + v)]
    split
    · exact k0 a ha
    · split
      · exact k0 b hb
      · exact h2 v hv
  · rw [f 2 (by omega), h3]
    exact cnt_congr 64 (fun v _ => p (6 + v))
  · rw [f 0 (by omega), f 1 (by omega)] at hz
    have z := h4 v hv hz
    have w := p (6 + v)
    have u : 0 ≤ (g' (6 + v)).toInt := by
      rw [e (6 + v)]
      split
      · exact (k0 a ha).1
      · split
        · exact (k0 b hb).1
        · exact (h2 v hv).1
    rcases (show (g' (6 + v)).toInt = 0 ∨ 0 < (g' (6 + v)).toInt by omega) with y | y
    · exact y
    · have := w.mpr y
      omega
  · have w := h5 l hl
    refine ⟨by rw [f _ (by omega)]; exact w.1, ?_⟩
    rw [f (87 + 42 * l) (by omega)]
    exact cok_congr (fun j => f _ (by omega)) w.2
theorem Mz_.ch (h : Mz_ I0 J0 Tl R C I J) {a b : Nat} (ha : 6 ≤ a ∧ a < 70) (hb : 6 ≤ b ∧ b < 70) (ka : 1 ≤ (I 45 a).toInt) (kb : 1 ≤ (I 45 b).toInt) : Mz_ I0 J0 Tl R C (mSet (mSet I 45 a (I 45 b)) 45 b (I 45 a)) J := by
  obtain ⟨⟨m, ⟨a1, a2⟩, b1, c1, e1, f1, g1⟩, e0, e2, u, w⟩ := h
  have e : ∀ i, (mSet (mSet I 45 a (I 45 b)) 45 b (I 45 a)) 45 i = if i = b then I 45 a else if i = a then I 45 b else I 45 i := by
    intro i
    unfold mSet va_up
    rw [if_pos rfl, if_pos rfl]
  have f : ∀ i, ¬ (6 ≤ i ∧ i < 70) → (mSet (mSet I 45 a (I 45 b)) 45 b (I 45 a)) 45 i = I 45 i := fun i hi => by rw [e i, if_neg (by omega), if_neg (by omega)]
  refine ⟨⟨m, ⟨a1.ch ha hb ka kb e, ?_⟩, b1, c1, e1, f1, g1⟩, ?_, ?_, ⟨⟨fun q hq => ?_, ?_⟩, ⟨u.2.1.1.tr ⟨fun i _ => f i, fun v hv => ?_⟩, fun i hi hj => (f i (by omega)).trans (u.2.1.2 i hi hj)⟩, u.2.2⟩, w⟩
  · rw [f 590 (by omega)]; exact a2
  · rw [f 0 (by omega)]; exact e0
  · rw [f 1 (by omega)]; exact e2
  · rw [mSet_ne (by omega), mSet_ne (by omega)]; exact u.1.1 q hq
  · rw [mSet_ne (by decide), mSet_ne (by decide)]; exact u.1.2
  · rw [e (6 + v)]
    split
    · rename_i z
      rw [z]
      exact ⟨fun _ => by omega, fun _ => by omega⟩
    · split
      · rename_i z
        rw [z]
        exact ⟨fun _ => by omega, fun _ => by omega⟩
      · exact Iff.rfl
theorem mChange {p q : Int32} {Q : rI0 → rJ0 → Prop} (h : Mz_ I0 J0 Tl R C I J) (hp : (0 ≤ p.toInt ∧ p.toInt < 64 ∧ 1 ≤ (I 45 ((6 : Int32) + p).toNatClampNeg).toInt) ∧ (0 ≤ q.toInt ∧ q.toInt < 64 ∧ 1 ≤ (I 45 ((6 : Int32) + q).toNatClampNeg).toInt)) (k : ∀ I' J', Mz_ I0 J0 Tl R C I' J' → (I' 45 ((6 : Int32) + p).toNatClampNeg = I 45 ((6 : Int32) + q).toNatClampNeg ∧ I' 45 ((6 : Int32) + q).toNatClampNeg = I 45 ((6 : Int32) + p).toNatClampNeg) → I' 43 = I 43 → Q I' J') : wcV S d 232 [.ref 43, .int p, .int q] x I J Q := by
  have l : (6 : Int32).toInt = 6 := by decide
  have tp := i_add (a := 6) (b := p) l rfl (by omega)
  have tq := i_add (a := 6) (b := q) l rfl (by omega)
  have cp := i_cl ((6 : Int32) + p) (by omega)
  have cq := i_cl ((6 : Int32) + q) (by omega)
  rw [tp] at cp
  rw [tq] at cq
  refine c232_43 ⟨i_in tp (by omega), i_in tq (by omega), i_in tp (by omega), i_in tq (by omega), k _ _ (h.ch (by omega) (by omega) hp.1.2.2 hp.2.2.2) ⟨?_, ?_⟩ rfl⟩
  · unfold mSet va_up
    rw [if_pos rfl, if_pos rfl]
    split
    · rename_i z
      rw [z]
    · rw [if_pos rfl]
  · unfold mSet va_up
    rw [if_pos rfl, if_pos rfl]
theorem r64 {a b : Int64} (h : ¬ b = 0) : (a - a / b * b).toInt.natAbs < b.toInt.natAbs := by
  have e : (a - a / b * b).toInt = a.toInt.tmod b.toInt := by
    have h1 := Int64.le_toInt (a % b)
    have h2 := Int64.toInt_lt (a % b)
    rw [Int64.toInt_mod] at h1 h2
    rw [Int64.toInt_sub, Int64.toInt_mul, Int64.toInt_div, Int.bmod_mul_bmod, Int.sub_bmod_bmod, Int.mul_comm (a.toInt.tdiv b.toInt), ← Int.tmod_def]
    exact Int.bmod_eq_of_le_mul_two (by omega) (by omega)
  rw [e, Int.natAbs_tmod]
  have hb : ¬ b.toInt = 0 := fun z => h (Int64.toInt_inj.mp z)
  exact Nat.mod_lt _ (by omega)
theorem gcdm_lp {l1 l2 : Int32} {Q : Int32 → rI0 → rJ0 → Prop} (h1 : ¬ mOut l1 8) (k : ∀ r, Q r I J) : ∀ (n : Nat) (l3 l5 : Int64), l3.toInt.natAbs = n → ¬ l5 = 0 → wp S (d + 1) 225 71 [some (.ref 43), some (.int l1), some (.int l2), some (.long l3), none, some (.long l5), none, none, none] [] (wv x I J) (rI x Q) := by
  refine lpn ?_
  intro n ih l3 l5 hn h5
  refine v225_43_71 ⟨fun _ => ⟨fun _ => ⟨h1, h5, k _⟩, fun _ => ⟨h5, k _⟩⟩, fun q => ?_⟩
  have nz : ¬ l3 = 0 := fun z => q (lg_z.mpr z)
  refine ⟨nz, ih _ ?_ (l5 - l5 / l3 * l3) l3 rfl nz⟩
  rw [← hn]
  exact r64 nz
theorem mThr2 {p : Int32} {Q : Int32 → rI0 → rJ0 → Prop} (h : Mz_ I0 J0 Tl R C I J) (hp : p = 0 ∨ p = 1) (k : ∀ I', Mz_ I0 J0 Tl R C I' J → (∀ k, k ≠ 0 → I' 43 k = I 43 k) → Q p I' J) : wcI S d 146 [.ref 43, .int p] x I J Q := by
  rcases hp with rfl | rfl
  · exact c146_43 ⟨fun _ => ⟨Or.inl rfl, k _ (h.si (by decide)) (fun k hk => mSet_x (by omega))⟩, fun z => absurd rfl z⟩
  · exact c146_43 ⟨fun z => absurd z (by decide), fun _ => ⟨Or.inr rfl, k _ (h.si (by decide)) (fun k hk => mSet_x (by omega))⟩⟩
theorem mWorthOf {p1 p2 : Int32} {Q : Int32 → rI0 → rJ0 → Prop} (h : Mz_ I0 J0 Tl R C I J) (k : ∀ r I' J', Mz_ I0 J0 Tl R C I' J' → Q r I' J') : wcI S (d + 1) 225 [.ref 43, .int p1, .int p2] x I J Q := by
  have b2 := h.bn2
  have thr : wp S (d + 1) 225 29 [some (.ref 43), some (.int p1), some (.int p2), none, none, none, none, none, none] [.int (1 : Int32), .ref 43] (wv x I J) (rI x Q) := v225_43_29 (mThr2 h (Or.inr rfl) (fun I' h' _ => ⟨fun z => absurd z (by decide), fun _ => k _ _ _ h'⟩))
  refine c225_43 (mIn (fun r1 g1 => ⟨fun _ => thr, fun n1 => mIn (fun r2 g2 => ⟨fun _ => thr, fun n2 => v225_43_29 (mThr2 h (Or.inl rfl) (fun I' h' o => ⟨fun _ => ?_, fun z => absurd rfl z⟩))⟩)⟩))
  have l1 : (1 : Int32).toInt = 1 := by decide
  have l0 : (0 : Int32).toInt = 0 := by decide
  have ts := i_sub (a := I 43 52) (b := 1) rfl l1 (by omega)
  have n1 := i_ne n1
  have m1 : ¬ mOut p1 8 := i_in (e := p1) rfl (by omega)
  have nz : ¬ J 43 53 = 0 := h.1.2.2.2.2.2.1 (by omega)
  exact ⟨m1, fun _ => ⟨m1, gcdm_lp m1 (fun r => k r _ _ h') _ _ _ rfl nz⟩, fun _ => ⟨m1, gcdm_lp m1 (fun r => k r _ _ h') _ _ _ rfl nz⟩⟩
theorem Mz_.s52 {v : Int32} {w : Int64} (h : Mz_ I0 J0 Tl R C I J) (hv : 0 ≤ v.toInt ∧ v.toInt ≤ 8) (hw : ¬ w = 0) : Mz_ I0 J0 Tl R C (mSet I 43 52 v) (mSet J 43 53 w) := by
  obtain ⟨⟨m, a1, b1, c1, e1, f1, g1⟩, e0, e2, u, q⟩ := h
  obtain ⟨n1, n2, n3, n4, n5, n6, -⟩ := m
  exact ⟨⟨⟨n1, n2, n3, n4, n5, n6, hv⟩, a1, b1, c1, e1, fun _ => hw, g1⟩, e0, e2, u.s (by omega), fun b hb => by rw [mSet_ne (by omega)]; exact q b hb⟩
theorem mDraw {p : Int32} {Q : Int32 → rI0 → rJ0 → Prop} (h : Mz_ I0 J0 Tl R C I J) (hp : 1 ≤ p.toInt) (k : ∀ r I' J', Mz_ I0 J0 Tl R C I' J' → (0 ≤ r.toInt ∧ r.toInt < p.toInt) → I' 45 = I 45 → Q r I' J') : wcI S d 241 [.ref 43, .int p] x I J Q := by
  refine c241_43 ⟨i_n0 (e := p) rfl (by omega), k _ _ _ (h.si (by decide)) ?_ rfl⟩
  obtain ⟨n, hn, e⟩ := rb_us (((I 43 64) * (1103515245 : Int32)) + (12345 : Int32)) 8 8 (2 ^ 24) (by decide) (by decide)
  have hh : 0 ≤ (nI n).toInt := by rw [nI_toInt (by omega)]; omega
  rw [e]
  have := i_rem (a := nI n) (b := p) rfl rfl hh (by omega)
  exact ⟨this.1, this.2.1⟩
end MP0
section MP1
theorem mFault {S : Nat × (Nat → Int32)} {d : Nat} {x : mX} {I0 : rI0} {J0 : rJ0} {Tl : Int32 × Option Int32} {R C : Int} {I : rI0} {J : rJ0} {Q : Int32 → rI0 → rJ0 → Prop} (h : Mz_ I0 J0 Tl R C I J) (k : ∀ r I J, (Mz_ I0 J0 Tl R C I J) → Q r I J) : wcI S (d + 0) 182 [.ref 43] x I J Q := by
  have bh := h.bnd
  refine c182_43 ?_
  exact k _ _ _ (Mz_.si (n := 43) (k := 0) (h) (by decide))
theorem mArranged {S : Nat × (Nat → Int32)} {d : Nat} {x : mX} {I0 : rI0} {J0 : rJ0} {Tl : Int32 × Option Int32} {R C : Int} {I : rI0} {J : rJ0} {Q : Int32 → rI0 → rJ0 → Prop} (h : Mz_ I0 J0 Tl R C I J) (k : ∀ r I J, (Mz_ I0 J0 Tl R C I J) → Q r I J) : wcI S (d + 0) 238 [.ref 43] x I J Q := by
  have bh := h.bnd
  refine c238_43 ?_
  exact k _ _ _ (Mz_.si (n := 43) (k := 0) (h) (by decide))
theorem mBought {S : Nat × (Nat → Int32)} {d : Nat} {x : mX} {I0 : rI0} {J0 : rJ0} {Tl : Int32 × Option Int32} {R C : Int} {I : rI0} {J : rJ0} {Q : Int32 → rI0 → rJ0 → Prop} (h : Mz_ I0 J0 Tl R C I J) (k : ∀ r I J, (Mz_ I0 J0 Tl R C I J) → Q r I J) : wcI S (d + 0) 220 [.ref 43] x I J Q := by
  have bh := h.bnd
  refine c220_43 ?_
  exact k _ _ _ (Mz_.si (n := 43) (k := 0) (h) (by decide))
theorem mBeganAt {S : Nat × (Nat → Int32)} {d : Nat} {x : mX} {I0 : rI0} {J0 : rJ0} {Tl : Int32 × Option Int32} {R C : Int} {I : rI0} {J : rJ0} {p1 : Int32} {Q : Int32 → rI0 → rJ0 → Prop} (h : Mz_ I0 J0 Tl R C I J) (k : ∀ r I J, (Mz_ I0 J0 Tl R C I J) → Q r I J) : wcI S (d + 0) 230 [.ref 43, .int p1] x I J Q := by
  have bh := h.bnd
  refine c230_43 ?_
  have t1 : TI (0 : Int32) (0) := show (0 : Int32).toInt = 0 by decide
  refine ⟨fun q2 => ?_, fun q2 => ?_⟩
  · have c3 := j_eq q2 (ti_r (e := p1)) t1
    exact k _ _ _ (Mz_.si (n := 43) (k := 0) (h) (by decide))
  · have c4 := j_ne q2 (ti_r (e := p1)) t1
    have t5 : TI (1 : Int32) (1) := show (1 : Int32).toInt = 1 by decide
    refine ⟨fun q6 => ?_, fun q6 => ?_⟩
    · have c7 := j_eq q6 (ti_r (e := p1)) t5
      exact k _ _ _ (Mz_.si (n := 43) (k := 0) (h) (by decide))
    · have c8 := j_ne q6 (ti_r (e := p1)) t5
      exact k _ _ _ (Mz_.si (n := 43) (k := 0) (h) (by decide))
theorem mSide {S : Nat × (Nat → Int32)} {d : Nat} {x : mX} {I0 : rI0} {J0 : rJ0} {Tl : Int32 × Option Int32} {R C : Int} {I : rI0} {J : rJ0} {p1 : Int32} {Q : Int32 → rI0 → rJ0 → Prop} (h : Mz_ I0 J0 Tl R C I J) (k : ∀ r I J, (Mz_ I0 J0 Tl R C I J) → Q r I J) : wcI S (d + 1) 227 [.ref 43, .int p1] x I J Q := by
  have bh := h.bnd
  refine c227_43 ?_
  have t1 : TI (0 : Int32) (0) := show (0 : Int32).toInt = 0 by decide
  refine ⟨fun q2 => ?_, fun q2 => ?_⟩
  · have c3 := j_eq q2 (ti_r (e := (I 43 55))) t1
    exact k _ _ _ (Mz_.si (n := 43) (k := 0) (h) (by decide))
  · have c4 := j_ne q2 (ti_r (e := (I 43 55))) t1
    have t5 : TI (2 : Int32) (2) := show (2 : Int32).toInt = 2 by decide
    refine mIn  ?_
    intro r1 g1a
    try simp only [t1.o, t5.o] at g1a
    refine ⟨fun q6 => ?_, fun q6 => ?_⟩
    · have c7 := j_eq q6 (ti_r (e := r1)) t1
      exact k _ _ _ (Mz_.si (n := 43) (k := 0) (h) (by decide))
    · have c8 := j_ne q6 (ti_r (e := r1)) t1
      refine ⟨?_, ?_⟩
      · exact jj_in (e := (p1)) (A := p1.toInt) ti_r (by omega)
      exact k _ _ _ (Mz_.si (n := 43) (k := 0) (h) (by decide))
theorem mCount {S : Nat × (Nat → Int32)} {d : Nat} {x : mX} {I0 : rI0} {J0 : rJ0} {Tl : Int32 × Option Int32} {R C : Int} {I : rI0} {J : rJ0} {p1 : Int32} {Q : Int32 → rI0 → rJ0 → Prop} (h : Mz_ I0 J0 Tl R C I J) (k : ∀ r I J, (Mz_ I0 J0 Tl R C I J) → Q r I J) : wcI S (d + 1) 245 [.ref 43, .int p1] x I J Q := by
  have bh := h.bnd
  refine c245_43 ?_
  have t1 : TI (0 : Int32) (0) := show (0 : Int32).toInt = 0 by decide
  have t2 : TI (5 : Int32) (5) := show (5 : Int32).toInt = 5 by decide
  refine mIn  ?_
  intro r1 g1a
  try simp only [t1.o, t2.o] at g1a
  refine ⟨fun q3 => ?_, fun q3 => ?_⟩
  · have c4 := j_eq q3 (ti_r (e := r1)) t1
    have t5 : TI (6 : Int32) (6) := show (6 : Int32).toInt = 6 by decide
    refine ⟨fun q6 => ?_, fun q6 => ?_⟩
    · have c7 := j_eq q6 (ti_r (e := p1)) t5
      refine mBits  ?_
      intro r2 g2a
      exact k _ _ _ (Mz_.si (n := 43) (k := 0) (h) (by decide))
    · have c8 := j_ne q6 (ti_r (e := p1)) t5
      have t9 : TI (7 : Int32) (7) := show (7 : Int32).toInt = 7 by decide
      refine ⟨fun q10 => ?_, fun q10 => ?_⟩
      · have c11 := j_eq q10 (ti_r (e := p1)) t9
        refine mBits  ?_
        intro r3 g3a
        exact k _ _ _ (Mz_.si (n := 43) (k := 0) (h) (by decide))
      · have c12 := j_ne q10 (ti_r (e := p1)) t9
        have t13 : TI (8 : Int32) (8) := show (8 : Int32).toInt = 8 by decide
        refine ⟨fun q14 => ?_, fun q14 => ?_⟩
        · have c15 := j_eq q14 (ti_r (e := p1)) t13
          exact k _ _ _ (Mz_.si (n := 43) (k := 0) (h) (by decide))
        · have c16 := j_ne q14 (ti_r (e := p1)) t13
          have t17 : TI (9 : Int32) (9) := show (9 : Int32).toInt = 9 by decide
          refine ⟨fun q18 => ?_, fun q18 => ?_⟩
          · have c19 := j_eq q18 (ti_r (e := p1)) t17
            have t20 : TI (590 : Int32) (590) := show (590 : Int32).toInt = 590 by decide
            refine ⟨?_, ?_⟩
            · exact jj_in (e := (590 : Int32)) (A := 590) t20 (by omega)
            have t21 : TI (I 45 ((590 : Int32).toNatClampNeg)) (I 45 590).toInt := ti_r (e := I 45 590)
            exact k _ _ _ (Mz_.si (n := 43) (k := 0) (h) (by decide))
          · have c22 := j_ne q18 (ti_r (e := p1)) t17
            exact k _ _ _ (Mz_.si (n := 43) (k := 0) (h) (by decide))
  · have c23 := j_ne q3 (ti_r (e := r1)) t1
    refine ⟨?_, ?_⟩
    · exact jj_in (e := (p1)) (A := p1.toInt) ti_r (by omega)
    exact k _ _ _ (Mz_.si (n := 43) (k := 0) (h) (by decide))
theorem mLaw {S : Nat × (Nat → Int32)} {d : Nat} {x : mX} {I0 : rI0} {J0 : rJ0} {Tl : Int32 × Option Int32} {R C : Int} {I : rI0} {J : rJ0} {p1 : Int32} {p2 : Int32} {Q : Int32 → rI0 → rJ0 → Prop} (h : Mz_ I0 J0 Tl R C I J) (k : ∀ r I J, (Mz_ I0 J0 Tl R C I J) → Q r I J) : wcI S (d + 1) 189 [.ref 43, .int p1, .int p2] x I J Q := by
  have bh := h.bnd
  refine c189_43 ?_
  have t1 : TI (0 : Int32) (0) := show (0 : Int32).toInt = 0 by decide
  have t2 : TI (5 : Int32) (5) := show (5 : Int32).toInt = 5 by decide
  refine mIn  ?_
  intro r1 g1a
  try simp only [t1.o, t2.o] at g1a
  refine ⟨fun q3 => ?_, fun q3 => ?_⟩
  · have c4 := j_eq q3 (ti_r (e := r1)) t1
    exact k _ _ _ (Mz_.si (n := 43) (k := 0) (h) (by decide))
  · have c5 := j_ne q3 (ti_r (e := r1)) t1
    have t6 : TI (1 : Int32) (1) := show (1 : Int32).toInt = 1 by decide
    refine mIn  ?_
    intro r2 g2a
    try simp only [t1.o, t6.o] at g2a
    refine ⟨fun q7 => ?_, fun q7 => ?_⟩
    · have c8 := j_eq q7 (ti_r (e := r2)) t1
      exact k _ _ _ (Mz_.si (n := 43) (k := 0) (h) (by decide))
    · have c9 := j_ne q7 (ti_r (e := r2)) t1
      have t10 : TI (86 : Int32) (86) := show (86 : Int32).toInt = 86 by decide
      have t11 : TI (42 : Int32) (42) := show (42 : Int32).toInt = 42 by decide
      have t12 : TI (2 : Int32) (2) := show (2 : Int32).toInt = 2 by decide
      have t13 : TI ((2 : Int32) * p1) (2 * p1.toInt) := ti_mul t12 ti_r (by omega)
      have t14 : TI (((2 : Int32) * p1) + p2) ((2 * p1.toInt) + p2.toInt) := ti_add t13 ti_r (by omega)
      have t15 : TI ((42 : Int32) * (((2 : Int32) * p1) + p2)) (42 * ((2 * p1.toInt) + p2.toInt)) := ti_mul t11 t14 (by omega)
      have t16 : TI ((86 : Int32) + ((42 : Int32) * (((2 : Int32) * p1) + p2))) (86 + (42 * ((2 * p1.toInt) + p2.toInt))) := ti_add t10 t15 (by omega)
      refine ⟨?_, ?_⟩
      · exact jj_in (e := ((86 : Int32) + ((42 : Int32) * (((2 : Int32) * p1) + p2)))) (A := (86 + (42 * ((2 * p1.toInt) + p2.toInt)))) t16 (by omega)
      obtain ⟨g18, t17⟩ : ∃ r : Int, TI (I 45 (((86 : Int32) + ((42 : Int32) * (((2 : Int32) * p1) + p2))).toNatClampNeg)) r := ⟨_, ti_r⟩
      refine ⟨fun q19 => ?_, fun q19 => ?_⟩
      · have c20 := j_eq q19 t17 t1
        exact k _ _ _ (Mz_.si (n := 43) (k := 0) (h) (by decide))
      · have c21 := j_ne q19 t17 t1
        exact k _ _ _ (Mz_.si (n := 43) (k := 0) (h) (by decide))
theorem mPay {S : Nat × (Nat → Int32)} {d : Nat} {x : mX} {I0 : rI0} {J0 : rJ0} {Tl : Int32 × Option Int32} {R C : Int} {I : rI0} {J : rJ0} {p1 : Int32} {p2 : Int32} {Q : Int32 → rI0 → rJ0 → Prop} (h : Mz_ I0 J0 Tl R C I J) (k : ∀ r I J, (Mz_ I0 J0 Tl R C I J) → Q r I J) : wcI S (d + 2) 190 [.ref 43, .int p1, .int p2] x I J Q := by
  have bh := h.bnd
  refine c190_43 ?_
  obtain ⟨I1, eI1⟩ : ∃ z, z = (mSet I 43 0 (0 : Int32)) := ⟨_, rfl⟩
  rw [← eI1]
  have hI1 : Mz_ I0 J0 Tl R C I1 J := by rw [eI1]; exact (Mz_.si (n := 43) (k := 0) (h) (by decide))
  have zI1_47 : (I1 43 47).toInt = (I 43 47).toInt := by rw [eI1]; exact (ti_r : TI (I 43 47) (I 43 47).toInt)
  have zI1_42 : (I1 43 42).toInt = (I 43 42).toInt := by rw [eI1]; exact (ti_r : TI (I 43 42) (I 43 42).toInt)
  have zI1_63 : (I1 43 63).toInt = (I 43 63).toInt := by rw [eI1]; exact (ti_r : TI (I 43 63) (I 43 63).toInt)
  have zI1_3 : (I1 43 3).toInt = (I 43 3).toInt := by rw [eI1]; exact (ti_r : TI (I 43 3) (I 43 3).toInt)
  have yI1 : I1 45 = I 45 := by rw [eI1]; rfl
  have bhI1 := hI1.bnd
  refine mSeat (hI1) ?_
  intro r1 g1a
  have t2 : TI (0 : Int32) (0) := show (0 : Int32).toInt = 0 by decide
  refine ⟨fun q3 => ?_, fun q3 => ?_⟩
  · have c4 := j_eq q3 (ti_r (e := r1)) t2
    exact k _ _ _ (hI1)
  · have c5 := j_ne q3 (ti_r (e := r1)) t2
    have t6 : TI (1 : Int32) (1) := show (1 : Int32).toInt = 1 by decide
    refine mIn  ?_
    intro r2 g2a
    try simp only [t2.o, t6.o] at g2a
    refine ⟨fun q7 => ?_, fun q7 => ?_⟩
    · have c8 := j_eq q7 (ti_r (e := r2)) t2
      exact k _ _ _ (hI1)
    · have c9 := j_ne q7 (ti_r (e := r2)) t2
      refine ⟨fun q10 => ?_, fun q10 => ?_⟩
      · have c11 := j_eq q10 (ti_r (e := p2)) t6
        exact k _ _ _ (Mz_.sj (n := 43) (k := 16) (hI1) (by decide))
      · have c12 := j_ne q10 (ti_r (e := p2)) t6
        exact k _ _ _ (Mz_.sj (n := 43) (k := 16) (hI1) (by decide))
theorem mHiss {S : Nat × (Nat → Int32)} {d : Nat} {x : mX} {I0 : rI0} {J0 : rJ0} {Tl : Int32 × Option Int32} {R C : Int} {I : rI0} {J : rJ0} {p1 : Int32} {p2 : Int32} {Q : Int32 → rI0 → rJ0 → Prop} (h : Mz_ I0 J0 Tl R C I J) (k : ∀ r I J, (Mz_ I0 J0 Tl R C I J) → Q r I J) : wcI S (d + 2) 191 [.ref 43, .int p1, .int p2] x I J Q := by
  have bh := h.bnd
  refine c191_43 ?_
  obtain ⟨I1, eI1⟩ : ∃ z, z = (mSet I 43 0 (0 : Int32)) := ⟨_, rfl⟩
  rw [← eI1]
  have hI1 : Mz_ I0 J0 Tl R C I1 J := by rw [eI1]; exact (Mz_.si (n := 43) (k := 0) (h) (by decide))
  have zI1_47 : (I1 43 47).toInt = (I 43 47).toInt := by rw [eI1]; exact (ti_r : TI (I 43 47) (I 43 47).toInt)
  have zI1_42 : (I1 43 42).toInt = (I 43 42).toInt := by rw [eI1]; exact (ti_r : TI (I 43 42) (I 43 42).toInt)
  have zI1_63 : (I1 43 63).toInt = (I 43 63).toInt := by rw [eI1]; exact (ti_r : TI (I 43 63) (I 43 63).toInt)
  have zI1_3 : (I1 43 3).toInt = (I 43 3).toInt := by rw [eI1]; exact (ti_r : TI (I 43 3) (I 43 3).toInt)
  have yI1 : I1 45 = I 45 := by rw [eI1]; rfl
  have bhI1 := hI1.bnd
  refine mSeat (hI1) ?_
  intro r1 g1a
  have t2 : TI (0 : Int32) (0) := show (0 : Int32).toInt = 0 by decide
  refine ⟨fun q3 => ?_, fun q3 => ?_⟩
  · have c4 := j_eq q3 (ti_r (e := r1)) t2
    exact k _ _ _ (hI1)
  · have c5 := j_ne q3 (ti_r (e := r1)) t2
    have t6 : TI (1 : Int32) (1) := show (1 : Int32).toInt = 1 by decide
    refine mIn  ?_
    intro r2 g2a
    try simp only [t2.o, t6.o] at g2a
    refine ⟨fun q7 => ?_, fun q7 => ?_⟩
    · have c8 := j_eq q7 (ti_r (e := r2)) t2
      exact k _ _ _ (hI1)
    · have c9 := j_ne q7 (ti_r (e := r2)) t2
      refine ⟨fun q10 => ?_, fun q10 => ?_⟩
      · have c11 := j_eq q10 (ti_r (e := p2)) t6
        exact k _ _ _ (Mz_.sj (n := 43) (k := 17) (hI1) (by decide))
      · have c12 := j_ne q10 (ti_r (e := p2)) t6
        exact k _ _ _ (Mz_.sj (n := 43) (k := 17) (hI1) (by decide))
theorem mSeatP_23 {S : Nat × (Nat → Int32)} {d : Nat} {x : mX} {I0 : rI0} {J0 : rJ0} {Tl : Int32 × Option Int32} {R C : Int} {Q : Int32 → rI0 → rJ0 → Prop} (k : ∀ r I J, (Mz_ I0 J0 Tl R C I J) → Q r I J) : ∀ (l1 : Int32) (l2 : Int32) (s1 : Int32) (I : rI0) (J : rJ0), (Mz_ I0 J0 Tl R C I J) → (s1.toInt = 1 ∨ (s1.toInt = 0 ∧ 0 ≤ l1.toInt ∧ l1.toInt < 64 ∧ 1 ≤ C)) → wp S (d + 2) 187 23 [some (.ref 43), some (.int l1), some (.int l2)] [.int s1, .ref 43] (wv x I J) (rI x Q) := by
  intro l1 l2 s1 I J h e0
  have bh := h.bnd
  refine v187_43_23 ?_
  refine mThr (h) (by omega) ?_
  intro r1 I1 J1 h1 g1a
  have bh1 := h1.bnd
  have t1 : TI (0 : Int32) (0) := show (0 : Int32).toInt = 0 by decide
  refine ⟨fun q2 => ?_, fun q2 => ?_⟩
  · have c3 := j_eq q2 (ti_r (e := r1)) t1
    refine ⟨fun q4 => ?_, fun q4 => ?_, fun q4 => ?_, fun q4 => ?_, fun q4 => ?_, trivial⟩
    · refine mHolds  ?_
      intro r2 g2a
      refine ⟨fun q5 => ?_, fun q5 => ?_⟩
      · have c6 := j_eq q5 (ti_r (e := r2)) t1
        exact k _ _ _ (h1)
      · have c7 := j_ne q5 (ti_r (e := r2)) t1
        exact k _ _ _ (h1)
    · have t8 : TI (6 : Int32) (6) := show (6 : Int32).toInt = 6 by decide
      have t9 : TI ((6 : Int32) + l1) (6 + l1.toInt) := ti_add t8 ti_r (by omega)
      refine ⟨?_, ?_⟩
      · exact jj_in (e := ((6 : Int32) + l1)) (A := (6 + l1.toInt)) t9 (by omega)
      have w10 := Mz_.kt h1 (e := ((6 : Int32) + l1)) (A := (6 + l1.toInt)) t9 (by omega)
      exact k _ _ _ (h1)
    · refine mPrice (h1) (by omega) ?_
      intro r3
      exact k _ _ _ (h1)
    · have t11 : TI (1 : Int32) (1) := show (1 : Int32).toInt = 1 by decide
      refine ⟨?_, ?_⟩
      · exact jj_in (e := (1 : Int32)) (A := 1) t11 (by omega)
      have t12 : TI (I1 45 ((1 : Int32).toNatClampNeg)) (I1 45 1).toInt := ti_r (e := I1 45 1)
      refine ⟨?_, ?_⟩
      · exact jj_n0 (e := (I1 45 ((1 : Int32).toNatClampNeg))) (A := (I1 45 1).toInt) t12 (by omega)
      obtain ⟨g14, t13, bt13⟩ := ti_div (a := (l1)) (b := (I1 45 ((1 : Int32).toNatClampNeg))) (A := l1.toInt) (B := (I1 45 1).toInt) ti_r t12 (by omega) (by omega)
      have t15 : TI (78 : Int32) (78) := show (78 : Int32).toInt = 78 by decide
      have t16 : TI ((78 : Int32) + (l1 / (I1 45 ((1 : Int32).toNatClampNeg)))) (78 + g14) := ti_add t15 t13 (by omega)
      refine ⟨?_, ?_⟩
      · exact jj_in (e := ((78 : Int32) + (l1 / (I1 45 ((1 : Int32).toNatClampNeg))))) (A := (78 + g14)) t16 (by omega)
      exact k _ _ _ (h1)
    · refine mHolds  ?_
      intro r4 g4a
      refine ⟨fun q17 => ?_, fun q17 => ?_⟩
      · have c18 := j_eq q17 (ti_r (e := r4)) t1
        exact k _ _ _ (h1)
      · have c19 := j_ne q17 (ti_r (e := r4)) t1
        exact k _ _ _ (h1)
  · have c20 := j_ne q2 (ti_r (e := r1)) t1
    exact k _ _ _ (h1)
theorem mSeatP {S : Nat × (Nat → Int32)} {d : Nat} {x : mX} {I0 : rI0} {J0 : rJ0} {Tl : Int32 × Option Int32} {R C : Int} {I : rI0} {J : rJ0} {p1 : Int32} {p2 : Int32} {Q : Int32 → rI0 → rJ0 → Prop} (h : Mz_ I0 J0 Tl R C I J) (k : ∀ r I J, (Mz_ I0 J0 Tl R C I J) → Q r I J) : wcI S (d + 2) 187 [.ref 43, .int p1, .int p2] x I J Q := by
  have bh := h.bnd
  refine c187_43 ?_
  refine mSeat (h) ?_
  intro r1 g1a
  have t1 : TI (0 : Int32) (0) := show (0 : Int32).toInt = 0 by decide
  refine ⟨fun q2 => ?_, fun q2 => ?_⟩
  · have c3 := j_eq q2 (ti_r (e := r1)) t1
    have t4 : TI (1 : Int32) (1) := show (1 : Int32).toInt = 1 by decide
    exact mSeatP_23 k p1 p2 ((1 : Int32)) I J (h) (by (try simp only [t4.o, true_or, or_true, true_and, and_true]); first | done | omega)
  · have c5 := j_ne q2 (ti_r (e := r1)) t1
    have t6 : TI (4 : Int32) (4) := show (4 : Int32).toInt = 4 by decide
    refine mIn  ?_
    intro r2 g2a
    try simp only [t1.o, t6.o] at g2a
    refine ⟨fun q7 => ?_, fun q7 => ?_⟩
    · have c8 := j_eq q7 (ti_r (e := r2)) t1
      have t9 : TI (1 : Int32) (1) := show (1 : Int32).toInt = 1 by decide
      exact mSeatP_23 k p1 p2 ((1 : Int32)) I J (h) (by (try simp only [t9.o, true_or, or_true, true_and, and_true]); first | done | omega)
    · have c10 := j_ne q7 (ti_r (e := r2)) t1
      exact mSeatP_23 k p1 p2 ((0 : Int32)) I J (h) (by (try simp only [t1.o, true_or, or_true, true_and, and_true]); first | done | omega)
theorem mCue_33 {S : Nat × (Nat → Int32)} {d : Nat} {x : mX} {I0 : rI0} {J0 : rJ0} {Tl : Int32 × Option Int32} {R C : Int} {Q : Int32 → rI0 → rJ0 → Prop} (k : ∀ r I J, (Mz_ I0 J0 Tl R C I J) → Q r I J) : ∀ (l1 : Int32) (l2 : Int32) (s1 : Int32) (I : rI0) (J : rJ0), (Mz_ I0 J0 Tl R C I J) → (s1.toInt = 1 ∨ (s1.toInt = 0 ∧ 0 ≤ l1.toInt ∧ l1.toInt < 30 ∧ 0 ≤ l2.toInt ∧ l2.toInt ≤ 2)) → wp S (d + 1) 194 33 [some (.ref 43), some (.int l1), some (.int l2)] [.int s1, .ref 43] (wv x I J) (rI x Q) := by
  intro l1 l2 s1 I J h e0
  have bh := h.bnd
  refine v194_43_33 ?_
  refine mThr (h) (by omega) ?_
  intro r1 I1 J1 h1 g1a
  have bh1 := h1.bnd
  have t1 : TI (0 : Int32) (0) := show (0 : Int32).toInt = 0 by decide
  refine ⟨fun q2 => ?_, fun q2 => ?_⟩
  · have c3 := j_eq q2 (ti_r (e := r1)) t1
    have t4 : TI (591 : Int32) (591) := show (591 : Int32).toInt = 591 by decide
    have t5 : TI (3 : Int32) (3) := show (3 : Int32).toInt = 3 by decide
    have t6 : TI ((3 : Int32) * l1) (3 * l1.toInt) := ti_mul t5 ti_r (by omega)
    have t7 : TI ((591 : Int32) + ((3 : Int32) * l1)) (591 + (3 * l1.toInt)) := ti_add t4 t6 (by omega)
    have t8 : TI (((591 : Int32) + ((3 : Int32) * l1)) + l2) ((591 + (3 * l1.toInt)) + l2.toInt) := ti_add t7 ti_r (by omega)
    refine ⟨?_, ?_⟩
    · exact jj_in (e := (((591 : Int32) + ((3 : Int32) * l1)) + l2)) (A := ((591 + (3 * l1.toInt)) + l2.toInt)) t8 (by omega)
    exact k _ _ _ (h1)
  · have c9 := j_ne q2 (ti_r (e := r1)) t1
    exact k _ _ _ (h1)
theorem mCue {S : Nat × (Nat → Int32)} {d : Nat} {x : mX} {I0 : rI0} {J0 : rJ0} {Tl : Int32 × Option Int32} {R C : Int} {I : rI0} {J : rJ0} {p1 : Int32} {p2 : Int32} {Q : Int32 → rI0 → rJ0 → Prop} (h : Mz_ I0 J0 Tl R C I J) (k : ∀ r I J, (Mz_ I0 J0 Tl R C I J) → Q r I J) : wcI S (d + 1) 194 [.ref 43, .int p1, .int p2] x I J Q := by
  have bh := h.bnd
  refine c194_43 ?_
  have t1 : TI (590 : Int32) (590) := show (590 : Int32).toInt = 590 by decide
  refine ⟨?_, ?_⟩
  · exact jj_in (e := (590 : Int32)) (A := 590) t1 (by omega)
  have t2 : TI (I 45 ((590 : Int32).toNatClampNeg)) (I 45 590).toInt := ti_r (e := I 45 590)
  have t3 : TI (0 : Int32) (0) := show (0 : Int32).toInt = 0 by decide
  have t4 : TI (1 : Int32) (1) := show (1 : Int32).toInt = 1 by decide
  have t5 : TI ((I 45 ((590 : Int32).toNatClampNeg)) - (1 : Int32)) ((I 45 590).toInt - 1) := ti_sub t2 t4 (by omega)
  refine mIn  ?_
  intro r1 g1a
  try simp only [t3.o, t5.o] at g1a
  refine ⟨fun q6 => ?_, fun q6 => ?_⟩
  · have c7 := j_eq q6 (ti_r (e := r1)) t3
    exact mCue_33 k p1 p2 ((1 : Int32)) I J (h) (by (try simp only [t4.o, true_or, or_true, true_and, and_true]); first | done | omega)
  · have c8 := j_ne q6 (ti_r (e := r1)) t3
    have t9 : TI (2 : Int32) (2) := show (2 : Int32).toInt = 2 by decide
    refine mIn  ?_
    intro r2 g2a
    try simp only [t3.o, t9.o] at g2a
    refine ⟨fun q10 => ?_, fun q10 => ?_⟩
    · have c11 := j_eq q10 (ti_r (e := r2)) t3
      exact mCue_33 k p1 p2 ((1 : Int32)) I J (h) (by (try simp only [t4.o, true_or, or_true, true_and, and_true]); first | done | omega)
    · have c12 := j_ne q10 (ti_r (e := r2)) t3
      exact mCue_33 k p1 p2 ((0 : Int32)) I J (h) (by (try simp only [t3.o, true_or, or_true, true_and, and_true]); first | done | omega)
theorem mSees {S : Nat × (Nat → Int32)} {d : Nat} {x : mX} {I0 : rI0} {J0 : rJ0} {Tl : Int32 × Option Int32} {R C : Int} {I : rI0} {J : rJ0} {p1 : Int32} {p2 : Int32} {p3 : Int32} {p4 : Int32} {Q : Int32 → rI0 → rJ0 → Prop} (h : Mz_ I0 J0 Tl R C I J) (k : ∀ r I J, (Mz_ I0 J0 Tl R C I J) → Q r I J) : wcI S (d + 6) 204 [.ref 43, .int p1, .int p2, .int p3, .int p4] x I J Q := by
  have bh := h.bnd
  refine c204_43 ?_
  obtain ⟨I1, eI1⟩ : ∃ z, z = (mSet I 43 0 (0 : Int32)) := ⟨_, rfl⟩
  rw [← eI1]
  have hI1 : Mz_ I0 J0 Tl R C I1 J := by rw [eI1]; exact (Mz_.si (n := 43) (k := 0) (h) (by decide))
  have zI1_47 : (I1 43 47).toInt = (I 43 47).toInt := by rw [eI1]; exact (ti_r : TI (I 43 47) (I 43 47).toInt)
  have zI1_42 : (I1 43 42).toInt = (I 43 42).toInt := by rw [eI1]; exact (ti_r : TI (I 43 42) (I 43 42).toInt)
  have zI1_63 : (I1 43 63).toInt = (I 43 63).toInt := by rw [eI1]; exact (ti_r : TI (I 43 63) (I 43 63).toInt)
  have zI1_3 : (I1 43 3).toInt = (I 43 3).toInt := by rw [eI1]; exact (ti_r : TI (I 43 3) (I 43 3).toInt)
  have yI1 : I1 45 = I 45 := by rw [eI1]; rfl
  have bhI1 := hI1.bnd
  refine mSeat (hI1) ?_
  intro r1 g1a
  have t2 : TI (0 : Int32) (0) := show (0 : Int32).toInt = 0 by decide
  refine ⟨fun q3 => ?_, fun q3 => ?_⟩
  · have c4 := j_eq q3 (ti_r (e := r1)) t2
    exact k _ _ _ (hI1)
  · have c5 := j_ne q3 (ti_r (e := r1)) t2
    refine mMoment0  ?_
    intro r2 g2a
    refine ⟨fun q6 => ?_, fun q6 => ?_⟩
    · have c7 := j_eq q6 (ti_r (e := r2)) t2
      exact k _ _ _ (hI1)
    · have c8 := j_ne q6 (ti_r (e := r2)) t2
      have t9 : TI (5 : Int32) (5) := show (5 : Int32).toInt = 5 by decide
      refine mIn  ?_
      intro r3 g3a
      try simp only [t2.o, t9.o] at g3a
      refine ⟨fun q10 => ?_, fun q10 => ?_⟩
      · have c11 := j_eq q10 (ti_r (e := r3)) t2
        exact k _ _ _ (hI1)
      · have c12 := j_ne q10 (ti_r (e := r3)) t2
        have t13 : TI (1 : Int32) (1) := show (1 : Int32).toInt = 1 by decide
        have t14 : TI (2 : Int32) (2) := show (2 : Int32).toInt = 2 by decide
        refine mIn  ?_
        intro r4 g4a
        try simp only [t13.o, t14.o] at g4a
        refine ⟨fun q15 => ?_, fun q15 => ?_⟩
        · have c16 := j_eq q15 (ti_r (e := r4)) t2
          exact k _ _ _ (hI1)
        · have c17 := j_ne q15 (ti_r (e := r4)) t2
          refine mNight (hI1) (by omega) ?_
          intro I5 J5 h5 g5a g5b g5c
          have bh5 := h5.bnd
          have t18 : TI (6 : Int32) (6) := show (6 : Int32).toInt = 6 by decide
          have t19 : TI ((6 : Int32) * p1) (6 * p1.toInt) := ti_mul t18 ti_r (by omega)
          have t20 : TI (((6 : Int32) * p1) + p3) ((6 * p1.toInt) + p3.toInt) := ti_add t19 ti_r (by omega)
          refine ⟨?_, ?_⟩
          · exact jj_in (e := (((6 : Int32) * p1) + p3)) (A := ((6 * p1.toInt) + p3.toInt)) t20 (by omega)
          refine ⟨fun q21 => ?_, fun q21 => ?_⟩
          · have c22 := j_eq q21 (ti_r (e := p4)) t13
            refine mBits  ?_
            intro r6 g6a
            exact k _ _ _ (h5)
          · have c23 := j_ne q21 (ti_r (e := p4)) t13
            refine mBits  ?_
            intro r7 g7a
            exact k _ _ _ (h5)
theorem mAt {S : Nat × (Nat → Int32)} {d : Nat} {x : mX} {I0 : rI0} {J0 : rJ0} {Tl : Int32 × Option Int32} {R C : Int} {I : rI0} {J : rJ0} {p1 : Int32} {p2 : Int32} {p3 : Int32} {Q : Int32 → rI0 → rJ0 → Prop} (h : Mz_ I0 J0 Tl R C I J) (k : ∀ r I J, (Mz_ I0 J0 Tl R C I J) → Q r I J) : wcI S (d + 6) 205 [.ref 43, .int p1, .int p2, .int p3] x I J Q := by
  have bh := h.bnd
  refine c205_43 ?_
  obtain ⟨I1, eI1⟩ : ∃ z, z = (mSet I 43 0 (0 : Int32)) := ⟨_, rfl⟩
  rw [← eI1]
  have hI1 : Mz_ I0 J0 Tl R C I1 J := by rw [eI1]; exact (Mz_.si (n := 43) (k := 0) (h) (by decide))
  have zI1_47 : (I1 43 47).toInt = (I 43 47).toInt := by rw [eI1]; exact (ti_r : TI (I 43 47) (I 43 47).toInt)
  have zI1_42 : (I1 43 42).toInt = (I 43 42).toInt := by rw [eI1]; exact (ti_r : TI (I 43 42) (I 43 42).toInt)
  have zI1_63 : (I1 43 63).toInt = (I 43 63).toInt := by rw [eI1]; exact (ti_r : TI (I 43 63) (I 43 63).toInt)
  have zI1_3 : (I1 43 3).toInt = (I 43 3).toInt := by rw [eI1]; exact (ti_r : TI (I 43 3) (I 43 3).toInt)
  have yI1 : I1 45 = I 45 := by rw [eI1]; rfl
  have bhI1 := hI1.bnd
  refine mSeat (hI1) ?_
  intro r1 g1a
  have t2 : TI (0 : Int32) (0) := show (0 : Int32).toInt = 0 by decide
  refine ⟨fun q3 => ?_, fun q3 => ?_⟩
  · have c4 := j_eq q3 (ti_r (e := r1)) t2
    exact k _ _ _ (hI1)
  · have c5 := j_ne q3 (ti_r (e := r1)) t2
    refine mMoment0  ?_
    intro r2 g2a
    refine ⟨fun q6 => ?_, fun q6 => ?_⟩
    · have c7 := j_eq q6 (ti_r (e := r2)) t2
      exact k _ _ _ (hI1)
    · have c8 := j_ne q6 (ti_r (e := r2)) t2
      have t9 : TI (1 : Int32) (1) := show (1 : Int32).toInt = 1 by decide
      refine mIn  ?_
      intro r3 g3a
      try simp only [t2.o, t9.o] at g3a
      refine ⟨fun q10 => ?_, fun q10 => ?_⟩
      · have c11 := j_eq q10 (ti_r (e := r3)) t2
        exact k _ _ _ (hI1)
      · have c12 := j_ne q10 (ti_r (e := r3)) t2
        refine mNight (hI1) (by omega) ?_
        intro I4 J4 h4 g4a g4b g4c
        have bh4 := h4.bnd
        refine ⟨fun q13 => ?_, fun q13 => ?_⟩
        · have c14 := j_eq q13 (ti_r (e := p3)) t2
          refine mLevel  ?_
          intro r5
          exact k _ _ _ (h4)
        · have c15 := j_ne q13 (ti_r (e := p3)) t2
          refine mHeldOf  ?_
          intro r6
          exact k _ _ _ (h4)
theorem mMany {S : Nat × (Nat → Int32)} {d : Nat} {x : mX} {I0 : rI0} {J0 : rJ0} {Tl : Int32 × Option Int32} {R C : Int} {I : rI0} {J : rJ0} {p1 : Int32} {p2 : Int32} {Q : Int32 → rI0 → rJ0 → Prop} (h : Mz_ I0 J0 Tl R C I J) (k : ∀ r I J, (Mz_ I0 J0 Tl R C I J) → Q r I J) : wcI S (d + 6) 206 [.ref 43, .int p1, .int p2] x I J Q := by
  have bh := h.bnd
  refine c206_43 ?_
  refine mMoment0  ?_
  intro r1 g1a
  have t1 : TI (0 : Int32) (0) := show (0 : Int32).toInt = 0 by decide
  refine ⟨fun q2 => ?_, fun q2 => ?_⟩
  · have c3 := j_eq q2 (ti_r (e := r1)) t1
    exact k _ _ _ (Mz_.si (n := 43) (k := 0) (h) (by decide))
  · have c4 := j_ne q2 (ti_r (e := r1)) t1
    have t5 : TI (2 : Int32) (2) := show (2 : Int32).toInt = 2 by decide
    refine mIn  ?_
    intro r2 g2a
    try simp only [t1.o, t5.o] at g2a
    refine ⟨fun q6 => ?_, fun q6 => ?_⟩
    · have c7 := j_eq q6 (ti_r (e := r2)) t1
      exact k _ _ _ (Mz_.si (n := 43) (k := 0) (h) (by decide))
    · have c8 := j_ne q6 (ti_r (e := r2)) t1
      obtain ⟨I9, eI9⟩ : ∃ z, z = (mSet I 43 0 (0 : Int32)) := ⟨_, rfl⟩
      rw [← eI9]
      have hI9 : Mz_ I0 J0 Tl R C I9 J := by rw [eI9]; exact (Mz_.si (n := 43) (k := 0) (h) (by decide))
      have zI9_47 : (I9 43 47).toInt = (I 43 47).toInt := by rw [eI9]; exact (ti_r : TI (I 43 47) (I 43 47).toInt)
      have zI9_42 : (I9 43 42).toInt = (I 43 42).toInt := by rw [eI9]; exact (ti_r : TI (I 43 42) (I 43 42).toInt)
      have zI9_63 : (I9 43 63).toInt = (I 43 63).toInt := by rw [eI9]; exact (ti_r : TI (I 43 63) (I 43 63).toInt)
      have zI9_3 : (I9 43 3).toInt = (I 43 3).toInt := by rw [eI9]; exact (ti_r : TI (I 43 3) (I 43 3).toInt)
      have yI9 : I9 45 = I 45 := by rw [eI9]; rfl
      have bhI9 := hI9.bnd
      refine mNight (hI9) (by omega) ?_
      intro I3 J3 h3 g3a g3b g3c
      have bh3 := h3.bnd
      refine ⟨fun q10 => ?_, fun q10 => ?_⟩
      · have c11 := j_eq q10 (ti_r (e := p2)) t1
        refine ⟨?_, ?_⟩
        · exact jj_in (e := (2 : Int32)) (A := 2) t5 (by omega)
        have t12 : TI (I3 45 ((2 : Int32).toNatClampNeg)) (I3 45 2).toInt := ti_r (e := I3 45 2)
        exact k _ _ _ (h3)
      · have c13 := j_ne q10 (ti_r (e := p2)) t1
        have t14 : TI (1 : Int32) (1) := show (1 : Int32).toInt = 1 by decide
        refine ⟨fun q15 => ?_, fun q15 => ?_⟩
        · have c16 := j_eq q15 (ti_r (e := p2)) t14
          refine mBits  ?_
          intro r4 g4a
          exact k _ _ _ (h3)
        · have c17 := j_ne q15 (ti_r (e := p2)) t14
          refine mBits  ?_
          intro r5 g5a
          exact k _ _ _ (h3)
theorem mWould {S : Nat × (Nat → Int32)} {d : Nat} {x : mX} {I0 : rI0} {J0 : rJ0} {Tl : Int32 × Option Int32} {R C : Int} {I : rI0} {J : rJ0} {p1 : Int32} {p2 : Int32} {p3 : Int32} {Q : Int32 → rI0 → rJ0 → Prop} (h : Mz_ I0 J0 Tl R C I J) (k : ∀ r I J, (Mz_ I0 J0 Tl R C I J) → Q r I J) : wcI S (d + 6) 207 [.ref 43, .int p1, .int p2, .int p3] x I J Q := by
  have bh := h.bnd
  refine c207_43 ?_
  obtain ⟨I1, eI1⟩ : ∃ z, z = (mSet I 43 0 (0 : Int32)) := ⟨_, rfl⟩
  rw [← eI1]
  have hI1 : Mz_ I0 J0 Tl R C I1 J := by rw [eI1]; exact (Mz_.si (n := 43) (k := 0) (h) (by decide))
  have zI1_47 : (I1 43 47).toInt = (I 43 47).toInt := by rw [eI1]; exact (ti_r : TI (I 43 47) (I 43 47).toInt)
  have zI1_42 : (I1 43 42).toInt = (I 43 42).toInt := by rw [eI1]; exact (ti_r : TI (I 43 42) (I 43 42).toInt)
  have zI1_63 : (I1 43 63).toInt = (I 43 63).toInt := by rw [eI1]; exact (ti_r : TI (I 43 63) (I 43 63).toInt)
  have zI1_3 : (I1 43 3).toInt = (I 43 3).toInt := by rw [eI1]; exact (ti_r : TI (I 43 3) (I 43 3).toInt)
  have yI1 : I1 45 = I 45 := by rw [eI1]; rfl
  have bhI1 := hI1.bnd
  refine mSeat (hI1) ?_
  intro r1 g1a
  have t2 : TI (0 : Int32) (0) := show (0 : Int32).toInt = 0 by decide
  refine ⟨fun q3 => ?_, fun q3 => ?_⟩
  · have c4 := j_eq q3 (ti_r (e := r1)) t2
    exact k _ _ _ (hI1)
  · have c5 := j_ne q3 (ti_r (e := r1)) t2
    refine mMoment0  ?_
    intro r2 g2a
    refine ⟨fun q6 => ?_, fun q6 => ?_⟩
    · have c7 := j_eq q6 (ti_r (e := r2)) t2
      exact k _ _ _ (hI1)
    · have c8 := j_ne q6 (ti_r (e := r2)) t2
      have t9 : TI (1 : Int32) (1) := show (1 : Int32).toInt = 1 by decide
      refine mIn  ?_
      intro r3 g3a
      try simp only [t2.o, t9.o] at g3a
      refine ⟨fun q10 => ?_, fun q10 => ?_⟩
      · have c11 := j_eq q10 (ti_r (e := r3)) t2
        exact k _ _ _ (hI1)
      · have c12 := j_ne q10 (ti_r (e := r3)) t2
        have t13 : TI (6 : Int32) (6) := show (6 : Int32).toInt = 6 by decide
        have t14 : TI ((6 : Int32) + p1) (6 + p1.toInt) := ti_add t13 ti_r (by omega)
        refine ⟨?_, ?_⟩
        · exact jj_in (e := ((6 : Int32) + p1)) (A := (6 + p1.toInt)) t14 (by omega)
        have w15 := Mz_.kt hI1 (e := ((6 : Int32) + p1)) (A := (6 + p1.toInt)) t14 (by omega)
        have t16 : TI (86 : Int32) (86) := show (86 : Int32).toInt = 86 by decide
        have t17 : TI (42 : Int32) (42) := show (42 : Int32).toInt = 42 by decide
        have t18 : TI (2 : Int32) (2) := show (2 : Int32).toInt = 2 by decide
        have t19 : TI ((I1 45 (((6 : Int32) + p1).toNatClampNeg)) - (1 : Int32)) ((I1 45 (((6 : Int32) + p1).toNatClampNeg)).toInt - 1) := ti_sub ti_r t9 (by omega)
        have t20 : TI ((2 : Int32) * ((I1 45 (((6 : Int32) + p1).toNatClampNeg)) - (1 : Int32))) (2 * ((I1 45 (((6 : Int32) + p1).toNatClampNeg)).toInt - 1)) := ti_mul t18 t19 (by omega)
        have t21 : TI (((2 : Int32) * ((I1 45 (((6 : Int32) + p1).toNatClampNeg)) - (1 : Int32))) + p3) ((2 * ((I1 45 (((6 : Int32) + p1).toNatClampNeg)).toInt - 1)) + p3.toInt) := ti_add t20 ti_r (by omega)
        have t22 : TI ((42 : Int32) * (((2 : Int32) * ((I1 45 (((6 : Int32) + p1).toNatClampNeg)) - (1 : Int32))) + p3)) (42 * ((2 * ((I1 45 (((6 : Int32) + p1).toNatClampNeg)).toInt - 1)) + p3.toInt)) := ti_mul t17 t21 (by omega)
        have t23 : TI ((86 : Int32) + ((42 : Int32) * (((2 : Int32) * ((I1 45 (((6 : Int32) + p1).toNatClampNeg)) - (1 : Int32))) + p3))) (86 + (42 * ((2 * ((I1 45 (((6 : Int32) + p1).toNatClampNeg)).toInt - 1)) + p3.toInt))) := ti_add t16 t22 (by omega)
        refine ⟨?_, ?_⟩
        · exact jj_in (e := ((86 : Int32) + ((42 : Int32) * (((2 : Int32) * ((I1 45 (((6 : Int32) + p1).toNatClampNeg)) - (1 : Int32))) + p3)))) (A := (86 + (42 * ((2 * ((I1 45 (((6 : Int32) + p1).toNatClampNeg)).toInt - 1)) + p3.toInt)))) t23 (by omega)
        refine ⟨fun q24 => ?_, fun q24 => ?_⟩
        · have c25 := j_eq q24 (ti_r (e := (I1 45 (((86 : Int32) + ((42 : Int32) * (((2 : Int32) * ((I1 45 (((6 : Int32) + p1).toNatClampNeg)) - (1 : Int32))) + p3))).toNatClampNeg)))) t2
          exact k _ _ _ (hI1)
        · have c26 := j_ne q24 (ti_r (e := (I1 45 (((86 : Int32) + ((42 : Int32) * (((2 : Int32) * ((I1 45 (((6 : Int32) + p1).toNatClampNeg)) - (1 : Int32))) + p3))).toNatClampNeg)))) t2
          refine mNight (hI1) (by omega) ?_
          intro I4 J4 h4 g4a g4b g4c
          have bh4 := h4.bnd
          refine mLevel  ?_
          intro r5
          refine mHeldOf  ?_
          intro r6
          refine mIsLaw (h4) (by (try simp only [t23.o, true_or, or_true, true_and, and_true]); first | done | omega) ?_
          intro r7 I7 J7 h7 g7a g7b
          try simp only [t23.o] at g7a g7b
          have bh7 := h7.bnd
          refine ⟨fun q27 => ?_, fun q27 => ?_⟩
          · have c28 := j_eq q27 (ti_r (e := r7)) t2
            exact k _ _ _ (h7)
          · have c29 := j_ne q27 (ti_r (e := r7)) t2
            exact k _ _ _ (h7)
theorem mStands_24 {S : Nat × (Nat → Int32)} {d : Nat} {x : mX} {I0 : rI0} {J0 : rJ0} {Tl : Int32 × Option Int32} {R C : Int} {Q : Int32 → rI0 → rJ0 → Prop} (k : ∀ r I J, (Mz_ I0 J0 Tl R C I J) → Q r I J) : ∀ (n : Nat) (l1 : Int32) (l2 : Int32) (I : rI0) (J : rJ0), (Neq (601 - l2.toInt).toNat n) → (Mz_ I0 J0 Tl R C I J) → (0 ≤ l2.toInt) → (l2.toInt ≤ 601) → wp S (d + 6) 208 24 [some (.ref 43), some (.int l1), some (.int l2)] [] (wv x I J) (rI x Q) := by
  refine lpn ?_
  intro n ih
  intro l1 l2 I J hm h e0 e1
  have bh := h.bnd
  refine v208_43_24 ?_
  have t1 : TI (600 : Int32) (600) := show (600 : Int32).toInt = 600 by decide
  refine ⟨fun q2 => ?_, fun q2 => ?_⟩
  · have c3 := j_lt q2 t1 (ti_r (e := l2))
    exact k _ _ _ (h)
  · have c4 := j_nlt q2 t1 (ti_r (e := l2))
    refine ⟨?_, ?_⟩
    · exact jj_in (e := (l2)) (A := l2.toInt) ti_r (by omega)
    refine mHolds  ?_
    intro r1 g1a
    have t5 : TI (0 : Int32) (0) := show (0 : Int32).toInt = 0 by decide
    refine ⟨fun q6 => ?_, fun q6 => ?_⟩
    · have c7 := j_eq q6 (ti_r (e := r1)) t5
      have t8 : TI (1 : Int32) (1) := show (1 : Int32).toInt = 1 by decide
      have t9 : TI (l2 + (1 : Int32)) (l2.toInt + 1) := ti_add ti_r t8 (by omega)
      exact ih _ (mih hm (by (try simp only [t9.o, true_or, or_true, true_and, and_true]); first | done | omega) (by omega)) l1 (l2 + (1 : Int32)) I J rfl (h) (by (try simp only [t9.o, true_or, or_true, true_and, and_true]); first | done | omega) (by (try simp only [t9.o, true_or, or_true, true_and, and_true]); first | done | omega)
    · have c10 := j_ne q6 (ti_r (e := r1)) t5
      exact k _ _ _ (h)
theorem mStands {S : Nat × (Nat → Int32)} {d : Nat} {x : mX} {I0 : rI0} {J0 : rJ0} {Tl : Int32 × Option Int32} {R C : Int} {I : rI0} {J : rJ0} {p1 : Int32} {Q : Int32 → rI0 → rJ0 → Prop} (h : Mz_ I0 J0 Tl R C I J) (k : ∀ r I J, (Mz_ I0 J0 Tl R C I J) → Q r I J) : wcI S (d + 6) 208 [.ref 43, .int p1] x I J Q := by
  have bh := h.bnd
  refine c208_43 ?_
  obtain ⟨I1, eI1⟩ : ∃ z, z = (mSet I 43 0 (0 : Int32)) := ⟨_, rfl⟩
  rw [← eI1]
  have hI1 : Mz_ I0 J0 Tl R C I1 J := by rw [eI1]; exact (Mz_.si (n := 43) (k := 0) (h) (by decide))
  have zI1_47 : (I1 43 47).toInt = (I 43 47).toInt := by rw [eI1]; exact (ti_r : TI (I 43 47) (I 43 47).toInt)
  have zI1_42 : (I1 43 42).toInt = (I 43 42).toInt := by rw [eI1]; exact (ti_r : TI (I 43 42) (I 43 42).toInt)
  have zI1_63 : (I1 43 63).toInt = (I 43 63).toInt := by rw [eI1]; exact (ti_r : TI (I 43 63) (I 43 63).toInt)
  have zI1_3 : (I1 43 3).toInt = (I 43 3).toInt := by rw [eI1]; exact (ti_r : TI (I 43 3) (I 43 3).toInt)
  have yI1 : I1 45 = I 45 := by rw [eI1]; rfl
  have bhI1 := hI1.bnd
  refine mSeat (hI1) ?_
  intro r1 g1a
  have t2 : TI (0 : Int32) (0) := show (0 : Int32).toInt = 0 by decide
  refine ⟨fun q3 => ?_, fun q3 => ?_⟩
  · have c4 := j_eq q3 (ti_r (e := r1)) t2
    exact k _ _ _ (hI1)
  · have c5 := j_ne q3 (ti_r (e := r1)) t2
    have t6 : TI (600 : Int32) (600) := show (600 : Int32).toInt = 600 by decide
    refine mNight (hI1) (by (try simp only [t6.o, true_or, or_true, true_and, and_true]); first | done | omega) ?_
    intro I2 J2 h2 g2a g2b g2c
    try simp only [t6.o] at g2a g2b g2c
    have bh2 := h2.bnd
    exact mStands_24 k _ p1 ((0 : Int32)) I2 J2 rfl (h2) (by (try simp only [t2.o, true_or, or_true, true_and, and_true]); first | done | omega) (by (try simp only [t2.o, true_or, or_true, true_and, and_true]); first | done | omega)
theorem mAnyway_33 {S : Nat × (Nat → Int32)} {d : Nat} {x : mX} {I0 : rI0} {J0 : rJ0} {Tl : Int32 × Option Int32} {R C : Int} {Q : Int32 → rI0 → rJ0 → Prop} (k : ∀ r I J, (Mz_ I0 J0 Tl R C I J) → Q r I J) : ∀ (n : Nat) (l1 : Int32) (l2 : Int64) (I : rI0) (J : rJ0), (Neq (601 - (I 43 42).toInt).toNat n) → (Mz_ I0 J0 Tl R C I J) → (l1.toInt ≤ 600) → wp S (d + 6) 209 33 [some (.ref 43), some (.int l1), some (.long l2), none] [] (wv x I J) (rI x Q) := by
  refine lpn ?_
  intro n ih
  intro l1 l2 I J hm h e0
  have bh := h.bnd
  refine v209_43_33 ?_
  refine ⟨fun q1 => ?_, fun q1 => ?_⟩
  · have c2 := j_lt q1 (ti_r (e := l1)) (ti_r (e := (I 43 42)))
    refine mBits  ?_
    intro r1 g1a
    exact k _ _ _ (h)
  · have c3 := j_nlt q1 (ti_r (e := l1)) (ti_r (e := (I 43 42)))
    refine mMoment (h) (by omega) ?_
    intro I2 J2 h2 g2a g2b g2c g2d
    have bh2 := h2.bnd
    exact ih _ (mih hm (by omega) (by omega)) l1 l2 I2 J2 rfl (h2) (by omega)
theorem mAnyway {S : Nat × (Nat → Int32)} {d : Nat} {x : mX} {I0 : rI0} {J0 : rJ0} {Tl : Int32 × Option Int32} {R C : Int} {I : rI0} {J : rJ0} {p1 : Int32} {Q : Int32 → rI0 → rJ0 → Prop} (h : Mz_ I0 J0 Tl R C I J) (k : ∀ r I J, (Mz_ I0 J0 Tl R C I J) → Q r I J) : wcI S (d + 6) 209 [.ref 43, .int p1] x I J Q := by
  have bh := h.bnd
  refine c209_43 ?_
  refine mMoment0  ?_
  intro r1 g1a
  have t1 : TI (0 : Int32) (0) := show (0 : Int32).toInt = 0 by decide
  refine ⟨fun q2 => ?_, fun q2 => ?_⟩
  · have c3 := j_eq q2 (ti_r (e := r1)) t1
    exact k _ _ _ (Mz_.si (n := 43) (k := 0) (h) (by decide))
  · have c4 := j_ne q2 (ti_r (e := r1)) t1
    obtain ⟨I5, eI5⟩ : ∃ z, z = (mSet I 43 0 (0 : Int32)) := ⟨_, rfl⟩
    rw [← eI5]
    have hI5 : Mz_ I0 J0 Tl R C I5 J := by rw [eI5]; exact (Mz_.si (n := 43) (k := 0) (h) (by decide))
    have zI5_47 : (I5 43 47).toInt = (I 43 47).toInt := by rw [eI5]; exact (ti_r : TI (I 43 47) (I 43 47).toInt)
    have zI5_42 : (I5 43 42).toInt = (I 43 42).toInt := by rw [eI5]; exact (ti_r : TI (I 43 42) (I 43 42).toInt)
    have zI5_63 : (I5 43 63).toInt = (I 43 63).toInt := by rw [eI5]; exact (ti_r : TI (I 43 63) (I 43 63).toInt)
    have zI5_3 : (I5 43 3).toInt = (I 43 3).toInt := by rw [eI5]; exact (ti_r : TI (I 43 3) (I 43 3).toInt)
    have yI5 : I5 45 = I 45 := by rw [eI5]; rfl
    have bhI5 := hI5.bnd
    refine mNight (hI5) (by omega) ?_
    intro I2 J2 h2 g2a g2b g2c
    have bh2 := h2.bnd
    refine mBegin (h2) ?_
    intro I3 J3 h3 g3a g3b g3c g3d
    have bh3 := h3.bnd
    exact mAnyway_33 k _ p1 (J2 43 39) I3 J3 rfl (h3) (by omega)
theorem mIsUp {S : Nat × (Nat → Int32)} {d : Nat} {x : mX} {I : rI0} {J : rJ0} {p1 : Int32} {Q : Int32 → rI0 → rJ0 → Prop} (hp : 0 ≤ p1.toInt ∧ p1.toInt ≤ 600) (k : ∀ r, (r.toInt = 0 ∨ r.toInt = 1) → Q r I J) : wcI S (d + 1) 210 [.ref 43, .int p1] x I J Q := by
  refine c210_43 ?_
  refine ⟨?_, ?_⟩
  · exact jj_in (e := (p1)) (A := p1.toInt) ti_r (by omega)
  refine mBits  ?_
  intro r1 g1a
  have t1 : TI (3 : Int32) (3) := show (3 : Int32).toInt = 3 by decide
  refine ⟨?_, ?_⟩
  · exact jj_in (e := (3 : Int32)) (A := 3) t1 (by omega)
  have t2 : TI (I 45 ((3 : Int32).toNatClampNeg)) (I 45 3).toInt := ti_r (e := I 45 3)
  refine ⟨fun q3 => ?_, fun q3 => ?_⟩
  · have c4 := j_lt q3 (ti_r (e := r1)) t2
    have t5 : TI (0 : Int32) (0) := show (0 : Int32).toInt = 0 by decide
    exact k _ (by (try simp only [t5.o, true_or, or_true, true_and, and_true]); first | done | omega)
  · have c6 := j_nlt q3 (ti_r (e := r1)) t2
    have t7 : TI (1 : Int32) (1) := show (1 : Int32).toInt = 1 by decide
    exact k _ (by (try simp only [t7.o, true_or, or_true, true_and, and_true]); first | done | omega)
theorem mUp_14 {S : Nat × (Nat → Int32)} {d : Nat} {x : mX} {I0 : rI0} {J0 : rJ0} {Tl : Int32 × Option Int32} {R C : Int} {Q : Int32 → rI0 → rJ0 → Prop} (k : ∀ r I J, (Mz_ I0 J0 Tl R C I J) → Q r I J) : ∀ (n : Nat) (l1 : Int32) (I : rI0) (J : rJ0), (Neq (601 - l1.toInt).toNat n) → (Mz_ I0 J0 Tl R C I J) → (0 ≤ l1.toInt) → (l1.toInt ≤ 601) → wp S (d + 6) 211 14 [some (.ref 43), some (.int l1)] [] (wv x I J) (rI x Q) := by
  refine lpn ?_
  intro n ih
  intro l1 I J hm h e0 e1
  have bh := h.bnd
  refine v211_43_14 ?_
  have t1 : TI (600 : Int32) (600) := show (600 : Int32).toInt = 600 by decide
  refine ⟨fun q2 => ?_, fun q2 => ?_⟩
  · have c3 := j_lt q2 t1 (ti_r (e := l1))
    exact k _ _ _ (h)
  · have c4 := j_nlt q2 t1 (ti_r (e := l1))
    refine mIsUp (by omega) ?_
    intro r1 g1a
    have t5 : TI (0 : Int32) (0) := show (0 : Int32).toInt = 0 by decide
    refine ⟨fun q6 => ?_, fun q6 => ?_⟩
    · have c7 := j_eq q6 (ti_r (e := r1)) t5
      have t8 : TI (1 : Int32) (1) := show (1 : Int32).toInt = 1 by decide
      have t9 : TI (l1 + (1 : Int32)) (l1.toInt + 1) := ti_add ti_r t8 (by omega)
      exact ih _ (mih hm (by (try simp only [t9.o, true_or, or_true, true_and, and_true]); first | done | omega) (by omega)) (l1 + (1 : Int32)) I J rfl (h) (by (try simp only [t9.o, true_or, or_true, true_and, and_true]); first | done | omega) (by (try simp only [t9.o, true_or, or_true, true_and, and_true]); first | done | omega)
    · have c10 := j_ne q6 (ti_r (e := r1)) t5
      exact k _ _ _ (h)
theorem mUp {S : Nat × (Nat → Int32)} {d : Nat} {x : mX} {I0 : rI0} {J0 : rJ0} {Tl : Int32 × Option Int32} {R C : Int} {I : rI0} {J : rJ0} {Q : Int32 → rI0 → rJ0 → Prop} (h : Mz_ I0 J0 Tl R C I J) (k : ∀ r I J, (Mz_ I0 J0 Tl R C I J) → Q r I J) : wcI S (d + 6) 211 [.ref 43] x I J Q := by
  have bh := h.bnd
  refine c211_43 ?_
  obtain ⟨I1, eI1⟩ : ∃ z, z = (mSet I 43 0 (0 : Int32)) := ⟨_, rfl⟩
  rw [← eI1]
  have hI1 : Mz_ I0 J0 Tl R C I1 J := by rw [eI1]; exact (Mz_.si (n := 43) (k := 0) (h) (by decide))
  have zI1_47 : (I1 43 47).toInt = (I 43 47).toInt := by rw [eI1]; exact (ti_r : TI (I 43 47) (I 43 47).toInt)
  have zI1_42 : (I1 43 42).toInt = (I 43 42).toInt := by rw [eI1]; exact (ti_r : TI (I 43 42) (I 43 42).toInt)
  have zI1_63 : (I1 43 63).toInt = (I 43 63).toInt := by rw [eI1]; exact (ti_r : TI (I 43 63) (I 43 63).toInt)
  have zI1_3 : (I1 43 3).toInt = (I 43 3).toInt := by rw [eI1]; exact (ti_r : TI (I 43 3) (I 43 3).toInt)
  have yI1 : I1 45 = I 45 := by rw [eI1]; rfl
  have bhI1 := hI1.bnd
  have t2 : TI (600 : Int32) (600) := show (600 : Int32).toInt = 600 by decide
  refine mNight (hI1) (by (try simp only [t2.o, true_or, or_true, true_and, and_true]); first | done | omega) ?_
  intro I1 J1 h1 g1a g1b g1c
  try simp only [t2.o] at g1a g1b g1c
  have bh1 := h1.bnd
  have t3 : TI (0 : Int32) (0) := show (0 : Int32).toInt = 0 by decide
  exact mUp_14 k _ ((0 : Int32)) I1 J1 rfl (h1) (by (try simp only [t3.o, true_or, or_true, true_and, and_true]); first | done | omega) (by (try simp only [t3.o, true_or, or_true, true_and, and_true]); first | done | omega)
theorem mCalls_23 {S : Nat × (Nat → Int32)} {d : Nat} {x : mX} {I0 : rI0} {J0 : rJ0} {Tl : Int32 × Option Int32} {R C : Int} {Q : Int32 → rI0 → rJ0 → Prop} (k : ∀ r I J, (Mz_ I0 J0 Tl R C I J) → Q r I J) : ∀ (n : Nat) (l1 : Int32) (l2 : Int32) (l3 : Int32) (I : rI0) (J : rJ0), (Neq (l1.toInt - l3.toInt + 1).toNat n) → (Mz_ I0 J0 Tl R C I J) → (l1.toInt ≤ 600) → (0 ≤ l3.toInt) → wp S (d + 6) 212 23 [some (.ref 43), some (.int l1), some (.int l2), some (.int l3)] [] (wv x I J) (rI x Q) := by
  refine lpn ?_
  intro n ih
  intro l1 l2 l3 I J hm h e0 e1
  have bh := h.bnd
  refine v212_43_23 ?_
  refine ⟨fun q1 => ?_, fun q1 => ?_⟩
  · have c2 := j_lt q1 (ti_r (e := l1)) (ti_r (e := l3))
    exact k _ _ _ (h)
  · have c3 := j_nlt q1 (ti_r (e := l1)) (ti_r (e := l3))
    refine mIsUp (by omega) ?_
    intro r1 g1a
    have t4 : TI (0 : Int32) (0) := show (0 : Int32).toInt = 0 by decide
    refine ⟨fun q5 => ?_, fun q5 => ?_⟩
    · have c6 := j_eq q5 (ti_r (e := r1)) t4
      have t7 : TI (1 : Int32) (1) := show (1 : Int32).toInt = 1 by decide
      have t8 : TI (l3 + (1 : Int32)) (l3.toInt + 1) := ti_add ti_r t7 (by omega)
      exact ih _ (mih hm (by (try simp only [t8.o, true_or, or_true, true_and, and_true]); first | done | omega) (by omega)) l1 (l2 + (0 : Int32)) (l3 + (1 : Int32)) I J rfl (h) (by (try simp only [t8.o, true_or, or_true, true_and, and_true]); first | done | omega) (by (try simp only [t8.o, true_or, or_true, true_and, and_true]); first | done | omega)
    · have c9 := j_ne q5 (ti_r (e := r1)) t4
      refine ⟨fun q10 => ?_, fun q10 => ?_⟩
      · have c11 := j_eq q10 (ti_r (e := l3)) t4
        have t12 : TI (1 : Int32) (1) := show (1 : Int32).toInt = 1 by decide
        have t13 : TI (l3 + (1 : Int32)) (l3.toInt + 1) := ti_add ti_r t12 (by omega)
        exact ih _ (mih hm (by (try simp only [t13.o, true_or, or_true, true_and, and_true]); first | done | omega) (by omega)) l1 (l2 + (1 : Int32)) (l3 + (1 : Int32)) I J rfl (h) (by (try simp only [t13.o, true_or, or_true, true_and, and_true]); first | done | omega) (by (try simp only [t13.o, true_or, or_true, true_and, and_true]); first | done | omega)
      · have c14 := j_ne q10 (ti_r (e := l3)) t4
        have t15 : TI (1 : Int32) (1) := show (1 : Int32).toInt = 1 by decide
        have t16 : TI (l3 - (1 : Int32)) (l3.toInt - 1) := ti_sub ti_r t15 (by omega)
        refine mIsUp (by (try simp only [t16.o, true_or, or_true, true_and, and_true]); first | done | omega) ?_
        intro r2 g2a
        try simp only [t16.o] at g2a
        refine ⟨fun q17 => ?_, fun q17 => ?_⟩
        · have c18 := j_eq q17 (ti_r (e := r2)) t4
          have t19 : TI (l3 + (1 : Int32)) (l3.toInt + 1) := ti_add ti_r t15 (by omega)
          exact ih _ (mih hm (by (try simp only [t19.o, true_or, or_true, true_and, and_true]); first | done | omega) (by omega)) l1 (l2 + (1 : Int32)) (l3 + (1 : Int32)) I J rfl (h) (by (try simp only [t19.o, true_or, or_true, true_and, and_true]); first | done | omega) (by (try simp only [t19.o, true_or, or_true, true_and, and_true]); first | done | omega)
        · have c20 := j_ne q17 (ti_r (e := r2)) t4
          have t21 : TI (l3 + (1 : Int32)) (l3.toInt + 1) := ti_add ti_r t15 (by omega)
          exact ih _ (mih hm (by (try simp only [t21.o, true_or, or_true, true_and, and_true]); first | done | omega) (by omega)) l1 (l2 + (0 : Int32)) (l3 + (1 : Int32)) I J rfl (h) (by (try simp only [t21.o, true_or, or_true, true_and, and_true]); first | done | omega) (by (try simp only [t21.o, true_or, or_true, true_and, and_true]); first | done | omega)
theorem mCalls {S : Nat × (Nat → Int32)} {d : Nat} {x : mX} {I0 : rI0} {J0 : rJ0} {Tl : Int32 × Option Int32} {R C : Int} {I : rI0} {J : rJ0} {p1 : Int32} {Q : Int32 → rI0 → rJ0 → Prop} (h : Mz_ I0 J0 Tl R C I J) (k : ∀ r I J, (Mz_ I0 J0 Tl R C I J) → Q r I J) : wcI S (d + 6) 212 [.ref 43, .int p1] x I J Q := by
  have bh := h.bnd
  refine c212_43 ?_
  refine mMoment0  ?_
  intro r1 g1a
  have t1 : TI (0 : Int32) (0) := show (0 : Int32).toInt = 0 by decide
  refine ⟨fun q2 => ?_, fun q2 => ?_⟩
  · have c3 := j_eq q2 (ti_r (e := r1)) t1
    exact k _ _ _ (Mz_.si (n := 43) (k := 0) (h) (by decide))
  · have c4 := j_ne q2 (ti_r (e := r1)) t1
    obtain ⟨I5, eI5⟩ : ∃ z, z = (mSet I 43 0 (0 : Int32)) := ⟨_, rfl⟩
    rw [← eI5]
    have hI5 : Mz_ I0 J0 Tl R C I5 J := by rw [eI5]; exact (Mz_.si (n := 43) (k := 0) (h) (by decide))
    have zI5_47 : (I5 43 47).toInt = (I 43 47).toInt := by rw [eI5]; exact (ti_r : TI (I 43 47) (I 43 47).toInt)
    have zI5_42 : (I5 43 42).toInt = (I 43 42).toInt := by rw [eI5]; exact (ti_r : TI (I 43 42) (I 43 42).toInt)
    have zI5_63 : (I5 43 63).toInt = (I 43 63).toInt := by rw [eI5]; exact (ti_r : TI (I 43 63) (I 43 63).toInt)
    have zI5_3 : (I5 43 3).toInt = (I 43 3).toInt := by rw [eI5]; exact (ti_r : TI (I 43 3) (I 43 3).toInt)
    have yI5 : I5 45 = I 45 := by rw [eI5]; rfl
    have bhI5 := hI5.bnd
    refine mNight (hI5) (by omega) ?_
    intro I2 J2 h2 g2a g2b g2c
    have bh2 := h2.bnd
    exact mCalls_23 k _ p1 ((0 : Int32)) ((0 : Int32)) I2 J2 rfl (h2) (by (try simp only [t1.o, true_or, or_true, true_and, and_true]); first | done | omega) (by (try simp only [t1.o, true_or, or_true, true_and, and_true]); first | done | omega)
theorem mLike {S : Nat × (Nat → Int32)} {d : Nat} {x : mX} {I : rI0} {J : rJ0} {p1 : Int32} {p2 : Int32} {Q : Int32 → rI0 → rJ0 → Prop} (hp : (0 ≤ p1.toInt ∧ p1.toInt ≤ 600) ∧ 0 ≤ p2.toInt ∧ p2.toInt ≤ 600) (k : ∀ r, (r.toInt = 0 ∨ r.toInt = 1) → Q r I J) : wcI S (d + 0) 213 [.ref 43, .int p1, .int p2] x I J Q := by
  refine c213_43 ?_
  refine ⟨?_, ?_⟩
  · exact jj_in (e := (p1)) (A := p1.toInt) ti_r (by omega)
  refine ⟨?_, ?_⟩
  · exact jj_in (e := (p2)) (A := p2.toInt) ti_r (by omega)
  refine ⟨fun q1 => ?_, fun q1 => ?_⟩
  · refine ⟨?_, ?_⟩
    · exact jj_in (e := (p1)) (A := p1.toInt) ti_r (by omega)
    refine ⟨?_, ?_⟩
    · exact jj_in (e := (p2)) (A := p2.toInt) ti_r (by omega)
    refine ⟨fun q2 => ?_, fun q2 => ?_⟩
    · refine ⟨?_, ?_⟩
      · exact jj_in (e := (p1)) (A := p1.toInt) ti_r (by omega)
      refine ⟨?_, ?_⟩
      · exact jj_in (e := (p2)) (A := p2.toInt) ti_r (by omega)
      refine ⟨fun q3 => ?_, fun q3 => ?_⟩
      · refine ⟨?_, ?_⟩
        · exact jj_in (e := (p1)) (A := p1.toInt) ti_r (by omega)
        refine ⟨?_, ?_⟩
        · exact jj_in (e := (p2)) (A := p2.toInt) ti_r (by omega)
        refine ⟨fun q4 => ?_, fun q4 => ?_⟩
        · have t5 : TI (1 : Int32) (1) := show (1 : Int32).toInt = 1 by decide
          exact k _ (by (try simp only [t5.o, true_or, or_true, true_and, and_true]); first | done | omega)
        · have t6 : TI (0 : Int32) (0) := show (0 : Int32).toInt = 0 by decide
          exact k _ (by (try simp only [t6.o, true_or, or_true, true_and, and_true]); first | done | omega)
      · have t7 : TI (0 : Int32) (0) := show (0 : Int32).toInt = 0 by decide
        exact k _ (by (try simp only [t7.o, true_or, or_true, true_and, and_true]); first | done | omega)
    · have t8 : TI (0 : Int32) (0) := show (0 : Int32).toInt = 0 by decide
      exact k _ (by (try simp only [t8.o, true_or, or_true, true_and, and_true]); first | done | omega)
  · have t9 : TI (0 : Int32) (0) := show (0 : Int32).toInt = 0 by decide
    exact k _ (by (try simp only [t9.o, true_or, or_true, true_and, and_true]); first | done | omega)
theorem mAgain_232 {S : Nat × (Nat → Int32)} {d : Nat} {x : mX} {I0 : rI0} {J0 : rJ0} {Tl : Int32 × Option Int32} {R C : Int} {Q : Int32 → rI0 → rJ0 → Prop} {N218 : Nat} (k : ∀ r I J, (Mz_ I0 J0 Tl R C I J) → Q r I J) (K218 : ∀ (l1 : Int32) (l2 : Int32) (l3 : Int32) (l4 : Int32) (I : rI0) (J : rJ0), (Mz_ I0 J0 Tl R C I J) → ((601 - l4.toInt).toNat < N218) → (0 ≤ l4.toInt) → wp S (d + 6) 214 218 [some (.ref 43), some (.int l1), some (.int l2), some (.int l3), some (.int l4), none] [] (wv x I J) (rI x Q)) : ∀ (n : Nat) (l1 : Int32) (l2 : Int32) (l3 : Int32) (l4 : Int32) (l5 : Int32) (I : rI0) (J : rJ0), (Neq (601 - l5.toInt).toNat n) → (Mz_ I0 J0 Tl R C I J) → (0 ≤ l4.toInt) → (l4.toInt ≤ 600) → (0 ≤ l5.toInt) → (l5.toInt ≤ 601) → (Nle (601 - l4.toInt).toNat N218) → wp S (d + 6) 214 232 [some (.ref 43), some (.int l1), some (.int l2), some (.int l3), some (.int l4), some (.int l5)] [] (wv x I J) (rI x Q) := by
  refine lpn ?_
  intro n ih
  intro l1 l2 l3 l4 l5 I J hm h e0 e1 e2 e3 a0
  have bh := h.bnd
  refine v214_43_232 ?_
  have t1 : TI (600 : Int32) (600) := show (600 : Int32).toInt = 600 by decide
  refine ⟨fun q2 => ?_, fun q2 => ?_⟩
  · have c3 := j_lt q2 t1 (ti_r (e := l5))
    have t4 : TI (1 : Int32) (1) := show (1 : Int32).toInt = 1 by decide
    have t5 : TI (l4 + (1 : Int32)) (l4.toInt + 1) := ti_add ti_r t4 (by omega)
    exact K218 l1 l2 l3 (l4 + (1 : Int32)) I J (h) (mlt a0 (by (try simp only [t5.o, true_or, or_true, true_and, and_true]); first | done | omega) (by omega)) (by (try simp only [t5.o, true_or, or_true, true_and, and_true]); first | done | omega)
  · have c6 := j_nlt q2 t1 (ti_r (e := l5))
    refine mLike (by omega) ?_
    intro r1 g1a
    have t7 : TI (0 : Int32) (0) := show (0 : Int32).toInt = 0 by decide
    refine ⟨fun q8 => ?_, fun q8 => ?_⟩
    · have c9 := j_eq q8 (ti_r (e := r1)) t7
      have t10 : TI (1 : Int32) (1) := show (1 : Int32).toInt = 1 by decide
      have t11 : TI (l5 + (1 : Int32)) (l5.toInt + 1) := ti_add ti_r t10 (by omega)
      exact ih _ (mih hm (by (try simp only [t11.o, true_or, or_true, true_and, and_true]); first | done | omega) (by omega)) l1 l2 l3 l4 (l5 + (1 : Int32)) I J rfl (h) (by (try simp only [t11.o, true_or, or_true, true_and, and_true]); first | done | omega) (by (try simp only [t11.o, true_or, or_true, true_and, and_true]); first | done | omega) (by (try simp only [t11.o, true_or, or_true, true_and, and_true]); first | done | omega) (by (try simp only [t11.o, true_or, or_true, true_and, and_true]); first | done | omega) (mle a0 (by (try simp only [t11.o, true_or, or_true, true_and, and_true]); first | done | omega))
    · have c12 := j_ne q8 (ti_r (e := r1)) t7
      refine ⟨fun q13 => ?_, fun q13 => ?_⟩
      · have c14 := j_eq q13 (ti_r (e := l1)) t7
        exact k _ _ _ (h)
      · have c15 := j_ne q13 (ti_r (e := l1)) t7
        exact k _ _ _ (h)
theorem mAgain_218 {S : Nat × (Nat → Int32)} {d : Nat} {x : mX} {I0 : rI0} {J0 : rJ0} {Tl : Int32 × Option Int32} {R C : Int} {Q : Int32 → rI0 → rJ0 → Prop} (k : ∀ r I J, (Mz_ I0 J0 Tl R C I J) → Q r I J) : ∀ (n : Nat) (l1 : Int32) (l2 : Int32) (l3 : Int32) (l4 : Int32) (I : rI0) (J : rJ0), (Neq (601 - l4.toInt).toNat n) → (Mz_ I0 J0 Tl R C I J) → (0 ≤ l4.toInt) → wp S (d + 6) 214 218 [some (.ref 43), some (.int l1), some (.int l2), some (.int l3), some (.int l4), none] [] (wv x I J) (rI x Q) := by
  refine lpn ?_
  intro n ih
  intro l1 l2 l3 l4 I J hm h e0
  have bh := h.bnd
  refine v214_43_218 ?_
  have t1 : TI (600 : Int32) (600) := show (600 : Int32).toInt = 600 by decide
  refine ⟨fun q2 => ?_, fun q2 => ?_⟩
  · have c3 := j_lt q2 t1 (ti_r (e := l4))
    exact k _ _ _ (h)
  · have c4 := j_nlt q2 t1 (ti_r (e := l4))
    have t5 : TI (1 : Int32) (1) := show (1 : Int32).toInt = 1 by decide
    have t6 : TI (l4 + (1 : Int32)) (l4.toInt + 1) := ti_add ti_r t5 (by omega)
    exact mAgain_232 k (fun l1_ l2_ l3_ l4_ I_ J_ h_ hlt f0_ => ih _ hlt l1_ l2_ l3_ l4_ I_ J_ rfl h_ f0_) _ l1 l2 l3 l4 (l4 + (1 : Int32)) I J rfl (h) (by (try simp only [t6.o, true_or, or_true, true_and, and_true]); first | done | omega) (by (try simp only [t6.o, true_or, or_true, true_and, and_true]); first | done | omega) (by (try simp only [t6.o, true_or, or_true, true_and, and_true]); first | done | omega) (by (try simp only [t6.o, true_or, or_true, true_and, and_true]); first | done | omega) (mleq hm (by (try simp only [t6.o, true_or, or_true, true_and, and_true]); first | done | omega))
theorem mAgain_143 {S : Nat × (Nat → Int32)} {d : Nat} {x : mX} {I0 : rI0} {J0 : rJ0} {Tl : Int32 × Option Int32} {R C : Int} {Q : Int32 → rI0 → rJ0 → Prop} {N96 : Nat} (k : ∀ r I J, (Mz_ I0 J0 Tl R C I J) → Q r I J) (K96 : ∀ (l1 : Int32) (l2 : Int32) (l3 : Int32) (l4 : Int32) (I : rI0) (J : rJ0), (Mz_ I0 J0 Tl R C I J) → ((30 - l4.toInt).toNat < N96) → (0 ≤ l2.toInt) → (0 ≤ l4.toInt) → (l4.toInt ≤ 30) → wp S (d + 6) 214 96 [some (.ref 43), some (.int l1), some (.int l2), some (.int l3), some (.int l4), none] [] (wv x I J) (rI x Q)) : ∀ (l1 : Int32) (l2 : Int32) (l3 : Int32) (l4 : Int32) (s0 : Int32) (I : rI0) (J : rJ0), (Mz_ I0 J0 Tl R C I J) → (0 ≤ s0.toInt) → (0 ≤ l4.toInt) → (l4.toInt < 30) → (Nle (30 - l4.toInt).toNat N96) → wp S (d + 6) 214 143 [some (.ref 43), some (.int l1), some (.int l2), some (.int l3), some (.int l4), none] [.int s0] (wv x I J) (rI x Q) := by
  intro l1 l2 l3 l4 s0 I J h e0 e1 e2 a0
  have bh := h.bnd
  refine v214_43_143 ?_
  have t1 : TI (0 : Int32) (0) := show (0 : Int32).toInt = 0 by decide
  refine ⟨fun q2 => ?_, fun q2 => ?_⟩
  · have c3 := j_eq q2 (ti_r (e := l3)) t1
    have t4 : TI (591 : Int32) (591) := show (591 : Int32).toInt = 591 by decide
    have t5 : TI (3 : Int32) (3) := show (3 : Int32).toInt = 3 by decide
    have t6 : TI ((3 : Int32) * l4) (3 * l4.toInt) := ti_mul t5 ti_r (by omega)
    have t7 : TI ((591 : Int32) + ((3 : Int32) * l4)) (591 + (3 * l4.toInt)) := ti_add t4 t6 (by omega)
    have t8 : TI (1 : Int32) (1) := show (1 : Int32).toInt = 1 by decide
    have t9 : TI (((591 : Int32) + ((3 : Int32) * l4)) + (1 : Int32)) ((591 + (3 * l4.toInt)) + 1) := ti_add t7 t8 (by omega)
    refine ⟨?_, ?_⟩
    · exact jj_in (e := (((591 : Int32) + ((3 : Int32) * l4)) + (1 : Int32))) (A := ((591 + (3 * l4.toInt)) + 1)) t9 (by omega)
    obtain ⟨g11, t10⟩ : ∃ r : Int, TI (I 45 ((((591 : Int32) + ((3 : Int32) * l4)) + (1 : Int32)).toNatClampNeg)) r := ⟨_, ti_r⟩
    refine ⟨fun q12 => ?_, fun q12 => ?_⟩
    · have c13 := j_eq q12 t10 t1
      have t14 : TI (l4 + (1 : Int32)) (l4.toInt + 1) := ti_add ti_r t8 (by omega)
      exact K96 l1 s0 ((1 : Int32)) (l4 + (1 : Int32)) I J (h) (mlt a0 (by (try simp only [t14.o, true_or, or_true, true_and, and_true]); first | done | omega) (by omega)) (by (try simp only [t14.o, true_or, or_true, true_and, and_true]); first | done | omega) (by (try simp only [t14.o, true_or, or_true, true_and, and_true]); first | done | omega) (by (try simp only [t14.o, true_or, or_true, true_and, and_true]); first | done | omega)
    · have c15 := j_ne q12 t10 t1
      have t16 : TI (l4 + (1 : Int32)) (l4.toInt + 1) := ti_add ti_r t8 (by omega)
      exact K96 l1 s0 ((0 : Int32)) (l4 + (1 : Int32)) I J (h) (mlt a0 (by (try simp only [t16.o, true_or, or_true, true_and, and_true]); first | done | omega) (by omega)) (by (try simp only [t16.o, true_or, or_true, true_and, and_true]); first | done | omega) (by (try simp only [t16.o, true_or, or_true, true_and, and_true]); first | done | omega) (by (try simp only [t16.o, true_or, or_true, true_and, and_true]); first | done | omega)
  · have c17 := j_ne q2 (ti_r (e := l3)) t1
    have t18 : TI (1 : Int32) (1) := show (1 : Int32).toInt = 1 by decide
    have t19 : TI (l4 + (1 : Int32)) (l4.toInt + 1) := ti_add ti_r t18 (by omega)
    exact K96 l1 s0 ((1 : Int32)) (l4 + (1 : Int32)) I J (h) (mlt a0 (by (try simp only [t19.o, true_or, or_true, true_and, and_true]); first | done | omega) (by omega)) (by (try simp only [t19.o, true_or, or_true, true_and, and_true]); first | done | omega) (by (try simp only [t19.o, true_or, or_true, true_and, and_true]); first | done | omega) (by (try simp only [t19.o, true_or, or_true, true_and, and_true]); first | done | omega)
theorem mAgain_96 {S : Nat × (Nat → Int32)} {d : Nat} {x : mX} {I0 : rI0} {J0 : rJ0} {Tl : Int32 × Option Int32} {R C : Int} {Q : Int32 → rI0 → rJ0 → Prop} (k : ∀ r I J, (Mz_ I0 J0 Tl R C I J) → Q r I J) : ∀ (n : Nat) (l1 : Int32) (l2 : Int32) (l3 : Int32) (l4 : Int32) (I : rI0) (J : rJ0), (Neq (30 - l4.toInt).toNat n) → (Mz_ I0 J0 Tl R C I J) → (0 ≤ l2.toInt) → (0 ≤ l4.toInt) → (l4.toInt ≤ 30) → wp S (d + 6) 214 96 [some (.ref 43), some (.int l1), some (.int l2), some (.int l3), some (.int l4), none] [] (wv x I J) (rI x Q) := by
  refine lpn ?_
  intro n ih
  intro l1 l2 l3 l4 I J hm h e0 e1 e2
  have bh := h.bnd
  refine v214_43_96 ?_
  have t1 : TI (590 : Int32) (590) := show (590 : Int32).toInt = 590 by decide
  refine ⟨?_, ?_⟩
  · exact jj_in (e := (590 : Int32)) (A := 590) t1 (by omega)
  have t2 : TI (I 45 ((590 : Int32).toNatClampNeg)) (I 45 590).toInt := ti_r (e := I 45 590)
  refine ⟨fun q3 => ?_, fun q3 => ?_⟩
  · have c4 := j_lt q3 (ti_r (e := l4)) t2
    have t5 : TI (591 : Int32) (591) := show (591 : Int32).toInt = 591 by decide
    have t6 : TI (3 : Int32) (3) := show (3 : Int32).toInt = 3 by decide
    have t7 : TI ((3 : Int32) * l4) (3 * l4.toInt) := ti_mul t6 ti_r (by omega)
    have t8 : TI ((591 : Int32) + ((3 : Int32) * l4)) (591 + (3 * l4.toInt)) := ti_add t5 t7 (by omega)
    refine ⟨?_, ?_⟩
    · exact jj_in (e := ((591 : Int32) + ((3 : Int32) * l4))) (A := (591 + (3 * l4.toInt))) t8 (by omega)
    obtain ⟨g10, t9⟩ : ∃ r : Int, TI (I 45 (((591 : Int32) + ((3 : Int32) * l4)).toNatClampNeg)) r := ⟨_, ti_r⟩
    refine ⟨fun q11 => ?_, fun q11 => ?_⟩
    · have c12 := j_lt q11 (ti_r (e := l2)) t9
      refine ⟨?_, ?_⟩
      · exact jj_in (e := ((591 : Int32) + ((3 : Int32) * l4))) (A := (591 + (3 * l4.toInt))) t8 (by omega)
      exact mAgain_143 k (fun l1_ l2_ l3_ l4_ I_ J_ h_ hlt f0_ f1_ f2_ => ih _ hlt l1_ l2_ l3_ l4_ I_ J_ rfl h_ f0_ f1_ f2_) l1 l2 l3 l4 (I 45 (((591 : Int32) + ((3 : Int32) * l4)).toNatClampNeg)) I J (h) (by (try simp only [t9.o, true_or, or_true, true_and, and_true]); first | done | omega) (by (try simp only [t9.o, true_or, or_true, true_and, and_true]); first | done | omega) (by (try simp only [t9.o, true_or, or_true, true_and, and_true]); first | done | omega) (mleq hm (by (try simp only [t9.o, true_or, or_true, true_and, and_true]); first | done | omega))
    · have c13 := j_nlt q11 (ti_r (e := l2)) t9
      exact mAgain_143 k (fun l1_ l2_ l3_ l4_ I_ J_ h_ hlt f0_ f1_ f2_ => ih _ hlt l1_ l2_ l3_ l4_ I_ J_ rfl h_ f0_ f1_ f2_) l1 l2 l3 l4 l2 I J (h) (by omega) (by omega) (by omega) (mleq hm (by omega))
  · have c14 := j_nlt q3 (ti_r (e := l4)) t2
    have t15 : TI (0 : Int32) (0) := show (0 : Int32).toInt = 0 by decide
    refine ⟨fun q16 => ?_, fun q16 => ?_⟩
    · have c17 := j_eq q16 (ti_r (e := l3)) t15
      exact mAgain_218 k _ l1 l2 l3 l2 I J rfl (h) (by omega)
    · have c18 := j_ne q16 (ti_r (e := l3)) t15
      have t19 : TI (4 : Int32) (4) := show (4 : Int32).toInt = 4 by decide
      refine ⟨?_, ?_⟩
      · exact jj_in (e := (4 : Int32)) (A := 4) t19 (by omega)
      have t20 : TI (I 45 ((4 : Int32).toNatClampNeg)) (I 45 4).toInt := ti_r (e := I 45 4)
      have t21 : TI (600 : Int32) (600) := show (600 : Int32).toInt = 600 by decide
      refine ⟨fun q22 => ?_, fun q22 => ?_⟩
      · have c23 := j_lt q22 t20 t21
        refine ⟨?_, ?_⟩
        · exact jj_in (e := (4 : Int32)) (A := 4) t19 (by omega)
        obtain ⟨g25, t24⟩ : ∃ r : Int, TI ((I 45 ((4 : Int32).toNatClampNeg)) + (1 : Int32)) r := ⟨_, ti_r⟩
        refine ⟨fun q26 => ?_, fun q26 => ?_⟩
        · have c27 := j_lt q26 (ti_r (e := l2)) t24
          refine ⟨?_, ?_⟩
          · exact jj_in (e := (4 : Int32)) (A := 4) t19 (by omega)
          exact mAgain_218 k _ l1 ((I 45 ((4 : Int32).toNatClampNeg)) + (1 : Int32)) l3 ((I 45 ((4 : Int32).toNatClampNeg)) + (1 : Int32)) I J rfl (h) (by (try simp only [t24.o, true_or, or_true, true_and, and_true]); first | done | omega)
        · have c28 := j_nlt q26 (ti_r (e := l2)) t24
          exact mAgain_218 k _ l1 l2 l3 l2 I J rfl (h) (by omega)
      · have c29 := j_nlt q22 t20 t21
        exact mAgain_218 k _ l1 l2 l3 l2 I J rfl (h) (by omega)
theorem mAgain_43 {S : Nat × (Nat → Int32)} {d : Nat} {x : mX} {I0 : rI0} {J0 : rJ0} {Tl : Int32 × Option Int32} {R C : Int} {Q : Int32 → rI0 → rJ0 → Prop} (k : ∀ r I J, (Mz_ I0 J0 Tl R C I J) → Q r I J) : ∀ (n : Nat) (l1 : Int32) (l2 : Int32) (l3 : Int32) (l4 : Int32) (I : rI0) (J : rJ0), (Neq (8 - l4.toInt).toNat n) → (Mz_ I0 J0 Tl R C I J) → (0 ≤ l2.toInt) → (0 ≤ l4.toInt) → (l4.toInt ≤ 8) → wp S (d + 6) 214 43 [some (.ref 43), some (.int l1), some (.int l2), some (.int l3), some (.int l4), none] [] (wv x I J) (rI x Q) := by
  refine lpn ?_
  intro n ih
  intro l1 l2 l3 l4 I J hm h e0 e1 e2
  have bh := h.bnd
  refine v214_43_43 ?_
  have t1 : TI (0 : Int32) (0) := show (0 : Int32).toInt = 0 by decide
  refine ⟨?_, ?_⟩
  · exact jj_in (e := (0 : Int32)) (A := 0) t1 (by omega)
  have t2 : TI (I 45 ((0 : Int32).toNatClampNeg)) (I 45 0).toInt := ti_r (e := I 45 0)
  refine ⟨fun q3 => ?_, fun q3 => ?_⟩
  · have c4 := j_lt q3 (ti_r (e := l4)) t2
    have t5 : TI (78 : Int32) (78) := show (78 : Int32).toInt = 78 by decide
    have t6 : TI ((78 : Int32) + l4) (78 + l4.toInt) := ti_add t5 ti_r (by omega)
    refine ⟨?_, ?_⟩
    · exact jj_in (e := ((78 : Int32) + l4)) (A := (78 + l4.toInt)) t6 (by omega)
    obtain ⟨g8, t7⟩ : ∃ r : Int, TI ((I 45 (((78 : Int32) + l4).toNatClampNeg)) - (1 : Int32)) r := ⟨_, ti_r⟩
    refine ⟨fun q9 => ?_, fun q9 => ?_⟩
    · have c10 := j_lt q9 (ti_r (e := l2)) t7
      refine ⟨?_, ?_⟩
      · exact jj_in (e := ((78 : Int32) + l4)) (A := (78 + l4.toInt)) t6 (by omega)
      have t11 : TI (1 : Int32) (1) := show (1 : Int32).toInt = 1 by decide
      have t12 : TI (l4 + (1 : Int32)) (l4.toInt + 1) := ti_add ti_r t11 (by omega)
      exact ih _ (mih hm (by (try simp only [t7.o, t12.o, true_or, or_true, true_and, and_true]); first | done | omega) (by omega)) l1 ((I 45 (((78 : Int32) + l4).toNatClampNeg)) - (1 : Int32)) l3 (l4 + (1 : Int32)) I J rfl (h) (by (try simp only [t7.o, t12.o, true_or, or_true, true_and, and_true]); first | done | omega) (by (try simp only [t7.o, t12.o, true_or, or_true, true_and, and_true]); first | done | omega) (by (try simp only [t7.o, t12.o, true_or, or_true, true_and, and_true]); first | done | omega)
    · have c13 := j_nlt q9 (ti_r (e := l2)) t7
      have t14 : TI (1 : Int32) (1) := show (1 : Int32).toInt = 1 by decide
      have t15 : TI (l4 + (1 : Int32)) (l4.toInt + 1) := ti_add ti_r t14 (by omega)
      exact ih _ (mih hm (by (try simp only [t15.o, true_or, or_true, true_and, and_true]); first | done | omega) (by omega)) l1 l2 l3 (l4 + (1 : Int32)) I J rfl (h) (by (try simp only [t15.o, true_or, or_true, true_and, and_true]); first | done | omega) (by (try simp only [t15.o, true_or, or_true, true_and, and_true]); first | done | omega) (by (try simp only [t15.o, true_or, or_true, true_and, and_true]); first | done | omega)
  · have c16 := j_nlt q3 (ti_r (e := l4)) t2
    exact mAgain_96 k _ l1 l2 l3 ((0 : Int32)) I J rfl (h) (by (try simp only [t1.o, true_or, or_true, true_and, and_true]); first | done | omega) (by (try simp only [t1.o, true_or, or_true, true_and, and_true]); first | done | omega) (by (try simp only [t1.o, true_or, or_true, true_and, and_true]); first | done | omega)
theorem mAgain {S : Nat × (Nat → Int32)} {d : Nat} {x : mX} {I0 : rI0} {J0 : rJ0} {Tl : Int32 × Option Int32} {R C : Int} {I : rI0} {J : rJ0} {p1 : Int32} {Q : Int32 → rI0 → rJ0 → Prop} (h : Mz_ I0 J0 Tl R C I J) (k : ∀ r I J, (Mz_ I0 J0 Tl R C I J) → Q r I J) : wcI S (d + 6) 214 [.ref 43, .int p1] x I J Q := by
  have bh := h.bnd
  refine c214_43 ?_
  have t1 : TI (0 : Int32) (0) := show (0 : Int32).toInt = 0 by decide
  have t2 : TI (1 : Int32) (1) := show (1 : Int32).toInt = 1 by decide
  refine mIn  ?_
  intro r1 g1a
  try simp only [t1.o, t2.o] at g1a
  refine ⟨fun q3 => ?_, fun q3 => ?_⟩
  · have c4 := j_eq q3 (ti_r (e := r1)) t1
    exact k _ _ _ (Mz_.si (n := 43) (k := 0) (h) (by decide))
  · have c5 := j_ne q3 (ti_r (e := r1)) t1
    obtain ⟨I6, eI6⟩ : ∃ z, z = (mSet I 43 0 (0 : Int32)) := ⟨_, rfl⟩
    rw [← eI6]
    have hI6 : Mz_ I0 J0 Tl R C I6 J := by rw [eI6]; exact (Mz_.si (n := 43) (k := 0) (h) (by decide))
    have zI6_47 : (I6 43 47).toInt = (I 43 47).toInt := by rw [eI6]; exact (ti_r : TI (I 43 47) (I 43 47).toInt)
    have zI6_42 : (I6 43 42).toInt = (I 43 42).toInt := by rw [eI6]; exact (ti_r : TI (I 43 42) (I 43 42).toInt)
    have zI6_63 : (I6 43 63).toInt = (I 43 63).toInt := by rw [eI6]; exact (ti_r : TI (I 43 63) (I 43 63).toInt)
    have zI6_3 : (I6 43 3).toInt = (I 43 3).toInt := by rw [eI6]; exact (ti_r : TI (I 43 3) (I 43 3).toInt)
    have yI6 : I6 45 = I 45 := by rw [eI6]; rfl
    have bhI6 := hI6.bnd
    have t7 : TI (600 : Int32) (600) := show (600 : Int32).toInt = 600 by decide
    refine mNight (hI6) (by (try simp only [t7.o, true_or, or_true, true_and, and_true]); first | done | omega) ?_
    intro I2 J2 h2 g2a g2b g2c
    try simp only [t7.o] at g2a g2b g2c
    have bh2 := h2.bnd
    refine ⟨fun q8 => ?_, fun q8 => ?_⟩
    · exact mAgain_43 k _ p1 ((0 : Int32)) ((0 : Int32)) ((0 : Int32)) I2 J2 rfl (h2) (by (try simp only [t1.o, true_or, or_true, true_and, and_true]); first | done | omega) (by (try simp only [t1.o, true_or, or_true, true_and, and_true]); first | done | omega) (by (try simp only [t1.o, true_or, or_true, true_and, and_true]); first | done | omega)
    · exact mAgain_43 k _ p1 ((0 : Int32)) ((1 : Int32)) ((0 : Int32)) I2 J2 rfl (h2) (by (try simp only [t1.o, true_or, or_true, true_and, and_true]); first | done | omega) (by (try simp only [t1.o, true_or, or_true, true_and, and_true]); first | done | omega) (by (try simp only [t1.o, true_or, or_true, true_and, and_true]); first | done | omega)
theorem mCarries {S : Nat × (Nat → Int32)} {d : Nat} {x : mX} {I0 : rI0} {J0 : rJ0} {Tl : Int32 × Option Int32} {R C : Int} {I : rI0} {J : rJ0} {p1 : Int32} {Q : Int32 → rI0 → rJ0 → Prop} (h : Mz_ I0 J0 Tl R C I J) (k : ∀ r I J, (Mz_ I0 J0 Tl R C I J) → Q r I J) : wcI S (d + 6) 215 [.ref 43, .int p1] x I J Q := by
  have bh := h.bnd
  refine c215_43 ?_
  have t1 : TI (0 : Int32) (0) := show (0 : Int32).toInt = 0 by decide
  have t2 : TI (1 : Int32) (1) := show (1 : Int32).toInt = 1 by decide
  refine mIn  ?_
  intro r1 g1a
  try simp only [t1.o, t2.o] at g1a
  refine ⟨fun q3 => ?_, fun q3 => ?_⟩
  · have c4 := j_eq q3 (ti_r (e := r1)) t1
    exact k _ _ _ (Mz_.si (n := 43) (k := 0) (h) (by decide))
  · have c5 := j_ne q3 (ti_r (e := r1)) t1
    obtain ⟨I6, eI6⟩ : ∃ z, z = (mSet I 43 0 (0 : Int32)) := ⟨_, rfl⟩
    rw [← eI6]
    have hI6 : Mz_ I0 J0 Tl R C I6 J := by rw [eI6]; exact (Mz_.si (n := 43) (k := 0) (h) (by decide))
    have zI6_47 : (I6 43 47).toInt = (I 43 47).toInt := by rw [eI6]; exact (ti_r : TI (I 43 47) (I 43 47).toInt)
    have zI6_42 : (I6 43 42).toInt = (I 43 42).toInt := by rw [eI6]; exact (ti_r : TI (I 43 42) (I 43 42).toInt)
    have zI6_63 : (I6 43 63).toInt = (I 43 63).toInt := by rw [eI6]; exact (ti_r : TI (I 43 63) (I 43 63).toInt)
    have zI6_3 : (I6 43 3).toInt = (I 43 3).toInt := by rw [eI6]; exact (ti_r : TI (I 43 3) (I 43 3).toInt)
    have yI6 : I6 45 = I 45 := by rw [eI6]; rfl
    have bhI6 := hI6.bnd
    refine mHeight (hI6) ?_
    intro r2 I2 J2 h2 g2a g2b g2c
    have bh2 := h2.bnd
    refine ⟨fun q7 => ?_, fun q7 => ?_⟩
    · have c8 := j_eq q7 (ti_r (e := p1)) t2
      exact k _ _ _ (h2)
    · have c9 := j_ne q7 (ti_r (e := p1)) t2
      refine ⟨fun q10 => ?_, fun q10 => ?_⟩
      · have c11 := j_eq q10 (ti_r (e := (I2 43 45))) t1
        exact k _ _ _ (h2)
      · have c12 := j_ne q10 (ti_r (e := (I2 43 45))) t1
        exact k _ _ _ (h2)
end MP1
