/-! began: what it leaves as it was -/
section TRL
variable {S : Nat × (Nat → Int32)} {d : Nat} {x : mX} {I I1 I2 : rI0} {J J1 J2 : rJ0} {g b : Nat → Int32} {W : Nat → lV} {P H : Nat → Bool}
/-- the class: readSketch -/
theorem c93f {n : Nat} {Q : Int32 → rI0 → rJ0 → Prop} (hC : CE g W P H I J) (hn : n ≤ 940) (k : ∀ r J', (∀ b, b ≠ 37 → J' b = J b) → Q r I J') : wcI S (d + 2) 93 [.ref 37, .int (nI n)] x I J Q := by
  have lp : ∀ (m s : Nat) (J1 : rJ0), s + m = 64 → (∀ b, b ≠ 37 → J1 b = J b) → wp S (d + 2) 93 17 [some (.ref 37), some (.int (nI n)), some (.int (nI s))] [] (wv x I J1) (rI x Q) := by
    intro m
    induction m with
    | zero =>
      intro s J1 hs f
      exact v93_37_17 ⟨fun _ => ⟨fun q => absurd q (nI_nlt (b := 64) (by omega) (by omega)), fun _ => k _ J1 f⟩, fun _ => k _ J1 f⟩
    | succ m ih =>
      intro s J1 hs f
      have nx : ∀ J2 : rJ0, (∀ b, b ≠ 37 → J2 b = J b) → wp S (d + 2) 93 17 [some (.ref 37), some (.int (nI n)), some (.int (nI s + 1))] [] (wv x I J2) (rI x Q) := fun J2 f2 => by
        rw [← nI_succ]
        exact ih (s + 1) J2 (by omega) f2
      have st : ∀ (J2 : rJ0) (q : Nat) (v : Int64), (∀ b, b ≠ 37 → J2 b = J b) → ∀ b, b ≠ 37 → mSet J2 37 q v b = J b := fun J2 q v f2 b hb => (mSet_ne hb).trans (f2 b hb)
      have inn : ¬ mOut (nI s) 940 := nI_in (by omega) (by omega)
      have B : ∀ (J2 : rJ0) (v s2 : Int32) (w : Int64), (∀ b, b ≠ 37 → J2 b = J b) → wp S (d + 2) 93 112 [some (.ref 37), some (.int (nI n)), some (.int (nI s))] [.int v, .int s2, .long w, .ref 37] (wv x I J2) (rI x Q) := fun J2 v s2 w f2 => v93_37_112 (c143 ⟨inn, fun _ => c143 (nx _ (st _ _ _ (st _ _ _ f2))), fun _ => c143 (nx _ (st _ _ _ (st _ _ _ f2)))⟩)
      have A : ∀ (J2 : rJ0) (v s2 : Int32) (w : Int64), (∀ b, b ≠ 37 → J2 b = J b) → wp S (d + 2) 93 75 [some (.ref 37), some (.int (nI n)), some (.int (nI s))] [.int v, .int s2, .long w, .ref 37] (wv x I J2) (rI x Q) := fun J2 v s2 w f2 => v93_37_75 (c143 ⟨inn, fun _ => B _ _ _ _ (st _ _ _ f2), fun _ => ⟨inn, fun _ => B _ _ _ _ (st _ _ _ f2), fun _ => B _ _ _ _ (st _ _ _ f2)⟩⟩)
      refine v93_37_17 ⟨fun _ => ⟨fun _ => cIs (g := g) (by rw [f 4 (by decide)]; exact hC.2.1.2.2.2.2.1) (fun _ _ _ _ _ => ⟨fun z => absurd z (by decide), fun _ => ⟨inn, fun _ => k _ J1 f, fun _ => ⟨inn, fun _ => A _ _ _ _ f, fun _ => A _ _ _ _ f⟩⟩⟩) (fun _ => ⟨fun _ => nx J1 f, fun z => absurd rfl z⟩), fun q => absurd (nI_lt (b := 64) (by omega) (by omega)) q⟩, fun _ => k _ J1 f⟩
  refine c93_37 (lp 64 0 _ (by omega) (fun b hb => ?_))
  rw [mSet_ne hb, mSet_ne hb, mSet_ne hb]
/-- what beganBy of the class leaves as it was -/
def FB2 (I : rI0) (J : rJ0) (I' : rI0) (J' : rJ0) : Prop := (∀ b, b ≠ 37 → b ≠ 41 → I' b = I b) ∧ (∀ q, q ≠ 12 → q ≠ 13 → I' 37 q = I 37 q) ∧ ∀ b, b ≠ 41 → J' b = J b
theorem FB2.n (f : FB2 I J I1 J1) (h : F41 I1 J1 I2 J2) : FB2 I J I2 J2 := ⟨fun b h1 h2 => (h.1 b h2).trans (f.1 b h1 h2), fun q h1 h2 => by rw [h.1 37 (by decide)]; exact f.2.1 q h1 h2, fun b h1 => (h.2 b h1).trans (f.2.2 b h1)⟩
theorem FB2.p {a c : Int32} (f : FB2 I J I1 J1) : FB2 I J (mSet (mSet I1 37 12 a) 37 13 c) J1 := ⟨fun b h1 h2 => by rw [mSet_ne h1, mSet_ne h1]; exact f.1 b h1 h2, fun q h1 h2 => by rw [mS_nk h2, mS_nk h1]; exact f.2.1 q h1 h2, f.2.2⟩
/-- the class: beganBy -/
theorem c94f {t : Nat} {Q : Int32 → rI0 → rJ0 → Prop} (hC : CE g W P H I J) (ht : t ≤ 600) (k : ∀ r I' J', FB2 I J I' J' → Q r I' J') : wcI S (d + 23) 94 [.ref 37, .int (nI t)] x I J Q := by
  have ce : ∀ I1 J1, FB2 I J I1 J1 → CE g W P H I1 J1 := fun I1 J1 f => hC.m3 (fun b h1 h2 => f.1 b (by omega) (by omega)) (fun b h1 h2 => f.2.2 b (by omega))
  have lp : ∀ (m u : Nat) (l2 : Int32) (I1 : rI0) (J1 : rJ0), u + m = 64 → FB2 I J I1 J1 → wp S (d + 23) 94 14 [some (.ref 37), some (.int (nI t)), some (.int l2), some (.int (nI u)), none] [] (wv x I1 J1) (rI x Q) := by
    intro m
    induction m with
    | zero =>
      intro u l2 I1 J1 hu f
      exact v94_37_14 ⟨fun q => absurd q (nI_nlt (b := 64) (by omega) (by omega)), fun _ => k _ _ _ f⟩
    | succ m ih =>
      intro u l2 I1 J1 hu f
      have nxu : ∀ (l2 : Int32) (I2 : rI0) (J2 : rJ0), FB2 I J I2 J2 → wp S (d + 23) 94 14 [some (.ref 37), some (.int (nI t)), some (.int l2), some (.int (nI u + 1)), none] [] (wv x I2 J2) (rI x Q) := fun l2 I2 J2 f2 => by
        rw [← nI_succ]
        exact ih (u + 1) l2 I2 J2 (by omega) f2
      have inn : ∀ (q v : Nat) (l2 : Int32) (I2 : rI0) (J2 : rJ0), v + q = 64 → FB2 I J I2 J2 → wp S (d + 23) 94 23 [some (.ref 37), some (.int (nI t)), some (.int l2), some (.int (nI u)), some (.int (nI v))] [] (wv x I2 J2) (rI x Q) := by
        intro q
        induction q with
        | zero =>
          intro v l2 I2 J2 hv f2
          exact v94_37_23 ⟨fun w => absurd w (nI_nlt (b := 64) (by omega) (by omega)), fun _ => nxu l2 I2 J2 f2⟩
        | succ q ihq =>
          intro v l2 I2 J2 hv f2
          have nxv : ∀ (l2 : Int32) (I3 : rI0) (J3 : rJ0), FB2 I J I3 J3 → wp S (d + 23) 94 23 [some (.ref 37), some (.int (nI t)), some (.int l2), some (.int (nI u)), some (.int (nI v + 1))] [] (wv x I3 J3) (rI x Q) := fun l2 I3 J3 f3 => by
            rw [← nI_succ]
            exact ihq (v + 1) l2 I3 J3 (by omega) f3
          have N : ∀ (s1 : Int32) (I3 : rI0) (J3 : rJ0), FB2 I J I3 J3 → wp S (d + 23) 94 109 [some (.ref 37), some (.int (nI t)), some (.int l2), some (.int (nI u)), some (.int (nI v))] [.int s1, .ref 37] (wv x I3 J3) (rI x Q) := fun s1 I3 J3 f3 => v94_37_109 ⟨fun _ => ⟨fun _ => nxv _ _ _ f3.p, fun _ => nxv _ _ _ f3.p⟩, fun _ => nxv _ _ _ f3.p⟩
          have hC2 := ce I2 J2 f2
          refine v94_37_23 (d := d + 22) ⟨fun _ => cIs hC2.2.1.2.2.2.2.1 (fun u' hu' eu hsu _ => ⟨fun z => absurd z (by decide), fun _ => cIs hC2.2.1.2.2.2.2.1 (fun v' hv' ev hsv _ => ⟨fun z => absurd z (by decide), fun _ => ?_⟩) (fun hsi => ⟨fun _ => nxv l2 I2 J2 f2, fun z => absurd rfl z⟩)⟩) (fun hsi => ⟨fun _ => nxu l2 I2 J2 f2, fun z => absurd rfl z⟩), fun w => absurd (nI_lt (b := 64) (by omega) (by omega)) w⟩
          have eu : u = u' := nI_inj (by omega) (by omega) eu
          have ev : v = v' := nI_inj (by omega) (by omega) ev
          subst eu
          subst ev
          have hP2 : ∀ s, (decide (s = u) || decide (s = v)) = true → seB g s = true := fun s hs => by
            rw [Bool.or_eq_true, decide_eq_true_iff, decide_eq_true_iff] at hs
            rcases hs with z | z
            · rw [z]
              exact hsu
            · rw [z]
              exact hsv
          refine be_41 (d := d + 19) (P := fun s => decide (s = u) || decide (s = v)) (H := H) hC2.1 hC2.2.1 hP2 (fun s hs => by rw [b5_or, b5_1 (by omega), b5_1 (by omega)]) hC2.2.2.2.2.1 (fun I3 J3 f3 n3 => ?_)
          refine go_41 (d := d) (P := fun s => decide (s = u) || decide (s = v)) (H := H) (W := W) hC2.1 hP2 ht (Nat.zero_le _) (hC2.2.1.n41 f3) n3 (fun I4 J4 _ f4 _ _ _ => ?_)
          have f5 := (f2.n f3).n f4
          have a0 : ∀ Z : Prop, Z → ((0 : Int32) = 0 → Z) ∧ (¬ (0 : Int32) = 0 → (l2 = 0 → wp S (d + 23) 94 109 [some (.ref 37), some (.int (nI t)), some (.int l2), some (.int (nI u)), some (.int (nI v))] [.int (nI u), .ref 37] (wv x I4 J4) (rI x Q)) ∧ (¬ l2 = 0 → wp S (d + 23) 94 109 [some (.ref 37), some (.int (nI t)), some (.int l2), some (.int (nI u)), some (.int (nI v))] [.int (I4 37 12), .ref 37] (wv x I4 J4) (rI x Q))) := fun Z z => ⟨fun _ => z, fun y => absurd rfl y⟩
          exact c95_37 ⟨fun _ => ⟨fun _ => ⟨fun z => absurd z (by decide), fun _ => ⟨fun _ => N _ _ _ f5, fun _ => N _ _ _ f5⟩⟩, fun _ => a0 _ (nxv l2 _ _ f5)⟩, fun _ => a0 _ (nxv l2 _ _ f5)⟩
      exact v94_37_14 ⟨fun _ => inn (64 - u) u l2 I1 J1 (by omega) f, fun q => absurd (nI_lt (b := 64) (by omega) (by omega)) q⟩
  exact c94_37 (lp 64 0 _ _ J (by omega) (FB2.p ⟨fun _ _ _ => rfl, fun _ _ _ => rfl, fun _ _ => rfl⟩))
/-- what began of the class leaves as it was -/
def FBc (I : rI0) (J : rJ0) (I' : rI0) (J' : rJ0) : Prop := (∀ b, b ≠ 1 → b ≠ 37 → b ≠ 41 → I' b = I b) ∧ (∀ q, q ≠ 12 → q ≠ 13 → I' 37 q = I 37 q) ∧ ∀ b, b ≠ 37 → b ≠ 41 → J' b = J b
theorem xBegan {p1 : Int32} {n : Nat} {Q : Int32 → rI0 → rJ0 → Prop} (hC : CE g W P H I J) (e1 : I 1 1 = nI n) (hn : n ≤ 940) (k : ∀ r I' J', FBc I J I' J' → Q r I' J') : wcI S (d + 24) 127 [.ref 0, .int p1] x I J Q := by
  have f0 : FBc I J (mSet I 1 1 0) J := ⟨fun b h1 _ _ => mSet_ne h1, fun q _ _ => by rw [mSet_ne (by decide)], fun _ _ _ => rfl⟩
  have hC1 : CE g W P H (mSet I 1 1 0) J := hC.m3 (fun b h1 h2 => mSet_ne (by omega)) (fun _ _ _ => rfl)
  refine c127_0 (d := d + 23) (c67_1 ?_)
  rw [e1]
  refine ⟨fun _ => k _ _ _ f0, fun q0 => ⟨fun _ => k _ _ _ f0, fun q1 => c140_0 (d := d + 22) (bcX ⟨fun _ => ⟨fun z => absurd z (by decide), fun _ => k _ _ _ f0⟩, fun _ => ⟨fun _ => c23_4 ⟨fun _ => c93f (d := d + 21) hC1 hn (fun r J2 f2 => ?_), fun _ => k _ _ _ f0⟩, fun z => absurd rfl z⟩⟩)⟩⟩
  have f3 : FBc I J (mSet I 1 1 0) J2 := ⟨f0.1, f0.2.1, fun b h1 h2 => (f2 b h1).trans (f0.2.2 b h1 h2)⟩
  obtain ⟨t, ht, et⟩ := i_nat (n := 60) (by omega) q0 q1
  subst et
  refine ⟨fun _ => k _ _ _ f3, fun _ => c94f (d := d) (hC1.m3 (fun _ _ _ => rfl) (fun b h1 h2 => f2 b (by omega))) (by omega) (fun r I4 J4 f4 => k _ _ _ ⟨fun b h1 h2 h3 => (f4.1 b h2 h3).trans (f3.1 b h1 h2 h3), fun q h1 h2 => (f4.2.1 q h1 h2).trans (f3.2.1 q h1 h2), fun b h1 h2 => (f4.2.2 b h2).trans (f3.2.2 b h1 h2)⟩)⟩
/-- the reference: isSketch -/
theorem r228f {t : Nat} {p1 : Int64} {Q : Int32 → rI0 → rJ0 → Prop} (h : RH g W I J) (ht : t ≤ 600) (e1 : ∀ s, s < 64 → bits5 p1 s = P s) (e2 : ∀ s, s < 64 → bits5 (J 43 17) s = H s) (k : ∀ r I' J', FN I J I' J' → RH g W I' J' → Q r I' J') : wcI S (d + 5) 228 [.ref 43, .long p1, .int (nI t)] x I J Q := by
  have lp : ∀ (m u : Nat) (I1 : rI0) (J1 : rJ0), u + m = t + 1 → FN I J I1 J1 → RN g W P H u I1 J1 → wp S (d + 5) 228 9 [some (.ref 43), some (.long p1), none, some (.int (nI t))] [] (wv x I1 J1) (rI x Q) := by
    intro m
    induction m with
    | zero =>
      intro u I1 J1 hu f r
      refine v228_43_9 ?_
      rw [r.2.2.2.2.2.2.2.1.1]
      exact ⟨fun _ => ⟨fun _ => ⟨fun _ => k _ _ _ f r.h, fun _ => k _ _ _ f r.h⟩, fun _ => k _ _ _ f r.h⟩, fun q => absurd (nI_lt (by omega) (by omega)) q⟩
    | succ m ih =>
      intro u I1 J1 hu f r
      refine v228_43_9 (d := d + 4) ?_
      rw [r.2.2.2.2.2.2.2.1.1]
      exact ⟨fun q => absurd q (nI_nlt (by omega) (by omega)), fun _ => rmo (d := d + 1) r (by omega) (fun I2 J2 f2 r2 => ih (u + 1) I2 J2 (by omega) (f.tr f2) r2)⟩
  exact c228_43 (d := d + 4) (rbg (d := d) (P := P) (H := H) h e1 e2 (fun I1 J1 f1 r1 => lp (t + 1) 0 I1 J1 (by omega) f1 r1))
/-- what began of the reference leaves as it was -/
def FBy (I : rI0) (J : rJ0) (I' : rI0) (J' : rJ0) : Prop := (∀ b, b ≠ 43 → b ≠ 50 → I' b = I b) ∧ (∀ q, q ≠ 0 → ¬ (2 ≤ q ∧ q ≤ 5) → q ≠ 30 → ¬ (42 ≤ q ∧ q ≤ 43) → q ≠ 59 → q ≠ 60 → I' 43 q = I 43 q) ∧ (∀ b, b ≠ 43 → ¬ (51 ≤ b ∧ b ≤ 55) → J' b = J b) ∧ ∀ q, ¬ (36 ≤ q ∧ q ≤ 41) → ¬ (56 ≤ q ∧ q ≤ 58) → J' 43 q = J 43 q
theorem FBy.n (f : FBy I J I1 J1) (h : FN I1 J1 I2 J2) : FBy I J I2 J2 := ⟨fun b h1 h2 => (h.1 b h1 h2).trans (f.1 b h1 h2), fun q h1 h2 h3 h4 h5 h6 => (h.2.1 q h3 (by omega) (by omega)).trans (f.2.1 q h1 h2 h3 h4 h5 h6), fun b h1 h2 => (h.2.2.1 b h1 h2).trans (f.2.2.1 b h1 h2), fun q h1 h2 => (h.2.2.2 q h1).trans (f.2.2.2 q h1 h2)⟩
theorem FBy.p {a c : Int32} (f : FBy I J I1 J1) : FBy I J (mSet (mSet I1 43 59 a) 43 60 c) J1 := ⟨fun b h1 h2 => by rw [mSet_ne h1, mSet_ne h1]; exact f.1 b h1 h2, fun q h1 h2 h3 h4 h5 h6 => by rw [mS_nk h6, mS_nk h5]; exact f.2.1 q h1 h2 h3 h4 h5 h6, f.2.2.1, f.2.2.2⟩
theorem yBegan {p1 : Int32} {n : Nat} {Q : Int32 → rI0 → rJ0 → Prop} (hR : RH g W I J) (e17 : ∀ s, s < 64 → bits5 (J 43 17) s = H s) (e2 : I 43 2 = nI n) (hn : n ≤ 940) (k : ∀ r I' J', FBy I J I' J' → RH g W I' J' → Q r I' J') : wcI S (d + 6) 229 [.ref 43, .int p1] x I J Q := by
  obtain ⟨z0, z1, -, -, -, -⟩ := k0c
  have z2 : (2 : Int32).toNatClampNeg = 2 := by decide
  have hG := hR.1
  have hI := hR.2.1
  have rc : gN g 0 * gN g 1 ≤ 64 := Nat.le_trans (Nat.mul_le_mul hG.1 hG.2.1) (by decide)
  have r1 : RH g W (mSet (mSet (mSet (mSet (mSet I 43 0 0) 43 3 (mSet I 43 0 0 43 2)) 43 2 0) 43 4 0) 43 5 940) J := ((((hR.q (by decide)).q (by decide)).q (by decide)).q (by decide)).q (by decide)
  have f1 : FBy I J (mSet (mSet (mSet (mSet (mSet I 43 0 0) 43 3 (mSet I 43 0 0 43 2)) 43 2 0) 43 4 0) 43 5 940) J := ⟨fun b h1 _ => by rw [mSet_ne h1, mSet_ne h1, mSet_ne h1, mSet_ne h1, mSet_ne h1], fun q h1 h2 _ _ _ _ => by rw [mS_nk (by omega), mS_nk (by omega), mS_nk (by omega), mS_nk (by omega), mS_nk h1], fun _ _ _ => rfl, fun _ _ _ => rfl⟩
  have e3 : mSet (mSet (mSet (mSet (mSet I 43 0 0) 43 3 (mSet I 43 0 0 43 2)) 43 2 0) 43 4 0) 43 5 940 43 3 = nI n := by
    rw [mS_nk (by decide), mS_nk (by decide), mS_nk (by decide), mSet_at, mS_nk (by decide)]
    exact e2
  refine c229_43 (d := d + 5) (c150_43 ⟨by decide, by decide, ?_⟩)
  revert r1 f1 e3
  generalize mSet (mSet (mSet (mSet (mSet I 43 0 0) 43 3 (mSet I 43 0 0 43 2)) 43 2 0) 43 4 0) 43 5 940 = I1
  intro r1 f1 e3
  rw [e3, z0, z1, r1.2.2.2.2.1, hI.1 0 (by omega), hI.1 1 (by omega), nI_mu, z2]
  refine ⟨fun en => rIn (a := 0) (b := 60) (by decide) (by decide) (by omega) (fun t _ ht et _ => ⟨fun z => absurd z (by decide), fun _ => ⟨by decide, fun _ => k _ _ _ f1 r1, fun _ => ?_⟩⟩) (fun _ => ⟨fun _ => k _ _ _ f1 r1, fun z => absurd rfl z⟩), fun _ => k _ _ _ f1 r1⟩
  subst et
  have en : n = gN g 0 * gN g 1 := nI_inj (by omega) (by omega) en
  have l208 : ∀ (m u : Nat) (l3 l5 l7 : Int64) (l9 : Int32) (I2 : rI0) (J2 : rJ0), u + m = gN g 0 * gN g 1 → FBy I J I2 J2 → RH g W I2 J2 → wp S (d + 6) 229 198 [some (.ref 43), some (.int (nI t)), some (.int (nI (gN g 0 * gN g 1))), some (.long l3), none, some (.long l5), none, some (.long l7), none, some (.int l9), some (.int (nI u)), none] [] (wv x I2 J2) (rI x Q) := by
    intro m
    induction m with
    | zero =>
      intro u l3 l5 l7 l9 I2 J2 hu f r
      exact v229_43_198 ⟨fun q => absurd q (nI_nlt (by omega) (by omega)), fun _ => k _ _ _ f r⟩
    | succ m ih =>
      intro u l3 l5 l7 l9 I2 J2 hu f r
      have inn : ∀ (q2 v : Nat) (l9 : Int32) (I2 : rI0) (J2 : rJ0), v + q2 = gN g 0 * gN g 1 → FBy I J I2 J2 → RH g W I2 J2 → wp S (d + 6) 229 208 [some (.ref 43), some (.int (nI t)), some (.int (nI (gN g 0 * gN g 1))), some (.long l3), none, some (.long l5), none, some (.long l7), none, some (.int l9), some (.int (nI u)), some (.int (nI v))] [] (wv x I2 J2) (rI x Q) := by
        intro q2
        induction q2 with
        | zero =>
          intro v l9 I2 J2 hv f r
          refine v229_43_208 ⟨fun q => absurd q (nI_nlt (by omega) (by omega)), fun _ => ?_⟩
          rw [← nI_succ]
          exact ih (u + 1) l3 l5 l7 l9 I2 J2 (by omega) f r
        | succ q2 ihq =>
          intro v l9 I2 J2 hv f r
          have nxv : ∀ (l9 : Int32) (I3 : rI0) (J3 : rJ0), FBy I J I3 J3 → RH g W I3 J3 → wp S (d + 6) 229 208 [some (.ref 43), some (.int (nI t)), some (.int (nI (gN g 0 * gN g 1))), some (.long l3), none, some (.long l5), none, some (.long l7), none, some (.int l9), some (.int (nI u)), some (.int (nI v + 1))] [] (wv x I3 J3) (rI x Q) := fun l9 I3 J3 f3 r3 => by
            rw [← nI_succ]
            exact ihq (v + 1) l9 I3 J3 (by omega) f3 r3
          have nxp : ∀ (a c : Int32) (I3 : rI0) (J3 : rJ0), FBy I J I3 J3 → RH g W I3 J3 → wp S (d + 6) 229 208 [some (.ref 43), some (.int (nI t)), some (.int (nI (gN g 0 * gN g 1))), some (.long l3), none, some (.long l5), none, some (.long l7), none, some (.int (l9 + 1)), some (.int (nI u)), some (.int (nI v + 1))] [] (wv x (mSet (mSet I3 43 59 a) 43 60 c) J3) (rI x Q) := fun a c I3 J3 f3 r3 => nxv _ _ _ f3.p ((r3.q (by decide)).q (by decide))
          refine v229_43_208 (d := d + 5) ⟨fun _ => rIs (d := d + 4) hG hI r.2.2.2.2.1 (fun u' hu' eu hsu _ => ⟨fun z => absurd z (by decide), fun _ => rIs (d := d + 4) hG hI r.2.2.2.2.1 (fun v' hv' ev hsv _ => ⟨fun z => absurd z (by decide), fun _ => ?_⟩) (fun _ => ⟨fun _ => nxv _ _ _ f r, fun z => absurd rfl z⟩)⟩) (fun _ => ⟨fun _ => nxv _ _ _ f r, fun z => absurd rfl z⟩), fun w => absurd (nI_lt (by omega) (by omega)) w⟩
          refine r228f (d := d) (P := fun s => bits5 (((1 : Int64) <<< ((nI u).toInt64 &&& 63)) ||| ((1 : Int64) <<< ((nI v).toInt64 &&& 63))) s) (H := H) r (by omega) (fun _ _ => rfl) (fun s hs => by rw [f.2.2.2 17 (by omega) (by omega)]; exact e17 s hs) (fun r3 I3 J3 f3 h3 => ⟨fun _ => nxv _ _ _ (f.n f3) h3, fun _ => ⟨fun _ => nxv _ _ _ (f.n f3) h3, fun _ => ⟨fun _ => nxp _ _ _ _ (f.n f3) h3, fun _ => nxp _ _ _ _ (f.n f3) h3⟩⟩⟩)
      exact v229_43_198 ⟨fun _ => inn (gN g 0 * gN g 1 - u) u l9 I2 J2 (by omega) f r, fun w => absurd (nI_lt (by omega) (by omega)) w⟩
  have l68 : ∀ (m i : Nat) (l3 l5 l7 : Int64), i + m = n → wp S (d + 6) 229 68 [some (.ref 43), some (.int (nI t)), some (.int (nI (gN g 0 * gN g 1))), some (.long l3), none, some (.long l5), none, some (.long l7), none, some (.int (nI i)), none, none] [] (wv x I1 J) (rI x Q) := by
    intro m
    induction m with
    | zero =>
      intro i l3 l5 l7 hi
      refine v229_43_68 ?_
      rw [e3]
      refine ⟨fun q => absurd q (nI_nlt (by omega) (by omega)), fun _ => l208 (gN g 0 * gN g 1) 0 l3 l5 l7 _ _ _ (by omega) ?_ ?_⟩
      · have t := f1.p (a := -1) (c := -1)
        exact ⟨t.1, t.2.1, fun b h1 h2 => by rw [mSet_ne h1, mSet_ne h1, mSet_ne h1], fun q h1 h2 => by rw [mS_nk (by omega), mS_nk (by omega), mS_nk (by omega)]⟩
      · exact ((r1.q (by decide)).q (by decide)).j (by rw [mSet_ne (by decide), mSet_ne (by decide), mSet_ne (by decide)])
    | succ m ih =>
      intro i l3 l5 l7 hi
      have nx : ∀ l3 l5 l7 : Int64, wp S (d + 6) 229 68 [some (.ref 43), some (.int (nI t)), some (.int (nI (gN g 0 * gN g 1))), some (.long l3), none, some (.long l5), none, some (.long l7), none, some (.int (nI i + 1)), none, none] [] (wv x I1 J) (rI x Q) := fun l3 l5 l7 => by
        rw [← nI_succ]
        exact ih (i + 1) l3 l5 l7 (by omega)
      have a6 : (6 : Int32) + nI i = nI (6 + i) := by
        rw [show (6 : Int32) = nI 6 from rfl, nI_add]
      refine v229_43_68 ?_
      rw [e3]
      refine ⟨fun _ => c155_43 ⟨nI_in (by omega) (by omega), fun _ => k _ _ _ f1 r1, fun _ => ⟨fun _ => nx _ _ _, fun _ => ⟨?_, fun _ => nx _ _ _, fun _ => ⟨fun _ => v229_43_138 ⟨fun _ => nx _ _ _, fun _ => nx _ _ _⟩, fun _ => v229_43_138 ⟨fun _ => nx _ _ _, fun _ => nx _ _ _⟩⟩⟩⟩⟩, fun w => absurd (nI_lt (by omega) (by omega)) w⟩
      rw [a6]
      exact nI_in (by omega) (by omega)
  exact l68 n 0 0 0 0 (by omega)
end TRL
