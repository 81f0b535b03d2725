section
/-! the other calls -/
section OU0
variable {S : Nat × (Nat → Int32)} {d n : Nat} {x : mX} {I I' I1 I2 : rI0} {J J' J1 J2 : rJ0} {g : Nat → Int32} {W : Nat → lV} {Q : Int32 → rI0 → rJ0 → Prop}
theorem NTw.z {v : Int32} (nt : NTw W x I J) (rl : RLx x I J) : NTw W x (mSet I 43 0 v) J := nt.go rl (mSet_ne (by decide)) (nt.2.2.2.2.1.m3 (fun b h1 h2 => mSet_ne (by omega)) (fun _ _ _ => rfl)) (mSet_ne (by decide)) rfl rfl rfl (fun b hb => mSet_ne (by omega)) (fun _ _ => rfl) (nt.2.2.1.mv (fun q _ _ => by rw [mSet_ne (by decide)]) (mSet_ne (by decide)) (fun q hq => mS_nk (by omega)) (mSet_ne (by decide)) rfl rfl (by rw [mSet_ne (by decide)])) (fun z => nt.2.2.2.1 (by rw [mS_nk (by decide)] at z; exact z)) (nt.2.2.2.2.2.2.mv (fun b hb => mSet_ne (by omega)) (fun _ _ => rfl))
theorem op_sm {dc mc dr mr : Nat} {as bs : List Value} {V : Int32} (h : INV n x I J) (rl : RLx x I J) (nt : NTw W x I J) (cb : wcI S dc mc as x I J (fun _ I1 J1 => CV I1 J1 ∧ UN I J I1 J1 ∧ I1 1 1 = I 1 1)) (cx : wcI S dc mc as x I J (fun v I1 J1 => v = V ∧ I1 = I ∧ J1 = J)) (rb : ∀ I1 J1, MV I1 J1 → wcI S dr mr bs x I1 J1 (fun _ I2 J2 => Mz_ I1 J1 (I1 43 2, some (I1 43 13)) (I1 45 0).toInt (I1 45 1).toInt I2 J2)) (ry : wcI S dr mr bs x I J (fun r I2 J2 => r = V ∧ I2 = mSet I 43 0 0 ∧ J2 = J)) (k : ∀ r1 I1 J1, wcI S dr mr bs x I1 J1 (fun r2 I2 J2 => r1 = r2 ∧ INV (n + 1) x I2 J2 ∧ RX x I2 J2) → Q r1 I1 J1) : wcI S dc mc as x I J Q := by
  refine op_k h rl cb cx rb (fun v I1 J1 c u m => ?_) k
  obtain ⟨c1, c2, c3⟩ := c
  subst c2 c3
  refine wcI_mono ry (fun r I2 J2 g => ?_)
  obtain ⟨g1, g2, g3⟩ := g
  subst g2 g3
  exact ⟨c1.trans g1.symm, W, nt.z rl⟩
theorem op_3 (h : INV n x I J) (ht : RX x I J) (k : ∀ r1 I1 J1, wcI S (d + 47) 182 [.ref 43] x I1 J1 (fun r2 I2 J2 => r1 = r2 ∧ INV (n + 1) x I2 J2 ∧ RX x I2 J2) → Q r1 I1 J1) : wcI S (d + 47) 102 [.ref 0] x I J Q := by
  obtain ⟨rl, W, nt⟩ := ht
  exact op_sm h rl nt (faultP h.1 (fun _ _ _ c u => ⟨c, u.1, u.2⟩)) (c102_0 ⟨rfl, rfl, rfl⟩) (fun I1 J1 m => mFault m.mq (fun _ _ _ z => z)) (c182_43 ⟨rl.2.2.2.symm, rfl, rfl⟩) k
theorem op_21 (h : INV n x I J) (ht : RX x I J) (k : ∀ r1 I1 J1, wcI S (d + 47) 220 [.ref 43] x I1 J1 (fun r2 I2 J2 => r1 = r2 ∧ INV (n + 1) x I2 J2 ∧ RX x I2 J2) → Q r1 I1 J1) : wcI S (d + 47) 120 [.ref 0] x I J Q := by
  obtain ⟨rl, W, nt⟩ := ht
  exact op_sm h rl nt (boughtP h.1 (fun _ _ _ c u => ⟨c, u.1, u.2⟩)) (c120_0 ⟨rfl, rfl, rfl⟩) (fun I1 J1 m => mBought m.mq (fun _ _ _ z => z)) (c220_43 ⟨nt.2.2.1.1.symm, rfl, rfl⟩) k
theorem op_37 (h : INV n x I J) (ht : RX x I J) (k : ∀ r1 I1 J1, wcI S (d + 47) 238 [.ref 43] x I1 J1 (fun r2 I2 J2 => r1 = r2 ∧ INV (n + 1) x I2 J2 ∧ RX x I2 J2) → Q r1 I1 J1) : wcI S (d + 47) 136 [.ref 0] x I J Q := by
  obtain ⟨rl, W, nt⟩ := ht
  exact op_sm h rl nt (arrangedP h.1 (fun _ _ _ c u => ⟨c, u.1, u.2⟩)) (c136_0 ⟨rfl, rfl, rfl⟩) (fun I1 J1 m => mArranged m.mq (fun _ _ _ z => z)) (c238_43 ⟨nt.2.2.1.2.2.2.symm, rfl, rfl⟩) k
theorem op_5 {p1 p2 : Int32} (h : INV n x I J) (ht : RX x I J) (k : ∀ r1 I1 J1, wcI S (d + 47) 189 [.ref 43, .int p1, .int p2] x I1 J1 (fun r2 I2 J2 => r1 = r2 ∧ INV (n + 1) x I2 J2 ∧ RX x I2 J2) → Q r1 I1 J1) : wcI S (d + 47) 104 [.ref 0, .int p1, .int p2] x I J Q := by
  obtain ⟨rl, W, nt⟩ := ht
  obtain ⟨A, h1, h0⟩ : ∃ A : Int32, (0 ≤ p1.toInt ∧ p1.toInt < 6 ∧ 0 ≤ p2.toInt ∧ p2.toInt ≤ 1 → A = I 9 ((2 : Int32) * p1 + p2).toNatClampNeg) ∧ (¬ (0 ≤ p1.toInt ∧ p1.toInt < 6 ∧ 0 ≤ p2.toInt ∧ p2.toInt ≤ 1) → A = -1) := by
    by_cases c : 0 ≤ p1.toInt ∧ p1.toInt < 6 ∧ 0 ≤ p2.toInt ∧ p2.toInt ≤ 1
    · exact ⟨_, fun _ => rfl, fun z => absurd c z⟩
    · exact ⟨_, fun z => absurd z c, fun _ => rfl⟩
  exact op_sm h rl nt (zLaw (fun _ => ⟨h.1, UN.rf, rfl⟩)) (lawCx h1 h0) (fun I1 J1 m => mLaw m.mq (fun _ _ _ z => z)) (wcI_mono (wcI_and (lawR (d := d + 46) rl.2.1.1 h1 h0) (lawRf (d := d + 46))) (fun r I2 J2 g => ⟨g.1, g.2.1, g.2.2⟩)) k
theorem op_40 {p1 : Int32} (h : INV n x I J) (ht : RX x I J) (k : ∀ r1 I1 J1, wcI S (d + 47) 245 [.ref 43, .int p1] x I1 J1 (fun r2 I2 J2 => r1 = r2 ∧ INV (n + 1) x I2 J2 ∧ RX x I2 J2) → Q r1 I1 J1) : wcI S (d + 47) 139 [.ref 0, .int p1] x I J Q := by
  obtain ⟨rl, W, nt⟩ := ht
  obtain ⟨V, hV⟩ := cnt_x (I := I) (J := J) p1
  have hC := nt.ce rl
  exact op_sm h rl nt (countP h.1 (fun _ _ _ c u => ⟨c, u.1, u.2⟩)) (xCount (d := d + 46) hV) (fun I1 J1 m => mCount m.mq (fun _ _ _ z => z)) (yCount (n := 0) (d := d + 46) (nt.rh rl h.2.1) hC.2.1 hC.2.2.2.2.2.1 rfl nt.1.2.2.1 nt.1.2.2.2.1 rl.1.1 hV) k
theorem op_27 {p1 : Int32} (h : INV n x I J) (ht : RX x I J) (k : ∀ r1 I1 J1, wcI S (d + 47) 227 [.ref 43, .int p1] x I1 J1 (fun r2 I2 J2 => r1 = r2 ∧ INV (n + 1) x I2 J2 ∧ RX x I2 J2) → Q r1 I1 J1) : wcI S (d + 47) 126 [.ref 0, .int p1] x I J Q := by
  obtain ⟨rl, W, nt⟩ := ht
  have hs := nt.2.2.1.2.2.1
  have l : (0 : Int32).toInt = 0 ∧ (2 : Int32).toInt = 2 := by decide
  refine op_sm (V := if p1.toInt = 0 then I 37 9 else if p1.toInt = 1 then I 37 10 else if p1.toInt = 2 then I 37 11 else -1) h rl nt (sideP h.1 (fun _ _ _ c u => ⟨c, u.1, u.2⟩)) (c126_0 ⟨fun z => ⟨?_, rfl, rfl⟩, fun z => ⟨?_, rfl, rfl⟩, fun z => ⟨?_, rfl, rfl⟩, fun z => ⟨?_, rfl, rfl⟩, trivial⟩) (fun I1 J1 m => mSide m.mq (fun _ _ _ z => z)) (c227_43 (d := d + 46) ⟨fun z => ⟨?_, rfl, rfl⟩, fun z => c151 ⟨fun y => ⟨fun _ => ⟨?_, rfl, rfl⟩, fun w => absurd rfl w⟩, fun y0 => ⟨fun y => ⟨fun _ => ⟨?_, rfl, rfl⟩, fun w => absurd rfl w⟩, fun y2 => ⟨fun w => absurd w (by decide), fun _ => ?_⟩⟩⟩⟩) k
  · rw [if_neg (by omega), if_neg (by omega), if_neg (by omega)]
  · rw [if_pos z]
  · rw [if_neg (by omega), if_pos z]
  · rw [if_neg (by omega), if_neg (by omega), if_pos z]
  · rcases hs with ⟨-, s1, s2, s3⟩ | ⟨s0, -⟩
    · rw [s1, s2, s3]
      split
      · rfl
      · split
        · rfl
        · split <;> rfl
    · exact absurd z s0
  · have y := i_lt y
    rw [l.1] at y
    rw [if_neg (by omega), if_neg (by omega), if_neg (by omega)]
  · have y := i_lt y
    rw [l.2] at y
    rw [if_neg (by omega), if_neg (by omega), if_neg (by omega)]
  · have y0 := i_nlt y0
    have y2 := i_nlt y2
    rw [l.1] at y0
    rw [l.2] at y2
    rcases hs with ⟨s0, -⟩ | ⟨-, s1, s2, s3⟩
    · exact absurd s0 z
    obtain ⟨q, hq, eq⟩ : ∃ q : Nat, q ≤ 2 ∧ p1 = nI q := ⟨p1.toInt.toNat, by omega, p_eq (by omega) (by omega)⟩
    subst eq
    refine ⟨nI_in (by omega) (by omega), ?_, rfl, rfl⟩
    rw [nI_clamp (by omega), mSet_ne (by decide), nI_toInt (by omega)]
    rcases (show q = 0 ∨ q = 1 ∨ q = 2 by omega) with w | w | w <;> subst w
    · rw [if_pos (by omega)]
      exact s1
    · rw [if_neg (by omega), if_pos (by omega)]
      exact s2
    · rw [if_neg (by omega), if_neg (by omega), if_pos (by omega)]
      exact s3
theorem op_29 {p1 : Int32} (h : INV n x I J) (ht : RX x I J) (k : ∀ r1 I1 J1, wcI S (d + 47) 230 [.ref 43, .int p1] x I1 J1 (fun _ I2 J2 => INV (n + 1) x I2 J2 ∧ RX x I2 J2) → Q r1 I1 J1) : wcI S (d + 47) 128 [.ref 0, .int p1] x I J Q := by
  obtain ⟨rl, W, nt⟩ := ht
  have K : wcI S (d + 47) 230 [.ref 43, .int p1] x I J (fun _ I2 J2 => INV (n + 1) x I2 J2 ∧ RX x I2 J2) := by
    refine wcI_mono (wcI_and (mBeganAt (h.2.1.mq) (fun _ _ _ z => z)) (c230_43 (Q := fun _ I2 J2 => I2 = mSet I 43 0 0 ∧ J2 = J) ⟨fun _ => ⟨rfl, rfl⟩, fun _ => ⟨fun _ => ⟨rfl, rfl⟩, fun _ => ⟨rfl, rfl⟩⟩⟩)) (fun r I2 J2 g => ?_)
    obtain ⟨g1, g2, g3⟩ := g
    refine ⟨h.m g1.f, rl_k rl UN.rf rfl g1, W, ?_⟩
    subst g2 g3
    exact nt.z rl
  exact c128_0 ⟨fun _ => k _ _ _ K, fun _ => ⟨fun _ => k _ _ _ K, fun _ => k _ _ _ K⟩⟩
theorem NTw.t1 (nt : NTw W x I J) (rl : RLx x I J) (hi : ∀ b, b ≠ 1 → b ≠ 2 → I1 b = I b) (f : FF I1 I2) : NTw W x I2 J := nt.go rl (by rw [f.1 45 (by decide) (by decide), hi 45 (by decide) (by decide)]) (nt.2.2.2.2.1.m3 (fun b h1 h2 => by rw [f.1 b (by omega) (by omega), hi b (by omega) (by omega)]) (fun _ _ _ => rfl)) (by rw [f.1 5 (by decide) (by decide), hi 5 (by decide) (by decide)]) rfl rfl rfl (fun b hb => by rw [f.1 b (by omega) (by omega), hi b (by omega) (by omega)]) (fun _ _ => rfl) (nt.2.2.1.mv (fun q _ _ => by rw [f.1 37 (by decide) (by decide), hi 37 (by decide) (by decide)]) (by rw [f.1 40 (by decide) (by decide), hi 40 (by decide) (by decide)]) (fun q hq => by rw [f.2 q (by omega) (by omega), hi 43 (by decide) (by decide)]) (by rw [f.1 60 (by decide) (by decide), hi 60 (by decide) (by decide)]) rfl rfl (by rw [f.1 0 (by decide) (by decide), hi 0 (by decide) (by decide)])) (fun z => nt.2.2.2.1 (by rw [f.2 30 (by decide) (by decide), hi 43 (by decide) (by decide)] at z; exact z)) (nt.2.2.2.2.2.2.mv (fun b hb => by rw [f.1 b (by omega) (by omega), hi b (by omega) (by omega)]) (fun _ _ => rfl))
theorem yEndF {p : Int32} : wcI S d 149 [.ref 43, .int p] x I J (fun _ I2 J2 => FF I I2 ∧ J2 = J) := by
  have f0 : FF I (mSet I 43 0 0) := ⟨fun b h1 _ => mSet_ne h1, fun q h1 _ => mS_nk h1⟩
  exact c149_43 ⟨fun _ => ⟨f0, rfl⟩, fun _ => ⟨fun _ => ⟨f0, rfl⟩, fun _ => ⟨f0.tr ⟨fun b h1 _ => mSet_ne h1, fun q _ h2 => mS_nk h2⟩, rfl⟩⟩⟩
theorem op_1 {p1 : Int32} (h : INV n x I J) (ht : RX x I J) (k : ∀ r1 I1 J1, wcI S (d + 47) 149 [.ref 43, .int p1] x I1 J1 (fun r2 I2 J2 => r1 = r2 ∧ INV (n + 1) x I2 J2 ∧ RX x I2 J2) → Q r1 I1 J1) : wcI S (d + 47) 100 [.ref 0, .int p1] x I J Q := by
  obtain ⟨rl, W, nt⟩ := ht
  refine wcI_mono (wcI_and (endP (Q := fun r I1 J1 => ((p1 < 0 ∨ I 1 1 < p1) ∧ r = 0 ∧ I1 = I ∧ J1 = J) ∨ (¬ (p1 < 0 ∨ I 1 1 < p1) ∧ r = 1 ∧ CV I1 J1 ∧ UN I J I1 J1 ∧ I1 1 1 = p1)) h.1 (fun q => Or.inl ⟨q, rfl, rfl, rfl⟩) (fun q0 q1 I1 c u e => Or.inr ⟨fun z => z.elim q0 q1, rfl, c, u, e⟩)) (c100_0 (Q := fun _ I1 J1 => (∀ b, b ≠ 1 → b ≠ 2 → I1 b = I b) ∧ J1 = J) ⟨fun _ => ⟨fun _ _ _ => rfl, rfl⟩, fun _ => ⟨fun _ => ⟨fun _ _ _ => rfl, rfl⟩, fun _ => ⟨fun b h1 _ => mSet_ne h1, rfl⟩⟩⟩)) (fun r1 I1 J1 g => k _ _ _ ?_)
  obtain ⟨g, hi, ej⟩ := g
  subst ej
  rcases g with ⟨q, e1, e2, -⟩ | ⟨q, e1, c, u, e2⟩
  · subst e1 e2
    refine wcI_mono (wcI_and (mEnd (Q := fun r I2 J2 => r = 0 ∧ Mz_ I1 J1 (I1 43 2, some (I1 43 13)) (I1 45 0).toInt (I1 45 1).toInt I2 J2) h.2.1.mq (fun _ I2 J2 m => ⟨rfl, m⟩) (fun z0 z1 => False.elim (q.elim z0 (fun y => z1 (by rw [← rl.1.1]; exact y))))) yEndF) (fun r I2 J2 g => ?_)
    obtain ⟨⟨g1, g2⟩, g3, g4⟩ := g
    subst g4
    exact ⟨g1.symm, h.m g2.f, rl_k rl UN.rf rfl g2, W, nt.t1 rl hi g3⟩
  · subst e1
    refine wcI_mono (wcI_and (mEnd (Q := fun r I2 J2 => r = 1 ∧ Mz_ I1 J1 (p1, some (I1 43 13)) (I1 45 0).toInt (I1 45 1).toInt I2 J2) ((h.c c u.w).2.1.mq) (fun z => absurd (z.elim Or.inl (fun y => Or.inr (ez rl.1 u.w y))) q) (fun _ _ I2 J2 m => ⟨rfl, m⟩)) yEndF) (fun r I2 J2 g => ?_)
    obtain ⟨⟨g1, g2⟩, g3, g4⟩ := g
    subst g4
    exact ⟨g1.symm, (h.c c u.w).m g2.f, rl_v rl u e2 g2, W, nt.t1 rl hi g3⟩
theorem op_0 {p1 p2 p3 p4 p5 : Int32} (h : INV n x I J) (ht : RX x I J) (k : ∀ r1 I1 J1, wcI S (d + 47) 147 [.ref 43, .int p1, .int p2, .int p3, .int p4, .int p5] x I1 J1 (fun r2 I2 J2 => r1 = r2 ∧ INV (n + 1) x I2 J2 ∧ RX x I2 J2) → Q r1 I1 J1) : wcI S (d + 47) 99 [.ref 0, .int p1, .int p2, .int p3, .int p4, .int p5] x I J Q := by
  obtain ⟨rl, W, nt⟩ := ht
  obtain ⟨m, hm, em⟩ := h.1.1
  refine feedP h.1 (fun q => k _ _ _ ?_) (fun q nn I1 en hn c u e1 e2 => k _ _ _ ?_)
  · refine wcI_mono (wcI_and (mFeed (n := m) (Q := fun r I2 J2 => r = -1 ∧ Mz_ I J (I 43 2, some (I 43 13)) (I 45 0).toInt (I 45 1).toInt I2 J2) (by rw [← rl.1.1]; exact em) hm h.2.1.mq (fun _ I2 J2 m => ⟨rfl, m⟩) (fun z => absurd (show (940 : Int32) < I 43 2 + 20 by rw [← rl.1.1]; exact q) z)) (yFeedF (by rw [← rl.1.1]; exact em) hm)) (fun r I2 J2 g => ?_)
    obtain ⟨⟨g1, g2⟩, g3, g4⟩ := g
    subst g4
    exact ⟨g1.symm, h.m g2.f, rl_k rl UN.rf rfl g2, W, nt.t1 rl (fun _ _ _ => rfl) g3⟩
  · have e43 : I1 43 2 = nI nn := by rw [u 43 (by decide) (by decide), ← rl.1.1]; exact en
    refine wcI_mono (wcI_and (mFeed (n := nn) (Q := fun r I2 J2 => r = I1 43 2 + 20 ∧ Mz_ (m4 (m4 (m4 (m4 (m4 I1 nn p1) (nn + 4) p2) (nn + 8) p3) (nn + 12) p4) (nn + 16) p5) J (I1 43 2 + 20, some (I1 43 13)) (I1 45 0).toInt (I1 45 1).toInt I2 J2) e43 (by omega) ((h.w c (fun b hb => u b (by omega) (by omega)) (fun _ _ => rfl)).2.1.mq) (fun z => absurd (fz rl.1 u z) q) (fun _ I2 J2 m => ⟨rfl, m⟩)) (yFeedF e43 (by omega))) (fun r I2 J2 g => ?_)
    obtain ⟨⟨g1, g2⟩, g3, g4⟩ := g
    subst g4
    exact ⟨(fe2 rl.1 u).trans g1.symm, (h.w c (fun b hb => u b (by omega) (by omega)) (fun _ _ => rfl)).m4 (fun b hb => by rw [m4_ne hb, m4_ne hb, m4_ne hb, m4_ne hb, m4_ne hb]) g2.f, rl_f rl u e2 (fe rl.1 u e1) g2, W, nt.t1 rl u g3⟩
theorem HM.m4 (h : HM g W I J) (hi : ∀ b, 3 ≤ b → b < 15 → I1 b = I b) (hj : ∀ b, 4 ≤ b → b < 15 → J1 b = J b) : HM g W I1 J1 := by
  unfold HM AM at *
  rw [hi 4 (by omega) (by omega), hi 8 (by omega) (by omega), hi 9 (by omega) (by omega), hi 10 (by omega) (by omega), hi 3 (by omega) (by omega), hi 12 (by omega) (by omega), hi 13 (by omega) (by omega), hi 14 (by omega) (by omega), hj 4 (by omega) (by omega), hj 6 (by omega) (by omega), hj 11 (by omega) (by omega)]
  exact h
/-! calls that change the evening -/
theorem cg_of (hG : GA g) (hI : GI g) : CG g := ⟨hG.2.2.2.2.2.1, hI.2.2.2.1, fun i hi => ⟨⟨(hI.2.2.2.2 i hi).1, (hG.2.2.2.2.2.2.1 i hi).1⟩, ⟨(hI.2.2.2.2 i hi).2.1, (hG.2.2.2.2.2.2.1 i hi).2.1⟩, fun z => ⟨(hI.2.2.2.2 i hi).2.2 z, (hG.2.2.2.2.2.2.1 i hi).2.2 z⟩, fun j hj => hG.2.2.2.2.2.2.2 j i (by omega) hi⟩⟩
theorem NTw.nw {P H : Nat → Bool} (kp : KP x I2 J2) (r : RH g W I2 J2) (ce : CE g W P H I2 J2) (hP : P = bits5 (J2 3 5)) (kd : KDs g I2) (j5 : J2 3 5 = J2 43 16) (j6 : J2 3 6 = J2 43 17) (tr : TRs I2 J2) (z : I2 31 6 = 0) : NTw W x I2 J2 := by
  subst hP
  unfold NTw
  rw [r.2.2.2.2.1]
  exact ⟨⟨⟨kd, ce.2.1.2.2.2.2.2.1, ce.2.1.2.2.2.2.2.2.2.2.1⟩, cg_of r.1 r.2.1, j5, j6, by rw [← j5]; exact ce.2.2.1⟩, kp, tr, r.2.2.2.2.2, ce.2.1, r.2.2.2.1, Or.inl z⟩
theorem NTw.kpm (nt : NTw W x I J) (rl : RLx x I J) (hi : ∀ b, b = 63 ∨ 68 ≤ b → I1 b = I b) (hj : ∀ b, b = 64 ∨ b = 65 ∨ 68 ≤ b → J1 b = J b) : KP x I1 J1 := nt.2.1.mv (fun k a hk e => (rl.2.2.1.1 k a hk e).1) hi hj
/-- PAID (q = 5) or HISSING (q = 6) are others now -/
theorem NTw.pd {w : Int64} {q : Nat} (nt : NTw W x I J) (rl : RLx x I J) (hq : q = 5 ∨ q = 6) (hs : q = 5 → ∀ s, bits5 w s = true → seB (I 45) s = true) (i2 : ∀ b, b ≠ 31 → b ≠ 43 → I2 b = I b) (z6 : I2 31 6 = 0) (i43 : ∀ q, q ≠ 0 → q ≠ 64 → I2 43 q = I 43 q) (r : RH (I 45) W I2 J) : NTw W x I2 (mSet (mSet J 3 q w) 43 (q + 11) w) := by
  have hC := nt.ce rl
  have r2 : RH (I 45) W I2 (mSet (mSet J 3 q w) 43 (q + 11) w) := r.j (by rw [mSet_ne (by decide), mSet_ne (by decide)])
  have hM : HM (I 45) W I2 (mSet (mSet J 3 q w) 43 (q + 11) w) := hC.2.1.m4 (fun b h1 h2 => i2 b (by omega) (by omega)) (fun b h1 h2 => by rw [mSet_ne (by omega), mSet_ne (by omega)])
  have kd : KDs (I 45) I2 := nt.kd.mv (i2 5 (by decide) (by decide))
  have kp : KP x I2 (mSet (mSet J 3 q w) 43 (q + 11) w) := nt.kpm rl (fun b hb => i2 b (by omega) (by omega)) (fun b hb => by rw [mSet_ne (by omega), mSet_ne (by omega)])
  have j5 := nt.1.2.2.1
  have j6 := nt.1.2.2.2.1
  refine NTw.nw (P := bits5 (mSet (mSet J 3 q w) 43 (q + 11) w 3 5)) (H := bits5 (mSet (mSet J 3 q w) 43 (q + 11) w 3 6)) kp r2 ⟨hC.1, hM, ?_, fun _ _ => rfl, fun _ _ => rfl, by rw [i2 4 (by decide) (by decide)]; exact hC.2.2.2.2.2.1, hC.2.2.2.2.2.2⟩ rfl kd ?_ ?_ ?_ z6
  · rw [mSet_ne (by decide)]
    rcases hq with hq | hq <;> subst hq
    · rw [mSet_at]
      exact hs rfl
    · rw [mS_nk (by decide)]
      exact hC.2.2.1
  · rw [mSet_ne (show 3 ≠ 43 by decide)]
    rcases hq with hq | hq <;> subst hq
    · rw [mSet_at, mSet_at]
    · rw [mS_nk (by decide), mS_nk (by decide), mSet_ne (by decide)]
      exact j5
  · rw [mSet_ne (show 3 ≠ 43 by decide)]
    rcases hq with hq | hq <;> subst hq
    · rw [mS_nk (by decide), mS_nk (by decide), mSet_ne (by decide)]
      exact j6
    · rw [mSet_at, mSet_at]
  · refine nt.2.2.1.mv (fun k _ _ => by rw [i2 37 (by decide) (by decide)]) (i2 40 (by decide) (by decide)) (fun k hk => i43 k (by omega) (by omega)) (i2 60 (by decide) (by decide)) (by rw [mSet_ne (by decide), mSet_ne (by decide)]) ?_ (by rw [i2 0 (by decide) (by decide)])
    rw [mS_nk (by omega), mSet_ne (by decide)]
theorem op_6 {p1 p2 : Int32} (h : INV n x I J) (ht : RX x I J) (k : ∀ r1 I1 J1, wcI S (d + 47) 190 [.ref 43, .int p1, .int p2] x I1 J1 (fun r2 I2 J2 => r1 = r2 ∧ INV (n + 1) x I2 J2 ∧ RX x I2 J2) → Q r1 I1 J1) : wcI S (d + 47) 105 [.ref 0, .int p1, .int p2] x I J Q := by
  obtain ⟨rl, W, nt⟩ := ht
  have hC := nt.ce rl
  refine op_k h rl (payP h.1 (fun _ _ _ c u => ⟨c, u.1, u.2⟩)) (xPay (d := d + 46) (g := I 45) (Q := fun v I1 J1 => ((seI (I 45) p1 && r01 p2) = false ∧ v = 0 ∧ I1 = I ∧ J1 = J) ∨ ((seI (I 45) p1 && r01 p2) = true ∧ v = 1 ∧ ∃ s e w, p1 = nI s ∧ p2 = nI e ∧ seB (I 45) s = true ∧ wbB (J 3 5) s e w ∧ I1 = mSet I 31 6 0 ∧ J1 = mSet J 3 5 w)) hC.2.1.2.2.2.2.1 (fun z => Or.inl ⟨z, rfl, rfl, rfl⟩) (fun s e w e1 e2 e3 e4 e5 => Or.inr ⟨e4, rfl, s, e, w, e1, e2, e3, e5, rfl, rfl⟩)) (fun I1 J1 m => mPay m.mq (fun _ _ _ z => z)) (fun v I1 J1 c u m => ?_) k
  have r1 := nt.r1 rl h.2.1 u
  rcases c with ⟨z, cv, c1, c2⟩ | ⟨z, cv, s, e, w, e1, e2, e3, e5, c1, c2⟩
  · subst c1 c2
    exact yPay (d := d + 45) r1.1 (fun _ => ⟨cv, W, nt.z rl⟩) (fun _ _ _ _ _ _ y _ => absurd (z.symm.trans y) (by decide))
  · subst c1 c2
    refine yPay (d := d + 45) r1.1 (fun y => absurd (y.symm.trans z) (by decide)) (fun s2 e2' w2 f1 f2 f3 _ f5 => ⟨cv, W, ?_⟩)
    have es : s = s2 := nI_inj (by have := seB_l e3; omega) (by have := seB_l f3; omega) (e1.symm.trans f1)
    have ee : e = e2' := nI_inj (by have := e5.1; omega) (by have := f5.1; omega) (e2.symm.trans f2)
    subst es ee
    rw [mSet_ne (show 43 ≠ 3 by decide), ← nt.1.2.2.1] at f5
    have ew := wbB_u e5 f5
    subst ew
    refine nt.pd (q := 5) rl (Or.inl rfl) (fun _ v hv => by
      by_cases y : v = s
      · rw [y]; exact e3
      · by_cases l : v < 64
        · rw [e5.2 v l, if_neg y] at hv
          exact hC.2.2.1 v hv
        · rw [b5_ge (by omega)] at hv
          cases hv) (fun b h1 h2 => by rw [mSet_ne h2, mSet_ne h1]) (by rw [mSet_ne (by decide), mSet_at]) (fun q h1 _ => by rw [mS_nk h1, mSet_ne (by decide)]) ?_
    exact (nt.rh rl h.2.1).mv (by rw [mSet_ne (by decide), mSet_ne (by decide)]) (by rw [mS_nk (by decide), mSet_ne (by decide)]) rfl
theorem op_7 {p1 p2 : Int32} (h : INV n x I J) (ht : RX x I J) (k : ∀ r1 I1 J1, wcI S (d + 47) 191 [.ref 43, .int p1, .int p2] x I1 J1 (fun r2 I2 J2 => r1 = r2 ∧ INV (n + 1) x I2 J2 ∧ RX x I2 J2) → Q r1 I1 J1) : wcI S (d + 47) 106 [.ref 0, .int p1, .int p2] x I J Q := by
  obtain ⟨rl, W, nt⟩ := ht
  have hC := nt.ce rl
  refine op_k h rl (hissP h.1 (fun _ _ _ c u => ⟨c, u.1, u.2⟩)) (xHiss (d := d + 46) (g := I 45) (Q := fun v I1 J1 => ((seI (I 45) p1 && r01 p2) = false ∧ v = 0 ∧ I1 = I ∧ J1 = J) ∨ ((seI (I 45) p1 && r01 p2) = true ∧ v = 1 ∧ ∃ s e w, p1 = nI s ∧ p2 = nI e ∧ seB (I 45) s = true ∧ wbB (J 3 6) s e w ∧ I1 = mSet I 31 6 0 ∧ J1 = mSet J 3 6 w)) hC.2.1.2.2.2.2.1 (fun z => Or.inl ⟨z, rfl, rfl, rfl⟩) (fun s e w e1 e2 e3 e4 e5 => Or.inr ⟨e4, rfl, s, e, w, e1, e2, e3, e5, rfl, rfl⟩)) (fun I1 J1 m => mHiss m.mq (fun _ _ _ z => z)) (fun v I1 J1 c u m => ?_) k
  have r1 := nt.r1 rl h.2.1 u
  rcases c with ⟨z, cv, c1, c2⟩ | ⟨z, cv, s, e, w, e1, e2, e3, e5, c1, c2⟩
  · subst c1 c2
    exact yHiss (d := d + 45) r1.1 (fun _ => ⟨cv, W, nt.z rl⟩) (fun _ _ _ _ _ _ y _ => absurd (z.symm.trans y) (by decide))
  · subst c1 c2
    refine yHiss (d := d + 45) r1.1 (fun y => absurd (y.symm.trans z) (by decide)) (fun s2 e2' w2 f1 f2 f3 _ f5 => ⟨cv, W, ?_⟩)
    have es : s = s2 := nI_inj (by have := seB_l e3; omega) (by have := seB_l f3; omega) (e1.symm.trans f1)
    have ee : e = e2' := nI_inj (by have := e5.1; omega) (by have := f5.1; omega) (e2.symm.trans f2)
    subst es ee
    rw [mSet_ne (show 43 ≠ 3 by decide), ← nt.1.2.2.2.1] at f5
    have ew := wbB_u e5 f5
    subst ew
    refine nt.pd (q := 6) rl (Or.inr rfl) (fun y => absurd y (by decide)) (fun b h1 h2 => by rw [mSet_ne h2, mSet_ne h1]) (by rw [mSet_ne (by decide), mSet_at]) (fun q h1 _ => by rw [mS_nk h1, mSet_ne (by decide)]) ?_
    exact (nt.rh rl h.2.1).mv (by rw [mSet_ne (by decide), mSet_ne (by decide)]) (by rw [mS_nk (by decide), mSet_ne (by decide)]) rfl
theorem op_35 {p1 p2 : Int32} (h : INV n x I J) (ht : RX x I J) (k : ∀ r1 I1 J1, wcI S (d + 47) 242 [.ref 43, .int p1, .int p2] x I1 J1 (fun r2 I2 J2 => r1 = r2 ∧ INV (n + 1) x I2 J2 ∧ RX x I2 J2) → Q r1 I1 J1) : wcI S (d + 47) 134 [.ref 0, .int p1, .int p2] x I J Q := by
  obtain ⟨rl, W, nt⟩ := ht
  have hC := nt.ce rl
  refine op_k h rl (zDrawn h.1.cz (fun _ _ _ c => c)) (xDrawn (d := d + 45) (Q := fun v I1 J1 => (¬ (1 ≤ p1.toInt ∧ p1.toInt ≤ (nb (seB (I 45)) 64 : Int)) ∧ v = 0 ∧ I1 = I ∧ J1 = J) ∨ ((1 ≤ p1.toInt ∧ p1.toInt ≤ (nb (seB (I 45)) 64 : Int)) ∧ v = 1 ∧ ∃ q w, dwR p1.toInt.toNat p2 (seB (I 45)) q ∧ (∀ u, u < 64 → bits5 w u = (seB (I 45) u && !q u)) ∧ I1 = mSet I 31 6 0 ∧ J1 = mSet J 3 5 w)) hC (fun z => Or.inl ⟨z, rfl, rfl, rfl⟩) (fun z q w h1 h2 => Or.inr ⟨z, rfl, q, w, h1, h2, rfl, rfl⟩)) (fun I1 J1 m => mDrawn m.mq (fun _ _ _ z => z)) (fun v I1 J1 c u m => ?_) k
  have r1 := nt.r1 rl h.2.1 u
  rcases c with ⟨z, cv, c1, c2⟩ | ⟨z, cv, q, w, e1, e2, c1, c2⟩
  · subst c1 c2
    exact yDrawn (d := d + 44) r1.1 (fun _ => ⟨cv, W, nt.z rl⟩) (fun y => absurd y z)
  · subst c1 c2
    refine yDrawn (d := d + 44) r1.1 (fun y => absurd z y) (fun _ q2 w2 I3 f1 f2 f3 r3 => ⟨cv, W, ?_⟩)
    have eq := dwR_u _ _ _ _ _ e1 f1
    subst eq
    have ew : w2 = w := b5_ext (fun u hu => (f2 u hu).trans (e2 u hu).symm)
    subst ew
    refine nt.pd (q := 5) rl (Or.inl rfl) (fun _ v hv => ?_) (fun b h1 h2 => by rw [f3.1 b h2, mSet_ne h1]) (by rw [f3.1 31 (by decide), mSet_at]) (fun q h1 h2 => by rw [f3.2 q h1 h2, mSet_ne (by decide)]) (r3.j rfl)
    by_cases l : v < 64
    · rw [e2 v l, Bool.and_eq_true] at hv
      exact hv.1
    · rw [b5_ge (by omega)] at hv
      cases hv
theorem op_32 {p1 p2 : Int32} (h : INV n x I J) (ht : RX x I J) (k : ∀ r1 I1 J1, wcI S (d + 47) 235 [.ref 43, .int p1, .int p2] x I1 J1 (fun r2 I2 J2 => r1 = r2 ∧ INV (n + 1) x I2 J2 ∧ RX x I2 J2) → Q r1 I1 J1) : wcI S (d + 47) 131 [.ref 0, .int p1, .int p2] x I J Q := by
  obtain ⟨rl, W, nt⟩ := ht
  have hC := nt.ce rl
  refine op_k h rl (zExg h.1.cz (fun _ _ _ c => c)) (xExg (d := d + 44) (Q := fun v I1 J1 => (exgB (I 45) p1 p2 = false ∧ v = 0 ∧ I1 = I ∧ J1 = J) ∨ (exgB (I 45) p1 p2 = true ∧ v = 1 ∧ ∃ s t, p1 = nI s ∧ p2 = nI t ∧ seB (I 45) s = true ∧ seB (I 45) t = true ∧ (∀ b, b ≠ 5 → b ≠ 31 → I1 b = I b) ∧ (∀ b, b ≠ 6 → J1 b = J b) ∧ CE (swG (I 45) s t) W (bits5 (J 3 5)) (bits5 (J 3 6)) I1 J1 ∧ KDs (swG (I 45) s t) I1 ∧ I1 31 6 = 0)) hC nt.kd (fun z => Or.inl ⟨z, rfl, rfl, rfl⟩) (fun s t I1 J1 h1 h2 h3 h4 h5 h6 h7 h8 h9 h10 => Or.inr ⟨h5, rfl, s, t, h1, h2, h3, h4, h6, h7, h8, h9, h10⟩)) (fun I1 J1 m => mExchange m.mq (fun _ _ _ z => z)) (fun v I1 J1 c u m => ?_) k
  have r1 := nt.r1 rl h.2.1 u
  rcases c with ⟨z, cv, c1, c2⟩ | ⟨z, cv, s, t, e1, e2, e3, e4, fi, fj, ce, kd, z6⟩
  · subst c1 c2
    exact yExg (d := d + 45) r1.1 (fun _ => ⟨cv, W, nt.z rl⟩) (fun _ _ _ _ _ _ _ y => absurd (z.symm.trans y) (by decide))
  · refine yExg (d := d + 45) r1.1 (fun y => absurd (y.symm.trans z) (by decide)) (fun s2 t2 I3 f1 f2 f3 f4 _ gi gq r3 => ⟨cv, W, ?_⟩)
    have es : s = s2 := nI_inj (by have := seB_l e3; omega) (by have := seB_l f3; omega) (e1.symm.trans f1)
    have et : t = t2 := nI_inj (by have := seB_l e4; omega) (by have := seB_l f4; omega) (e2.symm.trans f2)
    subst es et
    have ai : ∀ b, b ≠ 5 → b ≠ 31 → b ≠ 43 → b ≠ 45 → I3 b = I b := fun b h1 h2 h3 h4 => (gi b h3 h4).trans (fi b h1 h2)
    refine NTw.nw (nt.kpm rl (fun b hb => ai b (by omega) (by omega) (by omega) (by omega)) (fun b hb => fj b (by omega))) r3 (ce.m3 (fun b h1 h2 => gi b (by omega) (by omega)) (fun _ _ _ => rfl)) (by rw [fj 3 (by decide)]) (kd.mv (gi 5 (by decide) (by decide))) ?_ ?_ ?_ (by rw [gi 31 (by decide) (by decide)]; exact z6)
    · rw [fj 3 (by decide), fj 43 (by decide)]
      exact nt.1.2.2.1
    · rw [fj 3 (by decide), fj 43 (by decide)]
      exact nt.1.2.2.2.1
    · exact nt.2.2.1.mv (fun q _ _ => by rw [ai 37 (by decide) (by decide) (by decide) (by decide)]) (ai 40 (by decide) (by decide) (by decide) (by decide)) (fun q hq => by rw [gq q (by omega), fi 43 (by decide) (by decide)]) (ai 60 (by decide) (by decide) (by decide) (by decide)) (fj 59 (by decide)) (by rw [fj 43 (by decide)]) (by rw [ai 0 (by decide) (by decide) (by decide) (by decide)])
theorem op_36 (h : INV n x I J) (ht : RX x I J) (k : ∀ r1 I1 J1, wcI S (d + 47) 237 [.ref 43] x I1 J1 (fun r2 I2 J2 => r1 = r2 ∧ INV (n + 1) x I2 J2 ∧ RX x I2 J2) → Q r1 I1 J1) : wcI S (d + 47) 135 [.ref 0] x I J Q := by
  obtain ⟨rl, W, nt⟩ := ht
  have hC := nt.ce rl
  have hD := nt.2.2.2.2.2.2
  refine op_k h rl (zArrange h.1.cz (fun _ _ _ c => c)) (xArr (d := d + 22) (Q := fun v I1 J1 => (24 < nb (seB (I 45)) 64 ∧ v = -1 ∧ I1 = I ∧ J1 = J) ∨ (nb (seB (I 45)) 64 ≤ 24 ∧ ∃ g1 o1 t1, v = nI o1 ∧ arR W (bits5 (J 3 5)) (bits5 (J 3 6)) 20 (I 45) (hgt (I 45) W (bits5 (J 3 5)) (bits5 (J 3 6)) 60) g1 o1 t1 ∧ FAr I J I1 J1 ∧ CE g1 W (bits5 (J 3 5)) (bits5 (J 3 6)) I1 J1 ∧ KDs g1 I1 ∧ I1 0 10 = nI t1 ∧ I1 31 6 = 0)) hC hD nt.kd (fun z => Or.inl ⟨z, rfl, rfl, rfl⟩) (fun z g1 o1 t1 I1 J1 h1 h2 h3 h4 h5 h6 => Or.inr ⟨z, g1, o1, t1, rfl, h1, h2, h3, h4, h5, h6⟩)) (fun I1 J1 m => mArrange m.mq (fun _ _ _ z => z)) (fun v I1 J1 c u m => ?_) k
  have r1 := nt.r1 rl h.2.1 u
  rcases c with ⟨z, cv, c1, c2⟩ | ⟨z, g1, o1, t1, cv, ha, f, ce, kd, e10, z6⟩
  · subst c1 c2
    exact yArr (d := d + 39) r1.1 hC.2.2.2.2.2.2 r1.2.1 r1.2.2 (fun _ => ⟨cv, W, nt.z rl⟩) (fun y => absurd z (by omega))
  · refine yArr (d := d + 39) r1.1 hC.2.2.2.2.2.2 r1.2.1 r1.2.2 (fun y => absurd z (by omega)) (fun _ g2 o2 t2 I3 J3 hb fy r3 e63 => ?_)
    obtain ⟨q1, q2, q3⟩ := arR_u _ _ _ _ _ _ _ _ _ ha hb
    subst q1 q2 q3
    refine ⟨cv, W, ?_⟩
    have ai : ∀ b, ¬ ((31 ≤ b ∧ b ≤ 36) ∨ b = 0 ∨ b = 5 ∨ b = 41) → b ≠ 43 → b ≠ 45 → b ≠ 50 → I3 b = I b := fun b h1 h2 h3 h4 => (fy.1 b h2 h3 h4).trans (f.1 b h1)
    have aj : ∀ b, ¬ ((31 ≤ b ∧ b ≤ 36) ∨ b = 6 ∨ b = 41) → b ≠ 43 → ¬ (51 ≤ b ∧ b ≤ 55) → J3 b = J b := fun b h1 h2 h3 => (fy.2.2.1 b h2 h3).trans (f.2.2 b h1)
    have a43 : ∀ q, ¬ (36 ≤ q ∧ q ≤ 41) → J3 43 q = J 43 q := fun q h1 => (fy.2.2.2 q h1).trans (by rw [f.2.2 43 (by omega)])
    refine NTw.nw (nt.kpm rl (fun b hb => ai b (by omega) (by omega) (by omega) (by omega)) (fun b hb => aj b (by omega) (by omega) (by omega))) r3 (ce.m3 (fun b h1 h2 => fy.1 b (by omega) (by omega) (by omega)) (fun b h1 h2 => fy.2.2.1 b (by omega) (by omega))) (by rw [aj 3 (by omega) (by omega) (by omega)]) (kd.mv (fy.1 5 (by decide) (by decide) (by decide))) ?_ ?_ ?_ (by rw [fy.1 31 (by decide) (by decide) (by decide)]; exact z6)
    · rw [aj 3 (by omega) (by omega) (by omega), a43 16 (by omega)]
      exact nt.1.2.2.1
    · rw [aj 3 (by omega) (by omega) (by omega), a43 17 (by omega)]
      exact nt.1.2.2.2.1
    · obtain ⟨s1, s2, s3, -⟩ := nt.2.2.1
      have q43 : ∀ q, q = 48 ∨ q = 52 ∨ q = 55 → I3 43 q = I 43 q := fun q hq => (fy.2.1 q (by omega) (by omega) (by omega) (by omega)).trans (by rw [f.1 43 (by omega)])
      refine ⟨?_, ?_, ?_, ?_⟩
      · rw [ai 37 (by omega) (by omega) (by omega) (by omega), q43 48 (by omega)]
        exact s1
      · unfold WR
        rw [ai 37 (by omega) (by omega) (by omega) (by omega), q43 52 (by omega), ai 40 (by omega) (by omega) (by omega) (by omega), aj 59 (by omega) (by omega) (by omega), a43 53 (by omega)]
        exact s2
      · rw [ai 37 (by omega) (by omega) (by omega) (by omega), q43 55 (by omega), ai 60 (by omega) (by omega) (by omega) (by omega)]
        exact s3
      · rw [fy.1 0 (by decide) (by decide) (by decide), e10, e63]
end OU0
end
section
/-! house, cues, image, restore, and the calls that throw -/
section OV0
variable {S : Nat × (Nat → Int32)} {d n : Nat} {x : mX} {I I' I1 I2 : rI0} {J J' J1 J2 : rJ0} {g g' : Nat → Int32} {W : Nat → lV} {Q : Int32 → rI0 → rJ0 → Prop}
theorem seB_cg (h : ∀ i, i < 590 → g' i = g i) (s : Nat) : seB g' s = seB g s := by
  unfold seB
  by_cases z : s < 64
  · rw [h (6 + s) (by omega)]
  · rw [decide_eq_false z, Bool.false_and, Bool.false_and]
theorem gN_cg (h : ∀ i, i < 590 → g' i = g i) {k : Nat} (hk : k < 590) : gN g' k = gN g k := by
  unfold gN
  rw [h k hk]
theorem kdN_cg (h : ∀ i, i < 590 → g' i = g i) {s : Nat} (hs : s < 64) : kdN g' s = kdN g s := by
  unfold kdN
  rw [gN_cg h (by omega)]
theorem arB_cg (h : ∀ i, i < 590 → g' i = g i) (a s u : Nat) : arB g' a s u = arB g a s u := by
  unfold arB
  rw [gN_cg h (by decide), gN_cg h (by decide), seB_cg h, seB_cg h]
theorem NX.cg {t : Nat} (v : NX t I J g) (h : ∀ i, i < 590 → g' i = g i) : NX t I J g' := by
  obtain ⟨n1, n2, n3⟩ := v
  refine ⟨fun s hs => ?_, fun q hq s hs => ?_, fun a ha s hs u hu => ?_⟩
  · rw [seB_cg h] at hs
    rw [kdN_cg h (seB_l hs)]
    exact n1 s hs
  · rw [seB_cg h, kdN_cg h hs]
    exact n2 q hq s hs
  · rw [seB_cg h] at hs
    rw [arB_cg h]
    exact n3 a ha s hs u hu
theorem NX.cp {t u : Nat} (v : NX t I J g) (z : CPe t u I J I1 J1) : NX u I1 J1 g := by
  obtain ⟨n1, n2, n3⟩ := v
  refine ⟨fun s hs => ?_, fun q hq s hs => ?_, fun a ha s hs w hw => ?_⟩
  · rw [z.2.2.1 s (seB_l hs)]
    exact n1 s hs
  · rw [z.2.2.2.1 q hq]
    exact n2 q hq s hs
  · have := seB_l hs
    rw [z.2.2.2.2.2.2.2.2.1 (64 * a + s) (by omega)]
    exact n3 a ha s hs w hw
theorem CG.cg (v : CG g) (h : ∀ i, i < 681 → g' i = g i) : CG g' := by
  obtain ⟨c1, c2, c3⟩ := v
  have e : ∀ k, k < 681 → gN g' k = gN g k := fun k hk => by
    unfold gN
    rw [h k hk]
  refine ⟨by rw [e 590 (by omega)]; exact c1, by rw [e 590 (by omega), h 590 (by omega)]; exact c2, fun i hi => ?_⟩
  rw [e 590 (by omega)] at hi
  rw [e (591 + 3 * i) (by omega), e (592 + 3 * i) (by omega), e (593 + 3 * i) (by omega), h (591 + 3 * i) (by omega), h (592 + 3 * i) (by omega), h (593 + 3 * i) (by omega), seB_cg (fun i hi => h i (by omega))]
  obtain ⟨a1, a2, a3, a4⟩ := c3 i hi
  exact ⟨a1, a2, a3, fun j hj => by rw [e (591 + 3 * j) (by omega)]; exact a4 j hj⟩
theorem AR.cg (v : AR g J) (h : ∀ i, i < 590 → g' i = g i) : AR g' J := by
  intro s hs a ha u hu
  rw [seB_cg h] at hs
  rw [arB_cg h]
  exact v s hs a ha u hu
/-- a new evening that was read or brought back -/
theorem NTw.rd (rl : RLx x I2 J2) (nx : NX 3 I2 J2 (I2 45)) (cg : CG (I2 45)) (j5 : J2 3 5 = J2 43 16) (j6 : J2 3 6 = J2 43 17) (ps : ∀ s, bits5 (J2 43 16) s = true → seB (I2 45) s = true) (kp : KP x I2 J2) (tr : TRs I2 J2) (ar : I2 43 30 = 0 → AR (I2 45) J2) (z : I2 31 6 = 0) : ∃ W, NTw W x I2 J2 := by
  obtain ⟨W, hm, lr⟩ := mk_hm rl.2.1.1 rl.2.1.2 nx cg
  exact ⟨W, ⟨nx, cg, j5, j6, ps⟩, kp, tr, ar, hm, lr, Or.inl z⟩
theorem op_2 (h : INV n x I J) (ht : RX x I J) (k : ∀ r1 I1 J1, wcI S (d + 47) 181 [.ref 43] x I1 J1 (fun r2 I2 J2 => r1 = r2 ∧ INV (n + 1) x I2 J2 ∧ RX x I2 J2) → Q r1 I1 J1) : wcI S (d + 47) 101 [.ref 0] x I J Q := by
  obtain ⟨rl, W, nt⟩ := ht
  obtain ⟨m, hm, em⟩ := h.1.1
  obtain ⟨v, I1, J1, ⟨c, u, e1⟩, ev⟩ := ev_of (houseP (S := S) (d := d + 17) (x := x) (Q := fun _ I1 J1 => CV I1 J1 ∧ U43 I J I1 J1 ∧ I1 1 1 = 0) h.1 (fun r I' J' c u e => ⟨c, u, e⟩))
  have hE := houseX (S := S) (d := d + 17) (x := x) (J := J) (S' := S) (d' := d + 37) (x' := x) (I' := I1) (J' := J1) (Q := fun v I2 J2 => HOutX S (d + 37) x I J I1 J1 v I2 J2) hm em (by rw [u.1 43 (by omega), ← rl.1.1]; exact em) (fun i hi => by rw [u.1 44 (by omega)]; exact rl.1.2 i hi) (fun v I2 J2 g => g)
  have key : HOutX S (d + 37) x I J I1 J1 v I1 J1 := by
    obtain ⟨v', I1', J1', ⟨⟨e0, e2, e3⟩, g⟩, -⟩ := ev_of (wcI_and (ev (fun v' a c => v' = v ∧ a = I1 ∧ c = J1) ⟨rfl, rfl, rfl⟩) hE)
    subst e0 e2 e3
    exact g
  obtain ⟨I2, J2, e09, hc, hr, al, ev2⟩ := key
  refine ev _ (k _ _ _ ?_)
  refine wcI_mono (wcI_and (ev2 (fun w a c => w = v ∧ a = I2 ∧ c = J2) ⟨rfl, rfl, rfl⟩) (mHouse (S := S) (d := d + 39) (x := x) (Q := fun _ I3 J3 => Mf I1 J1 0 I3 J3) ((h.c c u).2.1.mq0) (fun r I3 J3 m => m))) (fun r I3 J3 g => ?_)
  obtain ⟨⟨g1, g2, g3⟩, g4⟩ := g
  subst g1 g2 g3
  have ai : ∀ b, ¬ (b ≤ 1 ∨ (3 ≤ b ∧ b ≤ 31)) → ¬ (43 ≤ b ∧ b ≤ 49 ∧ b ≠ 44 ∧ b ≠ 47) → I3 b = I b := fun b h1 h2 => (hr.1 b h2).trans (hc.1 b h1)
  have aj : ∀ b, ¬ (3 ≤ b ∧ b ≤ 23) → b ≠ 43 → J3 b = J b := fun b h1 h2 => (hr.2.2.1 b h2).trans (hc.2.2.2 b h1)
  have a43 : ∀ q, 31 ≤ q → I3 43 q = I 43 q := fun q hq => (hr.2.1 q hq).trans (by rw [u.1 43 (by omega)])
  have tr3 : TRs I3 J3 := nt.2.2.1.mv (fun q _ _ => by rw [ai 37 (by omega) (by omega)]) (ai 40 (by omega) (by omega)) (fun q hq => a43 q (by omega)) (ai 60 (by omega) (by omega)) (aj 59 (by omega) (by omega)) ((hr.2.2.2 53 (by omega) (by omega) (by omega)).trans (by rw [u.2 43 (by omega)])) (by rw [hr.1 0 (by omega), hc.2.1 10 (by omega)])
  have kp3 : KP x I3 J3 := nt.kpm rl (fun b hb => ai b (by omega) (by omega)) (fun b hb => aj b (by omega) (by omega))
  rcases al with ⟨-, al, a31, a45, a30, a16, a17⟩ | ⟨-, w1, w2, w3, p5, p6, q5, q6, e30, z6, e590⟩
  · have w : NRx 3 I1 J1 (I1 45) := rl.2.1.mv (fun b hb => (al b (by omega) (by omega)).1) (al 4 (by omega) (by omega)).2 (by rw [u.1 45 (by omega)]; exact PK.rf) (by rw [u.1 45 (by omega)]; exact PQ.rf)
    have rl3 : RLx x I3 J3 := ⟨tr_v rl.1 u e1 g4, w.m g4 (by rw [a45]; exact PK.rf) (by rw [a45]; exact PQ.rf), (rl.2.2.1.u u).m g4, by rw [g4.2.1.1 0 (by omega)]; exact e09⟩
    refine ⟨rfl, (h.c c u).m g4, rl3, W, ?_⟩
    have f1 : ∀ b, 3 ≤ b → b < 15 → I3 b = I b := fun b h1 h2 => (hr.1 b (by omega)).trans (al b h1 (by omega)).1
    have f2 : ∀ b, 3 ≤ b → b < 15 → J3 b = J b := fun b h1 h2 => (hr.2.2.1 b (by omega)).trans (al b h1 (by omega)).2
    have f3 : ∀ b, 31 ≤ b ∧ b ≤ 36 → I3 b = I b := fun b hb => by
      by_cases y : b = 31
      · rw [y, hr.1 31 (by omega), a31]
      · exact ai b (by omega) (by omega)
    exact nt.go rl (by rw [a45, u.1 45 (by omega)]) (nt.2.2.2.2.1.m3 f1 f2) (f1 5 (by omega) (by omega)) (f2 3 (by omega) (by omega)) (by rw [a16, u.2 43 (by omega)]) (by rw [a17, u.2 43 (by omega)]) (fun b hb => ai b (by omega) (by omega)) (fun b hb => aj b (by omega) (by omega)) tr3 (fun z => by
      have a := nt.2.2.2.1 (by rw [a30, u.1 43 (by omega)] at z; exact z)
      unfold AR at a ⊢
      rw [aj 51 (by omega) (by omega)]
      exact a) (nt.2.2.2.2.2.2.mv f3 (fun b hb => aj b (by omega) (by omega)))
  · have rl3 : RLx x I3 J3 := ⟨tr_v rl.1 u e1 g4, NRx.m ⟨w1, w2⟩ g4 PK.rf PQ.rf, (rl.2.2.1.u u).m g4, by rw [g4.2.1.1 0 (by omega)]; exact e09⟩
    refine ⟨rfl, (h.c c u).m g4, rl3, ?_⟩
    have e0 : gN (I3 45) 590 = 0 := gn_i (m := 0) e590 (by omega)
    have nx : NX 3 I3 J3 (I3 45) := by
      unfold NX
      rw [hr.1 5 (by omega), hr.2.2.1 6 (by omega), hr.2.2.1 11 (by omega)]
      exact w3
    exact NTw.rd rl3 nx ⟨by omega, by rw [e0]; exact e590, fun i hi => absurd hi (by omega)⟩ (by rw [hr.2.2.1 3 (by omega), p5, q5]) (by rw [hr.2.2.1 3 (by omega), p6, q6]) (fun s hs => by rw [q5, b5_0] at hs; cases hs) kp3 tr3 (fun z => by rw [e30] at z; exact absurd z (by decide)) (by rw [hr.1 31 (by omega)]; exact z6)
theorem op_8 (h : INV n x I J) (ht : RX x I J) (k : ∀ r1 I1 J1, wcI S (d + 47) 193 [.ref 43] x I1 J1 (fun r2 I2 J2 => r1 = r2 ∧ INV (n + 1) x I2 J2 ∧ RX x I2 J2) → Q r1 I1 J1) : wcI S (d + 47) 107 [.ref 0] x I J Q := by
  obtain ⟨rl, W, nt⟩ := ht
  obtain ⟨m, hm, em⟩ := h.1.1
  obtain ⟨v, I1, J1, c, ev⟩ := ev_of (zCues (S := S) (x := x) (Q := fun _ I1 J1 => CW I J 0 I1 J1) h.1.cz (fun r I' J' c => c) : wcI S (d + 47) 107 [.ref 0] x I J _)
  have u := c.2.1
  have hE := cuesEX (S := S) (d := d + 36) (x := x) (J := J) (S' := S) (d' := d + 41) (x' := x) (I' := I1) (J' := J1) (Q := fun v I2 J2 => J2 = J ∧ CuOutX S (d + 41) x I I1 J1 v I2) hm em (by rw [u.1 43 (by omega), ← rl.1.1]; exact em) (fun i hi => by rw [u.1 44 (by omega)]; exact rl.1.2 i hi) (by rw [u.1 45 (by omega)]; exact rl.2.1.1) (fun v I2 g => ⟨rfl, g⟩)
  have key : J1 = J ∧ CuOutX S (d + 41) x I I1 J1 v I1 := by
    obtain ⟨v', I1', J1', ⟨⟨e0, e2, e3⟩, g⟩, -⟩ := ev_of (wcI_and (ev (fun v' a c => v' = v ∧ a = I1 ∧ c = J1) ⟨rfl, rfl, rfl⟩) hE)
    subst e0 e2 e3
    exact g
  obtain ⟨ej, I2, J2, e09, hc, hr, al, ev2⟩ := key
  refine ev _ (k _ _ _ ?_)
  refine wcI_mono (wcI_and (ev2 (fun w a c => w = v ∧ a = I2 ∧ c = J2) ⟨rfl, rfl, rfl⟩) (mCues (S := S) (d := d + 43) (x := x) (Q := fun _ I3 J3 => Mc I1 J1 0 I3 J3) ((h.c c.1 u).2.1.mq0) (fun r I3 J3 m => m))) (fun r I3 J3 g => ?_)
  obtain ⟨⟨g1, g2, g3⟩, g4⟩ := g
  subst g1 g2 g3
  have w1 : NRw 3 I1 J1 (I1 45) := rl.2.1.1.mv (fun b hb => c.2.2.2.1 b (by omega)) c.2.2.2.2 (by rw [u.1 45 (by omega)]; exact PK.rf)
  have w2 : NRw 3 I3 J3 (I3 45) := w1.mv (fun b hb => g4.1.2.1.1 b (by omega)) (g4.1.2.2 4 (by omega)) g4.2
  have f3 : ∀ b, b < 43 → I3 b = I1 b := fun b hb => g4.1.2.1.1 b (by omega)
  have w3 : NCu 3 I3 (I3 45) := by
    rcases al with ⟨-, al, -, a45⟩ | ⟨-, al, -⟩
    · refine rl.2.1.2.mv (fun b hb => (f3 b (by omega)).trans (al b (by omega) (by omega))) ?_
      rw [a45, u.1 45 (by omega)]
      exact PQ.rf
    · exact al.mv (fun b hb => f3 b (by omega)) PQ.rf
  have rl3 : RLx x I3 J3 := ⟨tr_v rl.1 u c.2.2.1 g4.1, ⟨w2, w3⟩, (rl.2.2.1.u u).m g4.1, by rw [g4.1.2.1.1 0 (by omega)]; exact e09⟩
  refine ⟨rfl, (h.c c.1 u).m g4.1, rl3, ?_⟩
  subst ej
  have ai : ∀ b, ¬ (b ≤ 1 ∨ b = 3 ∨ (12 ≤ b ∧ b ≤ 15) ∨ (24 ≤ b ∧ b ≤ 26) ∨ b = 28 ∨ b = 31) → ¬ (b = 43 ∨ b = 45 ∨ b = 47) → I3 b = I b := fun b h1 h2 => (hr.1 b h2).trans (hc.1 b h1)
  have aj : ∀ b, b ≠ 43 → J3 b = J1 b := hr.2.2.1
  have a43 : ∀ q, q = 30 ∨ 32 ≤ q → I3 43 q = I 43 q := fun q hq => (hr.2.1 q hq).trans (by rw [u.1 43 (by omega)])
  have tr3 : TRs I3 J3 := nt.2.2.1.mv (fun q _ _ => by rw [ai 37 (by omega) (by omega)]) (ai 40 (by omega) (by omega)) (fun q hq => a43 q (by omega)) (ai 60 (by omega) (by omega)) (aj 59 (by omega)) (hr.2.2.2 53 (by omega)) (by rw [hr.1 0 (by omega), hc.2.1 10 (by omega)])
  have kp3 : KP x I3 J3 := nt.kpm rl (fun b hb => ai b (by omega) (by omega)) (fun b hb => aj b (by omega))
  rcases al with ⟨-, al, a31, a45⟩ | ⟨-, -, cg, a45, ah, z6⟩
  · have f1 : ∀ b, 3 ≤ b → b < 15 → I3 b = I b := fun b h1 h2 => (hr.1 b (by omega)).trans (al b h1 (by omega))
    have f5 : ∀ b, 31 ≤ b ∧ b ≤ 36 → I3 b = I b := fun b hb => by
      by_cases y : b = 31
      · rw [y, hr.1 31 (by omega), a31]
      · exact ai b (by omega) (by omega)
    exact ⟨W, nt.go rl (by rw [a45, u.1 45 (by omega)]) (nt.2.2.2.2.1.m3 f1 (fun b h1 h2 => aj b (by omega))) (f1 5 (by omega) (by omega)) (aj 3 (by omega)) (hr.2.2.2 16 (by omega)) (hr.2.2.2 17 (by omega)) (fun b hb => ai b (by omega) (by omega)) (fun b hb => aj b (by omega)) tr3 (fun z => by
      have a := nt.2.2.2.1 (by rw [a43 30 (by omega)] at z; exact z)
      unfold AR at a ⊢
      rw [aj 51 (by omega)]
      exact a) (nt.2.2.2.2.2.2.mv f5 (fun b hb => aj b (by omega)))⟩
  · have eg : ∀ i, i < 590 → I3 45 i = I 45 i := fun i hi => by rw [a45 i hi, u.1 45 (by omega)]
    obtain ⟨nx, -, j5, j6, ps⟩ := nt.1
    have nx3 : NX 3 I3 J3 (I 45) := by
      unfold NX
      rw [hr.1 5 (by omega), ah 5 (by omega) (by omega), aj 6 (by omega), aj 11 (by omega)]
      exact nx
    exact NTw.rd rl3 (nx3.cg eg) cg (by rw [aj 3 (by omega), hr.2.2.2 16 (by omega)]; exact j5) (by rw [aj 3 (by omega), hr.2.2.2 17 (by omega)]; exact j6) (fun s hs => by rw [hr.2.2.2 16 (by omega)] at hs; rw [seB_cg eg]; exact ps s hs) kp3 tr3 (fun z => by
      have a := nt.2.2.2.1 (by rw [a43 30 (by omega)] at z; exact z)
      have a2 := a.cg eg
      unfold AR at a2 ⊢
      rw [aj 51 (by omega)]
      exact a2) (by rw [hr.1 31 (by omega)]; exact z6)
theorem op_38 {p1 : Int32} {Q : mX → Int32 → rI0 → rJ0 → Prop} (h : INV n x I J) (ht : RX x I J) (hn : n ≤ 64) (k : ∀ x1 r1 I1 J1, wcI S (d + 47) 243 [.ref 43, .int p1] x1 I1 J1 (fun r2 I2 J2 => r1 = r2 ∧ INV (n + 1) x1 I2 J2 ∧ RX x1 I2 J2) → Q x1 r1 I1 J1) : wcX S (d + 47) 137 [.ref 0, .int p1] x I J Q := by
  obtain ⟨rl, W, nt⟩ := ht
  refine zImage (d := d + 43) h.1 h.2.2.1.1 (by have := h.2.2.2.1; omega) (fun q => k _ _ _ _ ?_) (fun q0 q1 x1 I1 J1 c kx fi fj gr ke cp => k _ _ _ _ ?_)
  · refine wcI_mono (wcI_and (mImage (d := d + 46) (Q := fun r I2 J2 => r = 0 ∧ Mz_ I J (I 43 2, some (I 43 13)) (I 45 0).toInt (I 45 1).toInt I2 J2) h.2.1.mq (fun _ I2 J2 m => ⟨rfl, m⟩) (fun z0 z1 => absurd q (fun y => y.elim z0 z1))) (yImage (d := d + 46) (Q := fun _ I2 J2 => I2 = mSet I 43 0 0 ∧ J2 = J) (fun _ => ⟨rfl, rfl⟩) (fun t _ ht e _ _ _ _ => absurd q (fun y => by
      subst e
      exact y.elim (nI_n0 (by omega)) (fun w => absurd ((nI_ltI (a := 1) (by omega) (by omega)).mp w) (by omega)))))) (fun r I2 J2 g => ?_)
    obtain ⟨⟨g1, g2⟩, g3, g4⟩ := g
    subst g3 g4
    exact ⟨g1.symm, h.m g2.f, rl_k rl UN.rf rfl g2, W, nt.z rl⟩
  · refine wcI_mono (wcI_and (mImage (d := d + 46) (Q := fun r I2 J2 => r = 1 ∧ Mfi I1 J1 (I1 43 2) p1.toNatClampNeg I2 J2 ∧ I2 43 13 = I1 43 13) ((h.2.1.eq (fun b hb => fi b (by omega)) (fun b hb => fj b (by omega))).mq) (fun z => absurd z (fun y => y.elim q0 q1)) (fun _ _ I2 J2 m m13 => ⟨rfl, m, m13⟩)) (yImage (d := d + 46) (Q := fun _ I2 J2 => ∃ t, t < 2 ∧ p1 = nI t ∧ (∀ b, b ≠ 43 → b ≠ 63 → b ≠ 66 → I2 b = I1 b) ∧ (∀ q, q ≠ 0 → I2 43 q = I1 43 q) ∧ (∀ i, i < 681 → I2 63 (681 * t + i) = I1 45 i) ∧ (∀ j, ¬ (681 * t ≤ j ∧ j < 681 * t + 681) → I2 63 j = I1 63 j) ∧ J2 = mSet (mSet J1 64 t (J1 43 16)) 65 t (J1 43 17)) (fun z => absurd z (fun y => y.elim q0 q1)) (fun t I2 a1 a2 a3 a4 a5 a6 => ⟨t, a1, a2, a3, a4, a5, a6, rfl⟩))) (fun r I2 J2 g => ?_)
    obtain ⟨⟨g1, m, m13⟩, t, t2, et, y1, y2, y3, y4, y5⟩ := g
    have rl2 : RLx x1 I2 J2 := rl_i rl h.2.2.1.1 (cl2 q0 q1) fi fj ke cp m m13
    refine ⟨g1.symm, ⟨c.eq (fun b hb => m.2.1 b (by omega)) (fun b hb => m.2.2.1 b (by omega)), m.1, h.2.2.1.i kx fi ke m, by have := h.2.2.2.1; omega, by have := h.2.2.2.2; omega⟩, rl2, W, ?_⟩
    have ec : p1.toNatClampNeg = t := by rw [et, nI_clamp (by omega)]
    rw [ec] at ke cp
    obtain ⟨a, ha, ea, -, cpe, nw, fo⟩ := cp
    have f1 : ∀ b, b < 68 → b ≠ 43 → b ≠ 63 → b ≠ 66 → I2 b = I b := fun b h1 h2 h3 h4 => (y1 b h2 h3 h4).trans (fi b h1)
    have f43 : ∀ q, q ≠ 0 → I2 43 q = I 43 q := fun q hq => (y2 q hq).trans (by rw [fi 43 (by omega)])
    have j1 : ∀ b, b ≠ 64 → b ≠ 65 → J2 b = J1 b := fun b h1 h2 => by rw [y5, mSet_ne h2, mSet_ne h1]
    have j2 : ∀ b, b < 68 → b ≠ 64 → b ≠ 65 → J2 b = J b := fun b h1 h2 h3 => (j1 b h2 h3).trans (fj b h1)
    have jt : J2 64 t = J 43 16 ∧ J2 65 t = J 43 17 := by
      rw [y5, mSet_at, mSet_ne (by decide), mSet_at, fj 43 (by omega)]
      exact ⟨rfl, rfl⟩
    have jo : ∀ q, q ≠ t → J2 64 q = J 64 q ∧ J2 65 q = J 65 q := fun q hq => by
      rw [y5, mS_nk hq, mSet_ne (show 65 ≠ 64 by decide), mSet_ne (show 64 ≠ 65 by decide), mS_nk hq, fj 64 (by omega), fj 65 (by omega)]
      exact ⟨rfl, rfl⟩
    have lt : ∀ k b, k < 2 → x.2.1 27 k = some b → EvX x b ∧ b + 11 < 68 + x.1.length := fun k b hk e => by
      rcases h.2.2.1.1 k hk with z | ⟨b', -, eb, evb, -⟩
      · rw [z] at e
        cases e
      · have : b' = b := Option.some.inj (eb.symm.trans e)
        subst this
        exact ⟨evb, evb.lt⟩
    have df : ∀ k b, k < 2 → k ≠ t → x.2.1 27 k = some b → a + 12 ≤ b ∨ b + 12 ≤ a := fun k b hk hkt e => by
      obtain ⟨evb, lb⟩ := lt k b hk e
      rcases nw with z | z
      · rcases (lt t a t2 z).1.dj evb with y | y | y
        · subst y
          rcases (show (k = 0 ∧ t = 1) ∨ (k = 1 ∧ t = 0) by omega) with ⟨k0, t1⟩ | ⟨k0, t1⟩ <;> subst k0 t1
          · exact absurd z (rl.2.2.1.2 a e)
          · exact absurd e (rl.2.2.1.2 a z)
        · exact Or.inl y
        · exact Or.inr y
      · exact Or.inr (by omega)
    have e45 : I2 45 = I 45 := f1 45 (by omega) (by omega) (by omega) (by omega)
    obtain ⟨⟨nx, cg, j5, j6, ps⟩, kp, tr, ar, hm, lr, di⟩ := nt
    unfold NTw
    rw [e45, j2 43 (by omega) (by omega) (by omega), j2 3 (by omega) (by omega) (by omega)]
    refine ⟨⟨?_, cg, ?_, ?_, ps⟩, ?_, ?_, ?_, ?_, lr, ?_⟩
    · unfold NX
      rw [f1 5 (by omega) (by omega) (by omega) (by omega), j2 6 (by omega) (by omega) (by omega), j2 11 (by omega) (by omega) (by omega)]
      exact nx
    · rw [j2 3 (by omega) (by omega) (by omega)]
      exact j5
    · rw [j2 3 (by omega) (by omega) (by omega)]
      exact j6
    · intro k b hk e
      by_cases z : k = t
      · subst z
        have : a = b := Option.some.inj (ea.symm.trans e)
        subst this
        have eg : ∀ i, i < 681 → (fun i => I2 63 (681 * k + i)) i = I 45 i := fun i hi => (y3 i hi).trans (by rw [fi 45 (by omega)])
        refine ⟨?_, cg.cg eg, ?_, ?_, fun s hs => ?_⟩
        · have w := (nx.cp cpe).cg (fun i hi => eg i (by omega))
          unfold NX at w ⊢
          rw [y1 (a + 2) (by omega) (by omega) (by omega), j1 (a + 3) (by omega) (by omega), j1 (a + 8) (by omega) (by omega)]
          exact w
        · rw [j1 a (by omega) (by omega), jt.1, cpe.2.2.2.2.2.2.2.2.2.2.2.1]
          exact j5
        · rw [j1 a (by omega) (by omega), jt.2, cpe.2.2.2.2.2.2.2.2.2.2.2.2]
          exact j6
        · rw [jt.1] at hs
          rw [seB_cg (fun i hi => eg i (by omega))]
          exact ps s hs
      · have e' : x.2.1 27 k = some b := (ke.2 k z).symm.trans e
        have w := kp k b hk e'
        have hb := (rl.2.2.1.1 k b hk e').1
        have lb := (lt k b hk e').2
        have dd := df k b hk z e'
        have eq : ∀ i, i < 681 → (fun i => I2 63 (681 * k + i)) i = (fun i => I 63 (681 * k + i)) i := fun i hi => by
          show I2 63 (681 * k + i) = I 63 (681 * k + i)
          rw [y4 (681 * k + i) (by rcases (show (k = 0 ∧ t = 1) ∨ (k = 1 ∧ t = 0) by omega) with ⟨k0, t1⟩ | ⟨k0, t1⟩ <;> subst k0 t1 <;> omega), fi 63 (by omega)]
        have jb : ∀ q, q ≤ 11 → J2 (b + q) = J (b + q) ∧ I2 (b + q) = I (b + q) := fun q hq => ⟨(j1 (b + q) (by omega) (by omega)).trans (fo (b + q) (by omega) (by omega)).2, (y1 (b + q) (by omega) (by omega) (by omega)).trans (fo (b + q) (by omega) (by omega)).1⟩
        have w2 : EV b I2 J2 (fun i => I 63 (681 * k + i)) (J 64 k) (J 65 k) := w.mv (jb 2 (by omega)).2 (fun q hq => hq.elim (fun y => by rw [y]; exact (jb 0 (by omega)).1) (fun hq => hq.elim (fun y => by rw [y]; exact (jb 3 (by omega)).1) (fun y => by rw [y]; exact (jb 8 (by omega)).1)))
        obtain ⟨v1, v2, v3, v4, v5⟩ := w2
        exact ⟨v1.cg (fun i hi => eq i (by omega)), v2.cg eq, v3.trans (jo k z).1.symm, v4.trans (jo k z).2.symm, fun s hs => by rw [(jo k z).1] at hs; rw [seB_cg (fun i hi => eq i (by omega))]; exact v5 s hs⟩
    · exact tr.mv (fun q _ _ => by rw [f1 37 (by omega) (by omega) (by omega) (by omega)]) (f1 40 (by omega) (by omega) (by omega) (by omega)) (fun q hq => f43 q (by omega)) (f1 60 (by omega) (by omega) (by omega) (by omega)) (j2 59 (by omega) (by omega) (by omega)) (by rw [j2 43 (by omega) (by omega) (by omega)]) (by rw [f1 0 (by omega) (by omega) (by omega) (by omega)])
    · intro z
      have a := ar (by rw [f43 30 (by omega)] at z; exact z)
      unfold AR at a ⊢
      rw [j2 51 (by omega) (by omega) (by omega)]
      exact a
    · exact hm.m3 (fun b h1 h2 => f1 b (by omega) (by omega) (by omega) (by omega)) (fun b h1 h2 => j2 b (by omega) (by omega) (by omega))
    · exact di.mv (fun b hb => f1 b (by omega) (by omega) (by omega) (by omega)) (fun b hb => j2 b (by omega) (by omega) (by omega))
theorem op_39 {p1 : Int32} (h : INV n x I J) (ht : RX x I J) (k : ∀ r1 I1 J1, wcI S (d + 47) 244 [.ref 43, .int p1] x I1 J1 (fun r2 I2 J2 => r1 = r2 ∧ INV (n + 1) x I2 J2 ∧ RX x I2 J2) → Q r1 I1 J1) : wcI S (d + 47) 138 [.ref 0, .int p1] x I J Q := by
  obtain ⟨rl, W, nt⟩ := ht
  refine wcI_mono (wcI_and (zRestore (d := d + 43) (Q := fun r I1 J1 => ((p1 < 0 ∨ 1 < p1 ∨ x.2.1 27 p1.toNatClampNeg = none) ∧ r = 0 ∧ I1 = I ∧ J1 = J) ∨ (¬ (p1 < 0 ∨ 1 < p1 ∨ x.2.1 27 p1.toNatClampNeg = none) ∧ r = 1 ∧ CV I1 J1 ∧ UK I J I1 J1 ∧ I1 0 = I 0)) h.1 h.2.2.1.1 (fun q => Or.inl ⟨q, rfl, rfl, rfl⟩) (fun q0 q1 q2 I1 J1 c u _ z0 => Or.inr ⟨fun z => z.elim q0 (fun y => y.elim q1 q2), rfl, c, u, z0⟩)) (xRestore (d := d + 43) (Q := fun _ I1 J1 => (p1 < 0 ∨ 1 < p1 ∨ x.2.1 27 p1.toNatClampNeg = none) ∨ ∃ t a, t < 2 ∧ p1 = nI t ∧ 68 ≤ a ∧ x.2.1 27 t = some a ∧ (∀ b, ¬ (3 ≤ b ∧ b ≤ 14) → b ≠ 31 → I1 b = I b) ∧ (∀ b, ¬ (3 ≤ b ∧ b ≤ 14) → J1 b = J b) ∧ I1 31 6 = 0 ∧ CPe a 3 I J I1 J1) h.2.2.1.1 (fun q => Or.inl q) (fun t a a1 a2 a3 a4 I1 J1 a5 a6 a7 a8 => Or.inr ⟨t, a, a1, a2, a3, a4, a5, a6, a7, a8⟩))) (fun r1 I1 J1 g => k _ _ _ ?_)
  obtain ⟨g, g'⟩ := g
  rcases g with ⟨q, e1, e2, e3⟩ | ⟨q, e1, c, u, z0⟩
  · subst e1 e2 e3
    refine wcI_mono (wcI_and (mRestore (d := d + 46) (Q := fun r I2 J2 => r = 0 ∧ Mz_ I1 J1 (I1 43 2, some (I1 43 13)) (I1 45 0).toInt (I1 45 1).toInt I2 J2) h.2.1.mq (fun _ I2 J2 m => ⟨rfl, m⟩) (fun z0 z1 z2 => False.elim (q.elim z0 (fun y => y.elim z1 (fun w => z2 ((h.2.2.1.2.r z0 z1).mp w)))))) (yRestore (d := d + 46) (Q := fun _ I2 J2 => I2 = mSet I1 43 0 0 ∧ J2 = J1) (fun _ => ⟨rfl, rfl⟩) (fun t _ ht e nz _ _ _ _ => absurd q (fun y => by
      subst e
      have z0 : ¬ nI t < 0 := nI_n0 (by omega)
      have z1 : ¬ 1 < nI t := fun w => absurd ((nI_ltI (a := 1) (by omega) (by omega)).mp w) (by omega)
      have kk := h.2.2.1.2.r z0 z1
      rw [nI_clamp (by omega)] at kk y
      exact y.elim z0 (fun y => y.elim z1 (fun w => nz (kk.mp w))))))) (fun r I2 J2 g => ?_)
    obtain ⟨⟨g1, g2⟩, g3, g4⟩ := g
    subst g3 g4
    exact ⟨g1.symm, h.m g2.f, rl_k rl UN.rf rfl g2, W, nt.z rl⟩
  · subst e1
    rcases g' with g' | ⟨t, a, t2, et, ha, ea, fi, fj, z6, cpe⟩
    · exact absurd g' q
    have q0 : ¬ p1 < 0 := fun z => q (Or.inl z)
    have q1 : ¬ 1 < p1 := fun z => q (Or.inr (Or.inl z))
    have q2 : ¬ x.2.1 27 p1.toNatClampNeg = none := fun z => q (Or.inr (Or.inr z))
    have ec : p1.toNatClampNeg = t := by rw [et, nI_clamp (by omega)]
    have no : (p1 < 0 ∨ 1 < p1 ∨ I1 66 p1.toNatClampNeg = 0) → False := fun z => z.elim q0 (fun y => y.elim q1 (fun w => q2 (((h.c c u.1).2.2.1.2.r q0 q1).mpr w)))
    refine wcI_mono (wcI_and (mRestore (d := d + 46) (Q := fun r I2 J2 => r = 1 ∧ Mf I1 J1 (I1 43 2) I2 J2 ∧ (∀ i, i < 681 → I2 45 i = I1 63 (681 * p1.toNatClampNeg + i)) ∧ I2 43 13 = I1 43 13) ((h.c c u.1).2.1.mq) (fun z => (no z).elim) (fun _ _ _ I2 J2 m cq m13 => ⟨rfl, m, cq, m13⟩)) (yRestore (d := d + 46) (Q := fun _ I2 J2 => ∃ t, t < 2 ∧ p1 = nI t ∧ (∀ b, b ≠ 43 → b ≠ 45 → I2 b = I1 b) ∧ (∀ q, q ≠ 0 → q ≠ 30 → I2 43 q = I1 43 q) ∧ I2 43 30 = 1 ∧ J2 = mSet (mSet J1 43 16 (J1 64 t)) 43 17 (J1 65 t)) (fun z => (no z).elim) (fun t I2 a1 a2 _ a3 a4 a5 _ => ⟨t, a1, a2, a3, a4, a5, rfl⟩))) (fun r I2 J2 g => ?_)
    obtain ⟨⟨g1, m, cq, m13⟩, t', t2', et', y1, y2, y3, y5⟩ := g
    have tt : t = t' := nI_inj (by omega) (by omega) (et.symm.trans et')
    subst tt
    rw [ec] at cq
    have rl2 : RLx x I2 J2 := rl_r rl u t2 ⟨a, ha, ea, cpe⟩ m cq z0 m13
    refine ⟨g1.symm, (h.c c u.1).m m, rl2, ?_⟩
    have e1' := nt.2.1 t a t2 ea
    obtain ⟨nx, cg, j5, j6, ps⟩ := e1'
    have eg : ∀ i, i < 681 → I2 45 i = (fun i => I 63 (681 * t + i)) i := fun i hi => by rw [cq i hi, fi 63 (by omega) (by omega)]
    have j1 : ∀ b, b ≠ 43 → J2 b = J1 b := fun b hb => by rw [y5, mSet_ne hb, mSet_ne hb]
    have ai : ∀ b, ¬ (3 ≤ b ∧ b ≤ 14) → b ≠ 31 → b ≠ 43 → b ≠ 45 → I2 b = I b := fun b h1 h2 h3 h4 => (y1 b h3 h4).trans (fi b h1 h2)
    have aj : ∀ b, ¬ (3 ≤ b ∧ b ≤ 14) → b ≠ 43 → J2 b = J b := fun b h1 h2 => (j1 b h2).trans (fj b h1)
    have e16 : J2 43 16 = J 64 t := by rw [y5, mS_nk (by decide), mSet_at, fj 64 (by omega)]
    have e17 : J2 43 17 = J 65 t := by rw [y5, mSet_at, fj 65 (by omega)]
    have nx2 : NX 3 I2 J2 (I2 45) := by
      have w := (nx.cp cpe).cg (g' := I2 45) (fun i hi => eg i (by omega))
      unfold NX at w ⊢
      rw [y1 5 (by omega) (by omega), j1 6 (by omega), j1 11 (by omega)]
      exact w
    refine NTw.rd rl2 nx2 (cg.cg eg) ?_ ?_ ?_ (nt.kpm rl (fun b hb => ai b (by omega) (by omega) (by omega) (by omega)) (fun b hb => aj b (by omega) (by omega))) ?_ (fun z => by rw [y3] at z; exact absurd z (by decide)) (by rw [y1 31 (by omega) (by omega)]; exact z6)
    · rw [j1 3 (by omega), e16, cpe.2.2.2.2.2.2.2.2.2.2.2.1]
      exact j5
    · rw [j1 3 (by omega), e17, cpe.2.2.2.2.2.2.2.2.2.2.2.2]
      exact j6
    · intro s hs
      rw [e16] at hs
      rw [seB_cg (fun i hi => eg i (by omega))]
      exact ps s hs
    · exact nt.2.2.1.mv (fun q _ _ => by rw [ai 37 (by omega) (by omega) (by omega) (by omega)]) (ai 40 (by omega) (by omega) (by omega) (by omega)) (fun q hq => (y2 q (by omega) (by omega)).trans (by rw [fi 43 (by omega) (by omega)])) (ai 60 (by omega) (by omega) (by omega) (by omega)) (aj 59 (by omega) (by omega)) (by rw [y5, mS_nk (by decide), mS_nk (by decide), fj 43 (by omega)]) (by rw [ai 0 (by omega) (by omega) (by omega) (by omega)])
end OV0
end
