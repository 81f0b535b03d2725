section CP
variable {S : Nat × (Nat → Int32)} {d : Nat} {x : mX} {I : rI0} {J : rJ0}
theorem CV.nt {I' : rI0} {J' : rJ0} (h : CV I J) (hi : ∀ b, ¬ ((31 ≤ b ∧ b ≤ 36) ∨ b = 41 ∨ b = 42) → I' b = I b) (hj : ∀ b, ¬ ((31 ≤ b ∧ b ≤ 36) ∨ b = 41 ∨ b = 42) → J' b = J b) (n31 : RB (I' 31 6) 601) (n36 : RB (I' 36 3) 30) (n41 : RB (I' 41 3) 30) (n42 : RB (I' 42 3) 30) : CV I' J' := by
  obtain ⟨c1, c4, c16, c3, c15, -, -, -, -, c37, c29⟩ := h
  unfold CV HV at *
  rw [hi 1 (by omega), hi 4 (by omega), hi 5 (by omega), hi 16 (by omega), hi 17 (by omega), hi 3 (by omega), hi 15 (by omega), hi 37 (by omega), hi 29 (by omega), hj 4 (by omega), hj 16 (by omega)]
  exact ⟨c1, c4, c16, c3, c15, n31, n36, n41, n42, c37, c29⟩
theorem CV.db (h : CV I J) : DB I := ⟨h.2.2.2.2.2.1, h.2.2.2.2.2.2.1, h.2.1.1, h.2.2.2.1⟩
theorem CV.dd {I' : rI0} {J' : rJ0} (h : CV I J) (o1 : OffD I J I' J') (d1 : DB I') : CV I' J' := h.nt (fun b hb => o1.1 b (by omega)) (fun b hb => o1.2 b (by omega)) d1.1 d1.2.1 (by rw [o1.1 41 (by omega)]; exact h.2.2.2.2.2.2.2.1) (by rw [o1.1 42 (by omega)]; exact h.2.2.2.2.2.2.2.2.1)
theorem U43.dd {I' : rI0} {J' : rJ0} (o1 : OffD I J I' J') : U43 I J I' J' := ⟨fun b hb => o1.1 b (by omega), fun b hb => o1.2 b (by omega)⟩
theorem UN.dd {I' : rI0} {J' : rJ0} (o1 : OffD I J I' J') : UN I J I' J' := ⟨fun b hb => o1.1 b (by omega), fun b hb => o1.2 b (by omega), by rw [o1.1 0 (by omega)]⟩
theorem UN.n {n : Nat} {I' : rI0} {J' : rJ0} (hn : 14 < n ∧ n < 43) (o1 : Off n I J I' J') : UN I J I' J' := ⟨fun b hb => o1.1 b (by omega), fun b hb => o1.2 b (by omega), by rw [o1.1 0 (by omega)]⟩
theorem CV.n41 {I' : rI0} {J' : rJ0} (h : CV I J) (o1 : Off 41 I J I' J') (n1 : RB (I' 41 3) 30) : CV I' J' := h.nt (fun b hb => o1.1 b (by omega)) (fun b hb => o1.2 b (by omega)) (by rw [o1.1 31 (by decide)]; exact h.2.2.2.2.2.1) (by rw [o1.1 36 (by decide)]; exact h.2.2.2.2.2.2.1) n1 (by rw [o1.1 42 (by decide)]; exact h.2.2.2.2.2.2.2.2.1)
theorem U43.n {n : Nat} {I' : rI0} {J' : rJ0} (hn : n < 43 ∧ n ≠ 2) (o1 : Off n I J I' J') : U43 I J I' J' := ⟨fun b hb => o1.1 b (by omega), fun b hb => o1.2 b (by omega)⟩
theorem CV.f (h : CV I J) : CV (mSet I 31 6 0) J := h.nt (fun b hb => mSet_ne (by omega)) (fun _ _ => rfl) ⟨0, by omega, rfl⟩ h.2.2.2.2.2.2.1 h.2.2.2.2.2.2.2.1 h.2.2.2.2.2.2.2.2.1
/-- rows 1 and 2, the tape's -/
theorem CV.tp {I' : rI0} (h : CV I J) (hi : ∀ b, b ≠ 1 → b ≠ 2 → I' b = I b) (h1 : RB (I' 1 1) 940) : CV I' J := by
  obtain ⟨-, c4, c16, c3, c15, c31, c36, c41, c42, c37, c29⟩ := h
  unfold CV HV at *
  rw [hi 4 (by decide) (by decide), hi 5 (by decide) (by decide), hi 16 (by decide) (by decide), hi 17 (by decide) (by decide), hi 3 (by decide) (by decide), hi 15 (by decide) (by decide), hi 31 (by decide) (by decide), hi 36 (by decide) (by decide), hi 41 (by decide) (by decide), hi 42 (by decide) (by decide), hi 37 (by decide) (by decide), hi 29 (by decide) (by decide)]
  exact ⟨h1, c4, c16, c3, c15, c31, c36, c41, c42, c37, c29⟩
def UK (I : rI0) (J : rJ0) (I' : rI0) (J' : rJ0) : Prop := U43 I J I' J' ∧ I' 1 1 = I 1 1
theorem UK.rf : UK I J I J := ⟨U43.rf, rfl⟩
theorem UK.tr {I1 I2 : rI0} {J1 J2 : rJ0} (h : UK I J I1 J1) (h2 : UK I1 J1 I2 J2) : UK I J I2 J2 := ⟨h.1.tr h2.1, h2.2.trans h.2⟩
theorem UK.dd {I' : rI0} {J' : rJ0} (o1 : OffD I J I' J') : UK I J I' J' := ⟨U43.dd o1, by rw [o1.1 1 (by omega)]⟩
theorem UK.n {n : Nat} {I' : rI0} {J' : rJ0} (hn : n < 43 ∧ n ≠ 1 ∧ n ≠ 2) (o1 : Off n I J I' J') : UK I J I' J' := ⟨U43.n ⟨hn.1, hn.2.2⟩ o1, by rw [o1.1 1 (by omega)]⟩
def UKN (I : rI0) (J : rJ0) (I' : rI0) (J' : rJ0) : Prop := UN I J I' J' ∧ I' 1 1 = I 1 1
theorem UKN.rf : UKN I J I J := ⟨UN.rf, rfl⟩
theorem UKN.tr {I1 I2 : rI0} {J1 J2 : rJ0} (h : UKN I J I1 J1) (h2 : UKN I1 J1 I2 J2) : UKN I J I2 J2 := ⟨h.1.tr h2.1, h2.2.trans h.2⟩
theorem UKN.dd {I' : rI0} {J' : rJ0} (o1 : OffD I J I' J') : UKN I J I' J' := ⟨UN.dd o1, by rw [o1.1 1 (by omega)]⟩
theorem UKN.n {n : Nat} {I' : rI0} {J' : rJ0} (hn : 14 < n ∧ n < 43) (o1 : Off n I J I' J') : UKN I J I' J' := ⟨UN.n hn o1, by rw [o1.1 1 (by omega)]⟩
def bt (v s : Int32) : Int32 := ((v.toUInt32 >>> (s.toUInt32 &&& Int32.toUInt32 31)).toInt32) &&& (255 : Int32)
def ft (g : Nat → Int32) (n : Nat) (v : Int32) : Nat → Int32 := fun i => if i = n + 3 then bt v 0 else if i = n + 2 then bt v 8 else if i = n + 1 then bt v 16 else if i = n then bt v 24 else g i
theorem putE {l1 l2 : Int32} {n : Nat} {Q : rI0 → rJ0 → Prop} (hl : ¬ l2 < 0) (hn : I 1 1 = nI n) (h : n < 940) (k : ∀ I', I' 1 1 = nI (n + 1) → (∀ a, a ≠ 1 → a ≠ 2 → I' a = I a) → (∀ i, I' 2 i = if i = n then bt l1 l2 else I 2 i) → wp S d 66 3 [some (.ref 1), some (.int l1), some (.int (l2 + -8))] [] (wv x I' J) (rV x Q)) : wp S d 66 3 [some (.ref 1), some (.int l1), some (.int l2)] [] (wv x I J) (rV x Q) := by
  refine v66_1_3 ⟨fun q => absurd q hl, fun _ => ⟨fun _ => ⟨by rw [hn]; exact nI_in h (by omega), k _ ?_ ?_ ?_⟩, fun q => absurd (by rw [hn]; exact nI_lt (b := 940) h (by omega)) q⟩⟩
  · show I 1 1 + 1 = _
    rw [hn, nI_succ]
  · intro a h1 h2
    rw [mSet_ne h1, mSet_ne h2]
  · intro i
    rw [mSet_ne (by decide), hn, nI_clamp (by omega)]
    unfold mSet va_up
    rw [if_pos rfl]
    rfl
theorem put0E {p : Int32} {n : Nat} {Q : rI0 → rJ0 → Prop} (hn : I 1 1 = nI n) (h : n + 4 ≤ 940) (k : ∀ I', I' 1 1 = nI (n + 4) → (∀ a, a ≠ 1 → a ≠ 2 → I' a = I a) → I' 2 = ft (I 2) n p → Q I' J) : wcV S d 66 [.ref 1, .int p] x I J Q := by
  refine c66_1 (putE (n := n) (by decide) hn (by omega) (fun I1 h1 o1 b1 => putE (n := n + 1) (by decide) h1 (by omega) (fun I2 h2 o2 b2 => putE (n := n + 2) (by decide) h2 (by omega) (fun I3 h3 o3 b3 => putE (n := n + 3) (by decide) h3 (by omega) (fun I4 h4 o4 b4 => v66_1_3 ⟨fun _ => k I4 h4 ?_ ?_, fun q => absurd (by decide) q⟩)))))
  · intro a ha hb
    rw [o4 a ha hb, o3 a ha hb, o2 a ha hb, o1 a ha hb]
  · funext i
    rw [b4, b3, b2, b1, show (24 : Int32) + -8 = 16 by decide, show (16 : Int32) + -8 = 8 by decide, show (8 : Int32) + -8 = 0 by decide]
    rfl
theorem feedP {p1 p2 p3 p4 p5 : Int32} {Q : Int32 → rI0 → rJ0 → Prop} (h : CV I J) (k0 : (940 : Int32) < I 1 1 + 20 → Q (-1) I J) (k1 : ¬ (940 : Int32) < I 1 1 + 20 → ∀ n I', I 1 1 = nI n → n + 20 ≤ 940 → CV I' J → (∀ b, b ≠ 1 → b ≠ 2 → I' b = I b) → I' 1 1 = I 1 1 + 20 → I' 2 = ft (ft (ft (ft (ft (I 2) n p1) (n + 4) p2) (n + 8) p3) (n + 12) p4) (n + 16) p5 → Q (I 1 1 + 20) I' J) : wcI S (d + 1) 99 [.ref 0, .int p1, .int p2, .int p3, .int p4, .int p5] x I J Q := by
  obtain ⟨n, hn, en⟩ := h.1
  refine c99_0 ⟨fun z => k0 z, fun z => ?_⟩
  have hn20 : n + 20 ≤ 940 := by
    rcases Nat.lt_or_ge 940 (n + 20) with y | y
    · refine absurd ?_ z
      rw [en]
      show nI 940 < nI n + nI 20
      rw [nI_add]
      exact nI_lt y (by omega)
    · exact y
  refine put0E en (by omega) (fun I1 h1 o1 b1 => put0E h1 (by omega) (fun I2 h2 o2 b2 => put0E h2 (by omega) (fun I3 h3 o3 b3 => put0E h3 (by omega) (fun I4 h4 o4 b4 => put0E h4 (by omega) (fun I5 h5 o5 b5 => ?_)))))
  have f : ∀ b, b ≠ 1 → b ≠ 2 → I5 b = I b := fun b hb hc => by rw [o5 b hb hc, o4 b hb hc, o3 b hb hc, o2 b hb hc, o1 b hb hc]
  have e5 : I5 1 1 = I 1 1 + 20 := by
    rw [h5, en]
    exact (nI_add n 20).symm
  rw [e5]
  exact k1 z n I5 en hn20 (h.tp f ⟨n + 4 + 4 + 4 + 4 + 4, by omega, h5⟩) f e5 (by rw [b5, b4, b3, b2, b1])
theorem endP {p : Int32} {Q : Int32 → rI0 → rJ0 → Prop} (h : CV I J) (k0 : p < 0 ∨ I 1 1 < p → Q 0 I J) (k1 : ¬ p < 0 → ¬ I 1 1 < p → ∀ I', CV I' J → UN I J I' J → I' 1 1 = p → Q 1 I' J) : wcI S d 100 [.ref 0, .int p] x I J Q := by
  refine c100_0 ⟨fun z => k0 (Or.inl z), fun z0 => ⟨fun z => k0 (Or.inr z), fun z1 => k1 z0 z1 _ (h.tp (fun b hb _ => mSet_ne hb) ?_) ⟨fun b hb => mSet_ne (by omega), fun _ _ => rfl, rfl⟩ rfl⟩⟩
  obtain ⟨n, hn, en⟩ := h.1
  rw [en] at z1
  obtain ⟨u, hu, eu⟩ := i_nat (by omega) z0 z1
  exact ⟨u, by omega, eu⟩
theorem faultP {Q : Int32 → rI0 → rJ0 → Prop} (h : CV I J) (k : ∀ r I' J', CV I' J' → UKN I J I' J' → Q r I' J') : wcI S d 102 [.ref 0] x I J Q := c102_0 (k _ I J h UKN.rf)
theorem momP {p : Int32} {Q : Int32 → rI0 → rJ0 → Prop} (k : ∀ r, Q r I J) : wcI S d 141 [.int p] x I J Q := c141 ⟨fun _ => k _, fun _ => ⟨fun _ => k _, fun _ => k _⟩⟩
theorem payP {p q : Int32} {Q : Int32 → rI0 → rJ0 → Prop} (h : CV I J) (k : ∀ r I' J', CV I' J' → UKN I J I' J' → Q r I' J') : wcI S (d + 1) 105 [.ref 0, .int p, .int q] x I J Q := by
  refine c105_0 (isSeatA_4 ⟨fun _ => k _ I J h UKN.rf, fun z => absurd rfl z⟩ (fun s hs es hb => ⟨fun z => absurd z (by decide), fun _ => ⟨fun _ => k _ I J h UKN.rf, fun _ => ⟨fun _ => k _ I J h UKN.rf, fun _ => wbA (fun v => c6_31 (k _ _ _ ?_ ⟨⟨fun b hb => mSet_ne (by omega), fun b hb => mSet_ne (by omega), rfl⟩, rfl⟩))⟩⟩⟩))
  obtain ⟨c1, c4, c16, c3, c15, c31, c36, c41, c42, c37, c29⟩ := h
  exact ⟨c1, c4, c16, c3, c15, ⟨0, by omega, rfl⟩, c36, c41, c42, c37, c29⟩
theorem hissP {p q : Int32} {Q : Int32 → rI0 → rJ0 → Prop} (h : CV I J) (k : ∀ r I' J', CV I' J' → UKN I J I' J' → Q r I' J') : wcI S (d + 1) 106 [.ref 0, .int p, .int q] x I J Q := by
  refine c106_0 (isSeatA_4 ⟨fun _ => k _ I J h UKN.rf, fun z => absurd rfl z⟩ (fun s hs es hb => ⟨fun z => absurd z (by decide), fun _ => ⟨fun _ => k _ I J h UKN.rf, fun _ => ⟨fun _ => k _ I J h UKN.rf, fun _ => wbA (fun v => c6_31 (k _ _ _ ?_ ⟨⟨fun b hb => mSet_ne (by omega), fun b hb => mSet_ne (by omega), rfl⟩, rfl⟩))⟩⟩⟩))
  obtain ⟨c1, c4, c16, c3, c15, c31, c36, c41, c42, c37, c29⟩ := h
  exact ⟨c1, c4, c16, c3, c15, ⟨0, by omega, rfl⟩, c36, c41, c42, c37, c29⟩
theorem manyP {p q : Int32} {Q : Int32 → rI0 → rJ0 → Prop} (h : CV I J) (k : ∀ r I' J', CV I' J' → UKN I J I' J' → Q r I' J') : wcI S (d + 24) 111 [.ref 0, .int p, .int q] x I J Q := by
  have k0 : ∀ r, Q r I J := fun r => k r I J h UKN.rf
  exact c111_0 (momP (fun r1 => ⟨fun _ => k0 _, fun _ => ⟨fun _ => k0 _, fun _ => ⟨fun _ => k0 _, fun _ => ⟨fun _ => bcA (fun v => k0 _), fun _ => reachA h.db (fun r I1 J1 hr o1 d1 => ⟨fun _ => ⟨hr.mo (by omega) (by omega), bcA (fun v => k _ I1 J1 (h.dd o1 d1) (UKN.dd o1))⟩, fun _ => ⟨hr.mo (by omega) (by omega), bcA (fun v => k _ I1 J1 (h.dd o1 d1) (UKN.dd o1))⟩⟩)⟩⟩⟩⟩))
theorem anywayP {p : Int32} {Q : Int32 → rI0 → rJ0 → Prop} (h : CV I J) (k : ∀ r I' J', CV I' J' → UKN I J I' J' → Q r I' J') : wcI S (d + 24) 114 [.ref 0, .int p] x I J Q := by
  refine c114_0 (momP (fun r1 => ⟨fun _ => k _ I J h UKN.rf, fun _ => beginA_41 (d := d + 20) h.2.1.1 h.2.2.2.1 (fun I1 J1 o1 n1 => ?_)⟩))
  have h1 := h.n41 o1 n1
  refine goToA_41 h1.2.1.1 n1 (fun I2 J2 o2 n2 => ?_)
  have h2 := h1.n41 o2 n2
  exact reachA h2.db (fun r I3 J3 hr o3 d3 => ⟨hr.mo (by omega) (by omega), bcA (fun v => k _ I3 J3 (h2.dd o3 d3) (((UKN.n (by decide) o1).tr (UKN.n (by decide) o2)).tr (UKN.dd o3)))⟩)
theorem up_lpP {Q : Int32 → rI0 → rJ0 → Prop} : ∀ (m c : Nat) (I : rI0) (J : rJ0), c + m = 601 → CV I J → (∀ r I' J', CV I' J' → UKN I J I' J' → Q r I' J') → wp S (d + 24) 115 2 [some (.ref 0), some (.int (nI c)), none] [] (wv x I J) (rI x Q) := by
  intro m
  induction m with
  | zero =>
    intro c I J hc h k
    have hc : c = 601 := by omega
    subst hc
    exact v115_0_2 ⟨fun _ => k _ I J h UKN.rf, fun q => absurd (by decide) q⟩
  | succ m ih =>
    intro c I J hc h k
    refine v115_0_2 ⟨fun q => absurd q (nI_nlt (a := 600) (by omega) (by omega)), fun _ => reachA h.db (fun r I1 J1 hr o1 d1 => ⟨fun _ => k _ I1 J1 (h.dd o1 d1) (UKN.dd o1), fun _ => isUpA d1.1 (fun r2 _ => ⟨fun _ => ?_, fun _ => k _ I1 J1 (h.dd o1 d1) (UKN.dd o1)⟩)⟩)⟩
    rw [← nI_succ]
    exact ih (c + 1) I1 J1 (by omega) (h.dd o1 d1) (fun r I' J' h2 u2 => k r I' J' h2 ((UKN.dd o1).tr u2))
theorem upP {Q : Int32 → rI0 → rJ0 → Prop} (h : CV I J) (k : ∀ r I' J', CV I' J' → UKN I J I' J' → Q r I' J') : wcI S (d + 24) 115 [.ref 0] x I J Q := c115_0 (up_lpP 601 0 I J rfl h k)
theorem carriesP {p : Int32} {Q : Int32 → rI0 → rJ0 → Prop} (h : CV I J) (k : ∀ r I' J', CV I' J' → UKN I J I' J' → Q r I' J') : wcI S (d + 25) 118 [.ref 0, .int p] x I J Q :=
  c118_0 ⟨fun _ => k _ I J h UKN.rf, fun _ => ⟨fun _ => k _ I J h UKN.rf, fun _ => heightDA h.db (fun v I1 J1 o1 d1 => ⟨fun _ => k _ I1 J1 (h.dd o1 d1) (UKN.dd o1), fun _ => ⟨fun _ => k _ I1 J1 (h.dd o1 d1) (UKN.dd o1), fun _ => k _ I1 J1 (h.dd o1 d1) (UKN.dd o1)⟩⟩)⟩⟩
theorem boughtP {Q : Int32 → rI0 → rJ0 → Prop} (h : CV I J) (k : ∀ r I' J', CV I' J' → UKN I J I' J' → Q r I' J') : wcI S d 120 [.ref 0] x I J Q := c120_0 (k _ I J h UKN.rf)
theorem sideP {p : Int32} {Q : Int32 → rI0 → rJ0 → Prop} (h : CV I J) (k : ∀ r I' J', CV I' J' → UKN I J I' J' → Q r I' J') : wcI S d 126 [.ref 0, .int p] x I J Q := c126_0 ⟨fun _ => k _ I J h UKN.rf, fun _ => k _ I J h UKN.rf, fun _ => k _ I J h UKN.rf, fun _ => k _ I J h UKN.rf, trivial⟩
theorem beganAtP {p : Int32} {Q : Int32 → rI0 → rJ0 → Prop} (h : CV I J) (k : ∀ r I' J', CV I' J' → UKN I J I' J' → Q r I' J') : wcI S d 128 [.ref 0, .int p] x I J Q := c128_0 ⟨fun _ => k _ I J h UKN.rf, fun _ => ⟨fun _ => k _ I J h UKN.rf, fun _ => k _ I J h UKN.rf⟩⟩
theorem arrangedP {Q : Int32 → rI0 → rJ0 → Prop} (h : CV I J) (k : ∀ r I' J', CV I' J' → UKN I J I' J' → Q r I' J') : wcI S d 136 [.ref 0] x I J Q := c136_0 (k _ I J h UKN.rf)
theorem countP {p : Int32} {Q : Int32 → rI0 → rJ0 → Prop} (h : CV I J) (k : ∀ r I' J', CV I' J' → UKN I J I' J' → Q r I' J') : wcI S (d + 1) 139 [.ref 0, .int p] x I J Q := by
  have k0 : ∀ r, Q r I J := fun r => k r I J h UKN.rf
  exact c139_0 ⟨fun _ => k0 _, fun _ => k0 _, fun _ => k0 _, fun _ => bcA (fun v => k0 _), fun _ => k0 _, fun _ => k0 _, fun _ => ⟨fun _ => k0 _, fun _ => k0 _⟩, fun _ => bcA (fun v => k0 _), fun _ => bcA (fun v => k0 _), fun _ => k0 _, fun _ => k0 _, trivial⟩
theorem startsP {p : Int32} {Q : Int32 → rI0 → rJ0 → Prop} (h : CV I J) (k : ∀ r I' J', CV I' J' → UKN I J I' J' → Q r I' J') : wcI S (d + 24) 132 [.ref 0, .int p] x I J Q :=
  c132_0 (isSeatA_4 ⟨fun _ => k _ I J h UKN.rf, fun z => absurd rfl z⟩ (fun s hs es hb => ⟨fun z => absurd z (by decide), fun _ => heightOfA h.2.1.1 h.2.2.2.1 (fun v I1 J1 o1 n1 => k _ I1 J1 (h.n41 o1 n1) (UKN.n (by decide) o1))⟩))
end CP
