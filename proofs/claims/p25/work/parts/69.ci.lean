section
/-! THE CLASS WITHIN ITS BOUNDS, and house() -/
section CI9
variable {S : Nat × (Nat → Int32)} {d : Nat} {x : mX} {I : rI0} {J : rJ0}
def HV (h q : Nat) (I : rI0) (J : rJ0) : Prop := RB (I h 0) 8 ∧ RB (I h 1) 8 ∧ (I h 4 = 0 ∨ I h 4 = 1) ∧ (∀ s, s < 64 → KB (I q s)) ∧ (∀ s, s < 64 → SB (J h 5) s → ¬ I q s = -1)
def CV (I : rI0) (J : rJ0) : Prop := RB (I 1 1) 940 ∧ HV 4 5 I J ∧ HV 16 17 I J ∧ RB (I 3 4) 30 ∧ RB (I 15 4) 30 ∧ RB (I 31 6) 601 ∧ RB (I 36 3) 30 ∧ RB (I 41 3) 30 ∧ RB (I 42 3) 30 ∧ RB (I 37 7) 8 ∧ RB (I 29 2) 20
/-- nothing of the reference, the law or the kept has changed -/
def U43 (I : rI0) (J : rJ0) (I' : rI0) (J' : rJ0) : Prop := (∀ b, 43 ≤ b ∨ b = 2 → I' b = I b) ∧ ∀ b, 43 ≤ b → J' b = J b
theorem U43.rf : U43 I J I J := ⟨fun _ _ => rfl, fun _ _ => rfl⟩
/-- the house that stands, up to kinds, stays; and the fault -/
def UN (I : rI0) (J : rJ0) (I' : rI0) (J' : rJ0) : Prop := (∀ b, 43 ≤ b ∨ b = 2 ∨ b = 3 ∨ b = 4 ∨ (7 ≤ b ∧ b ≤ 14) → I' b = I b) ∧ (∀ b, 43 ≤ b ∨ b = 4 ∨ (7 ≤ b ∧ b ≤ 14) → J' b = J b) ∧ I' 0 9 = I 0 9
theorem UN.rf : UN I J I J := ⟨fun _ _ => rfl, fun _ _ => rfl, rfl⟩
theorem UN.tr {I1 I2 : rI0} {J1 J2 : rJ0} (h : UN I J I1 J1) (h2 : UN I1 J1 I2 J2) : UN I J I2 J2 := ⟨fun b hb => (h2.1 b hb).trans (h.1 b hb), fun b hb => (h2.2.1 b hb).trans (h.2.1 b hb), h2.2.2.trans h.2.2⟩
def UH (I : rI0) (J : rJ0) (I' : rI0) (J' : rJ0) : Prop := (∀ b, b = 4 ∨ (7 ≤ b ∧ b ≤ 11) → I' b = I b) ∧ J' 4 = J 4
theorem UN.h {I' : rI0} {J' : rJ0} (h : UN I J I' J') : UH I J I' J' := ⟨fun b hb => h.1 b (by omega), h.2.1 4 (by omega)⟩
theorem UN.w {I' : rI0} {J' : rJ0} (h : UN I J I' J') : U43 I J I' J' := ⟨fun b hb => h.1 b (by omega), fun b hb => h.2.1 b (by omega)⟩
theorem U43.tr {I1 I2 : rI0} {J1 J2 : rJ0} (h : U43 I J I1 J1) (h2 : U43 I1 J1 I2 J2) : U43 I J I2 J2 := ⟨fun b hb => (h2.1 b hb).trans (h.1 b hb), fun b hb => (h2.2 b hb).trans (h.2 b hb)⟩
theorem clearA {Q : rI0 → rJ0 → Prop} (k : ∀ I' J', (∀ b, ¬ (b = 16 ∨ b = 19 ∨ b = 20 ∨ b = 21) → I' b = I b) → (∀ b, b ≠ 16 → b ≠ 18 → J' b = J b) → I' 16 0 = 0 → I' 16 1 = 0 → I' 16 4 = 0 → J' 16 5 = 0 → Q I' J') : wcV S (d + 1) 21 [.ref 16] x I J Q := by
  refine c21_16 (fillJ_v rfl (by decide) (fillI_v rfl (by decide) (fillI_v rfl (by decide) (fillI_v rfl (by decide) ?_))))
  refine k _ _ (fun b hb => ?_) (fun b h1 h2 => ?_) rfl rfl rfl rfl
  · rw [vu_ne (by omega), vu_ne (by omega), vu_ne (by omega), mSet_ne (by omega), mSet_ne (by omega), mSet_ne (by omega), mSet_ne (by omega), mSet_ne (by omega)]
  · rw [vu_ne h2, mSet_ne h1]
theorem cpy64 {α : Type} (f g : Nat → α) {s : Nat} (hs : s < 64) : va_cpy f g (0 : Int32).toNatClampNeg (0 : Int32).toNatClampNeg (64 : Int32).toNatClampNeg s = f s := by
  show (if 0 ≤ s ∧ s < 0 + 64 then f (0 + (s - 0)) else g s) = f s
  rw [if_pos ⟨by omega, by omega⟩, Nat.zero_add, Nat.sub_zero]
theorem takeHouseA {Q : rI0 → rJ0 → Prop} (h4 : I 16 4 = 0 ∨ I 16 4 = 1) (k : ∀ I' J', (∀ b, ¬ (4 ≤ b ∧ b ≤ 11) → I' b = I b) → (∀ b, ¬ (4 ≤ b ∧ b ≤ 11) → J' b = J b) → I' 4 0 = I 16 0 → I' 4 1 = I 16 1 → I' 4 4 = I 16 4 → (∀ s, s < 64 → I' 5 s = I 17 s) → J' 4 5 = J 16 5 → Q I' J') : wcV S (d + 1) 22 [.ref 4, .ref 16] x I J Q := by
  refine c22_4_16 ⟨h4, by decide, fun I1 e1 => ⟨by decide, fun J2 e2 => ⟨by decide, fun I3 e3 => ⟨by decide, fun I4 e4 => ⟨by decide, fun I5 e5 => ⟨by decide, fun I6 e6 => ⟨by decide, fun J7 e7 => k I6 J7 (fun b hb => ?_) (fun b hb => ?_) ?_ ?_ ?_ (fun s hs => ?_) ?_⟩⟩⟩⟩⟩⟩⟩
  · rw [e6, vu_ne (by omega), e5, vu_ne (by omega), e4, vu_ne (by omega), e3, vu_ne (by omega), e1, vu_ne (by omega), mSet_ne (by omega), mSet_ne (by omega), mSet_ne (by omega), mSet_ne (by omega), mSet_ne (by omega)]
  · rw [e7, vu_ne (by omega), e2, vu_ne (by omega), mSet_ne (by omega)]
  · rw [e6, e5, e4, e3, e1]
    rfl
  · rw [e6, e5, e4, e3, e1]
    rfl
  · rw [e6, e5, e4, e3, e1]
    rfl
  · rw [e6, vu_ne (by decide), e5, vu_ne (by decide), e4, vu_ne (by decide), e3, vu_ne (by decide), e1]
    unfold va_up
    rw [if_pos rfl]
    exact cpy64 _ _ hs
  · rw [e7, e2]
    rfl
theorem line_lp {Q : Int32 → rI0 → rJ0 → Prop} : ∀ (m c : Nat) (I : rI0), c + m = 900 → HI I → (∀ u I', OX I I' → HI I' → wp S (d + 30) 101 67 [some (.ref 0), some (.int u)] [] (wv x I' J) (rI x Q)) → wp S (d + 30) 101 33 [some (.ref 0), some (.int (nI c))] [] (wv x I J) (rI x Q) := by
  intro m
  induction m with
  | zero =>
    intro c I hc h k
    have hc : c = 900 := by omega
    subst hc
    exact v101_0_33 ⟨fun q => absurd q (by decide), fun _ => k _ I OX.rf h⟩
  | succ m ih =>
    intro c I hc h k
    refine v101_0_33 ⟨fun _ => ⟨fun _ => k _ I OX.rf h, fun _ => readLineX h (fun r I1 hr o1 h1 => ⟨fun _ => k _ I1 o1 h1, fun _ => ?_⟩)⟩, fun q => absurd (nI_lt (by omega) (by omega) : nI c < nI 900) q⟩
    rw [← nI_succ]
    exact ih (c + 1) I1 (by omega) h1 (fun u I' o2 h2 => k u I' (o1.tr o2) h2)
theorem houseP {Q : Int32 → rI0 → rJ0 → Prop} (h : CV I J) (k : ∀ r I' J', CV I' J' → U43 I J I' J' → I' 1 1 = 0 → Q r I' J') : wcI S (d + 30) 101 [.ref 0] x I J Q := by
  obtain ⟨⟨n, hn, en⟩, c4, c16, c3, c15, c31, c36, c41, c42, c37, c29⟩ := h
  refine c101_0 (c14_15 (clearA (fun I1 J1 i1 j1 z0 z1 z4 z5 => ?_)))
  refine c67_1 ?_
  have e1 : (mSet I1 15 4 0) 1 1 = nI n := by
    show I1 1 1 = _
    rw [i1 1 (by omega)]
    exact en
  rw [e1]
  refine openA hn (Or.inl rfl) (fun I2 o2 t2 _ => c36_29 ?_)
  have hi : HI (mSet (mSet (mSet I2 29 3 0) 29 4 0) 29 5 0) := by
    refine HI.s29 (HI.s29 (HI.s29 ⟨t2, ?_, ?_, ?_, ?_, ?_⟩ (by decide)) (by decide)) (by decide)
    · rw [o2 16 (by decide)]
      exact ⟨0, by omega, z0⟩
    · rw [o2 16 (by decide)]
      exact ⟨0, by omega, z1⟩
    · rw [o2 16 (by decide)]
      exact Or.inl z4
    · intro s hs
      rw [o2 17 (by decide)]
      show KB (I1 17 s)
      rw [i1 17 (by omega)]
      exact c16.2.2.2.1 s hs
    · rw [o2 29 (by decide)]
      show RB (I1 29 2) 20
      rw [i1 29 (by omega)]
      exact c29
  refine line_lp 900 0 _ rfl hi (fun u I3 o3 h3 => ?_)
  have f3 : ∀ b, ¬ (b = 1 ∨ b = 15 ∨ b = 16 ∨ b = 17 ∨ (19 ≤ b ∧ b ≤ 22) ∨ b = 28 ∨ b = 29) → I3 b = I b := by
    intro b hb
    rw [o3 b (by omega), mSet_ne (by omega), mSet_ne (by omega), mSet_ne (by omega), o2 b (by omega), mSet_ne (by omega), mSet_ne (by omega)]
    exact i1 b (by omega)
  have g1 : I3 1 1 = 0 := by
    rw [o3 1 (by omega), mSet_ne (by decide), mSet_ne (by decide), mSet_ne (by decide), o2 1 (by decide)]
    rfl
  have g15 : I3 15 4 = 0 := by
    rw [o3 15 (by omega), mSet_ne (by decide), mSet_ne (by decide), mSet_ne (by decide), o2 15 (by decide)]
    rfl
  obtain ⟨t3, a0, a1, a4, a17, a29⟩ := h3
  have j5 : ∀ b, b ≠ 15 → b ≠ 16 → b ≠ 18 → (mSet (mSet J1 15 5 0) 15 6 0) b = J b := fun b hb1 hb2 hb3 => by rw [mSet_ne hb1, mSet_ne hb1]; exact j1 b hb2 hb3
  have s16 : ∀ s, s < 64 → SB ((mSet (mSet J1 15 5 0) 15 6 0) 16 5) s → ¬ I3 17 s = -1 := fun s _ hb => absurd (show SB (J1 16 5) s from hb) (by rw [z5]; exact SB_0)
  have rest : RB (I3 31 6) 601 ∧ RB (I3 36 3) 30 ∧ RB (I3 41 3) 30 ∧ RB (I3 42 3) 30 ∧ RB (I3 37 7) 8 := by
    rw [f3 31 (by omega), f3 36 (by omega), f3 41 (by omega), f3 42 (by omega), f3 37 (by omega)]
    exact ⟨c31, c36, c41, c42, c37⟩
  refine v101_0_67 ⟨fun _ => surveyA (I := mSet I3 0 9 (I3 28 8)) a0 a1 (fun J4 o4 q4 b4 => c15_3_15 (takeHouseA (I := mSet I3 0 9 (I3 28 8)) a4 (fun I5 J5 i5 j5' r0 r1 r4 r5 s5 => takeCues0 (fun I6 i6 e6 => c6_31 (k _ _ _ ?_ ⟨fun b hb => ?_, fun b hb => ?_⟩ (by show I6 1 1 = 0; rw [i6 1 (by decide) (by decide) (by decide) (by decide), i5 1 (by omega), mSet_ne (by decide)]; exact g1)))))), fun _ => k _ _ _ ?_ ⟨fun b hb => ?_, fun b hb => ?_⟩ (show I3 1 1 = 0 from g1)⟩
  · have m4 : ∀ b, ¬ (b = 3 ∨ (4 ≤ b ∧ b ≤ 14) ∨ b = 0) → I6 b = I3 b := fun b hb => by rw [i6 b (by omega) (by omega) (by omega) (by omega), i5 b (by omega), mSet_ne (by omega)]
    refine ⟨?_, ⟨?_, ?_, ?_, ?_, ?_⟩, ⟨?_, ?_, ?_, ?_, ?_⟩, ?_, ?_, ⟨0, by omega, rfl⟩, ?_, ?_, ?_, ?_, ?_⟩
    · show RB (I6 1 1) 940
      rw [m4 1 (by omega), g1]
      exact ⟨0, by omega, rfl⟩
    · show RB (I6 4 0) 8
      rw [i6 4 (by decide) (by decide) (by decide) (by decide), r0]
      exact a0
    · show RB (I6 4 1) 8
      rw [i6 4 (by decide) (by decide) (by decide) (by decide), r1]
      exact a1
    · show I6 4 4 = 0 ∨ I6 4 4 = 1
      rw [i6 4 (by decide) (by decide) (by decide) (by decide), r4]
      exact a4
    · intro s hs
      show KB (I6 5 s)
      rw [i6 5 (by decide) (by decide) (by decide) (by decide), r5 s hs]
      exact a17 s hs
    · intro s hs hb
      show ¬ I6 5 s = -1
      rw [i6 5 (by decide) (by decide) (by decide) (by decide), r5 s hs]
      exact b4 s hs (s5 ▸ hb)
    · show RB (I6 16 0) 8
      rw [m4 16 (by omega)]
      exact a0
    · show RB (I6 16 1) 8
      rw [m4 16 (by omega)]
      exact a1
    · show I6 16 4 = 0 ∨ I6 16 4 = 1
      rw [m4 16 (by omega)]
      exact a4
    · intro s hs
      show KB (I6 17 s)
      rw [m4 17 (by omega)]
      exact a17 s hs
    · intro s hs hb
      show ¬ I6 17 s = -1
      rw [m4 17 (by omega)]
      have hb : SB (J5 16 5) s := hb
      rw [j5' 16 (by omega)] at hb
      exact b4 s hs hb
    · show RB (I6 3 4) 30
      rw [e6, i5 15 (by omega)]
      show RB (I3 15 4) 30
      rw [g15]
      exact ⟨0, by omega, rfl⟩
    · show RB (I6 15 4) 30
      rw [m4 15 (by omega), g15]
      exact ⟨0, by omega, rfl⟩
    · show RB (I6 36 3) 30
      rw [m4 36 (by omega)]
      exact rest.2.1
    · show RB (I6 41 3) 30
      rw [m4 41 (by omega)]
      exact rest.2.2.1
    · show RB (I6 42 3) 30
      rw [m4 42 (by omega)]
      exact rest.2.2.2.1
    · show RB (I6 37 7) 8
      rw [m4 37 (by omega)]
      exact rest.2.2.2.2
    · show RB (I6 29 2) 20
      rw [m4 29 (by omega)]
      exact a29
  · rw [mSet_ne (by omega), i6 b (by omega) (by omega) (by omega) (by omega), i5 b (by omega), mSet_ne (by omega)]
    exact f3 b (by omega)
  · rw [mSet_ne (by omega), mSet_ne (by omega), j5' b (by omega), o4 b (by omega) (by omega) (by omega)]
    exact j5 b (by omega) (by omega) (by omega)
  · refine ⟨?_, ?_, ⟨a0, a1, a4, a17, s16⟩, ?_, ?_, rest.1, rest.2.1, rest.2.2.1, rest.2.2.2.1, rest.2.2.2.2, a29⟩
    · show RB (I3 1 1) 940
      rw [g1]
      exact ⟨0, by omega, rfl⟩
    · obtain ⟨b0, b1, b2, b3, b5⟩ := c4
      refine ⟨?_, ?_, ?_, fun s hs => ?_, fun s hs hb => ?_⟩
      · show RB (I3 4 0) 8
        rw [f3 4 (by omega)]
        exact b0
      · show RB (I3 4 1) 8
        rw [f3 4 (by omega)]
        exact b1
      · show I3 4 4 = 0 ∨ I3 4 4 = 1
        rw [f3 4 (by omega)]
        exact b2
      · show KB (I3 5 s)
        rw [f3 5 (by omega)]
        exact b3 s hs
      · show ¬ I3 5 s = -1
        rw [f3 5 (by omega)]
        rw [j5 4 (by decide) (by decide) (by decide)] at hb
        exact b5 s hs hb
    · show RB (I3 3 4) 30
      rw [f3 3 (by omega)]
      exact c3
    · show RB (I3 15 4) 30
      rw [g15]
      exact ⟨0, by omega, rfl⟩
  · rw [mSet_ne (by omega)]
    exact f3 b (by omega)
  · exact j5 b (by omega) (by omega) (by omega)
end CI9
end
section
section CP
variable {S : Nat × (Nat → Int32)} {d : Nat} {x : mX} {I : rI0} {J : rJ0}
theorem CV.nt {I' : rI0} {J' : rJ0} (h : CV I J) (hi : ∀ b, ¬ ((31 ≤ b ∧ b ≤ 36) ∨ b = 41 ∨ b = 42) → I' b = I b) (hj : ∀ b, ¬ ((31 ≤ b ∧ b ≤ 36) ∨ b = 41 ∨ b = 42) → J' b = J b) (n31 : RB (I' 31 6) 601) (n36 : RB (I' 36 3) 30) (n41 : RB (I' 41 3) 30) (n42 : RB (I' 42 3) 30) : CV I' J' := by
  obtain ⟨c1, c4, c16, c3, c15, -, -, -, -, c37, c29⟩ := h
  unfold CV HV at *
  rw [hi 1 (by omega), hi 4 (by omega), hi 5 (by omega), hi 16 (by omega), hi 17 (by omega), hi 3 (by omega), hi 15 (by omega), hi 37 (by omega), hi 29 (by omega), hj 4 (by omega), hj 16 (by omega)]
  exact ⟨c1, c4, c16, c3, c15, n31, n36, n41, n42, c37, c29⟩
theorem CV.db (h : CV I J) : DB I := ⟨h.2.2.2.2.2.1, h.2.2.2.2.2.2.1, h.2.1.1, h.2.2.2.1⟩
theorem CV.dd {I' : rI0} {J' : rJ0} (h : CV I J) (o1 : OffD I J I' J') (d1 : DB I') : CV I' J' := h.nt (fun b hb => o1.1 b (by omega)) (fun b hb => o1.2 b (by omega)) d1.1 d1.2.1 (by rw [o1.1 41 (by omega)]; exact h.2.2.2.2.2.2.2.1) (by rw [o1.1 42 (by omega)]; exact h.2.2.2.2.2.2.2.2.1)
theorem U43.dd {I' : rI0} {J' : rJ0} (o1 : OffD I J I' J') : U43 I J I' J' := ⟨fun b hb => o1.1 b (by omega), fun b hb => o1.2 b (by omega)⟩
theorem UN.dd {I' : rI0} {J' : rJ0} (o1 : OffD I J I' J') : UN I J I' J' := ⟨fun b hb => o1.1 b (by omega), fun b hb => o1.2 b (by omega), by rw [o1.1 0 (by omega)]⟩
theorem UN.n {n : Nat} {I' : rI0} {J' : rJ0} (hn : 14 < n ∧ n < 43) (o1 : Off n I J I' J') : UN I J I' J' := ⟨fun b hb => o1.1 b (by omega), fun b hb => o1.2 b (by omega), by rw [o1.1 0 (by omega)]⟩
theorem CV.n41 {I' : rI0} {J' : rJ0} (h : CV I J) (o1 : Off 41 I J I' J') (n1 : RB (I' 41 3) 30) : CV I' J' := h.nt (fun b hb => o1.1 b (by omega)) (fun b hb => o1.2 b (by omega)) (by rw [o1.1 31 (by decide)]; exact h.2.2.2.2.2.1) (by rw [o1.1 36 (by decide)]; exact h.2.2.2.2.2.2.1) n1 (by rw [o1.1 42 (by decide)]; exact h.2.2.2.2.2.2.2.2.1)
theorem U43.n {n : Nat} {I' : rI0} {J' : rJ0} (hn : n < 43 ∧ n ≠ 2) (o1 : Off n I J I' J') : U43 I J I' J' := ⟨fun b hb => o1.1 b (by omega), fun b hb => o1.2 b (by omega)⟩
theorem CV.f (h : CV I J) : CV (mSet I 31 6 0) J := h.nt (fun b hb => mSet_ne (by omega)) (fun _ _ => rfl) ⟨0, by omega, rfl⟩ h.2.2.2.2.2.2.1 h.2.2.2.2.2.2.2.1 h.2.2.2.2.2.2.2.2.1
/-- rows 1 and 2, the tape's -/
theorem CV.tp {I' : rI0} (h : CV I J) (hi : ∀ b, b ≠ 1 → b ≠ 2 → I' b = I b) (h1 : RB (I' 1 1) 940) : CV I' J := by
  obtain ⟨-, c4, c16, c3, c15, c31, c36, c41, c42, c37, c29⟩ := h
  unfold CV HV at *
  rw [hi 4 (by decide) (by decide), hi 5 (by decide) (by decide), hi 16 (by decide) (by decide), hi 17 (by decide) (by decide), hi 3 (by decide) (by decide), hi 15 (by decide) (by decide), hi 31 (by decide) (by decide), hi 36 (by decide) (by decide), hi 41 (by decide) (by decide), hi 42 (by decide) (by decide), hi 37 (by decide) (by decide), hi 29 (by decide) (by decide)]
  exact ⟨h1, c4, c16, c3, c15, c31, c36, c41, c42, c37, c29⟩
def UK (I : rI0) (J : rJ0) (I' : rI0) (J' : rJ0) : Prop := U43 I J I' J' ∧ I' 1 1 = I 1 1
theorem UK.rf : UK I J I J := ⟨U43.rf, rfl⟩
theorem UK.tr {I1 I2 : rI0} {J1 J2 : rJ0} (h : UK I J I1 J1) (h2 : UK I1 J1 I2 J2) : UK I J I2 J2 := ⟨h.1.tr h2.1, h2.2.trans h.2⟩
theorem UK.dd {I' : rI0} {J' : rJ0} (o1 : OffD I J I' J') : UK I J I' J' := ⟨U43.dd o1, by rw [o1.1 1 (by omega)]⟩
theorem UK.n {n : Nat} {I' : rI0} {J' : rJ0} (hn : n < 43 ∧ n ≠ 1 ∧ n ≠ 2) (o1 : Off n I J I' J') : UK I J I' J' := ⟨U43.n ⟨hn.1, hn.2.2⟩ o1, by rw [o1.1 1 (by omega)]⟩
def UKN (I : rI0) (J : rJ0) (I' : rI0) (J' : rJ0) : Prop := UN I J I' J' ∧ I' 1 1 = I 1 1
theorem UKN.rf : UKN I J I J := ⟨UN.rf, rfl⟩
theorem UKN.tr {I1 I2 : rI0} {J1 J2 : rJ0} (h : UKN I J I1 J1) (h2 : UKN I1 J1 I2 J2) : UKN I J I2 J2 := ⟨h.1.tr h2.1, h2.2.trans h.2⟩
theorem UKN.dd {I' : rI0} {J' : rJ0} (o1 : OffD I J I' J') : UKN I J I' J' := ⟨UN.dd o1, by rw [o1.1 1 (by omega)]⟩
theorem UKN.n {n : Nat} {I' : rI0} {J' : rJ0} (hn : 14 < n ∧ n < 43) (o1 : Off n I J I' J') : UKN I J I' J' := ⟨UN.n hn o1, by rw [o1.1 1 (by omega)]⟩
def bt (v s : Int32) : Int32 := ((v.toUInt32 >>> (s.toUInt32 &&& Int32.toUInt32 31)).toInt32) &&& (255 : Int32)
def ft (g : Nat → Int32) (n : Nat) (v : Int32) : Nat → Int32 := fun i => if i = n + 3 then bt v 0 else if i = n + 2 then bt v 8 else if i = n + 1 then bt v 16 else if i = n then bt v 24 else g i
theorem putE {l1 l2 : Int32} {n : Nat} {Q : rI0 → rJ0 → Prop} (hl : ¬ l2 < 0) (hn : I 1 1 = nI n) (h : n < 940) (k : ∀ I', I' 1 1 = nI (n + 1) → (∀ a, a ≠ 1 → a ≠ 2 → I' a = I a) → (∀ i, I' 2 i = if i = n then bt l1 l2 else I 2 i) → wp S d 66 3 [some (.ref 1), some (.int l1), some (.int (l2 + -8))] [] (wv x I' J) (rV x Q)) : wp S d 66 3 [some (.ref 1), some (.int l1), some (.int l2)] [] (wv x I J) (rV x Q) := by
  refine v66_1_3 ⟨fun q => absurd q hl, fun _ => ⟨fun _ => ⟨by rw [hn]; exact nI_in h (by omega), k _ ?_ ?_ ?_⟩, fun q => absurd (by rw [hn]; exact nI_lt (b := 940) h (by omega)) q⟩⟩
  · show I 1 1 + 1 = _
    rw [hn, nI_succ]
  · intro a h1 h2
    rw [mSet_ne h1, mSet_ne h2]
  · intro i
    rw [mSet_ne (by decide), hn, nI_clamp (by omega)]
    unfold mSet va_up
    rw [if_pos rfl]
    rfl
theorem put0E {p : Int32} {n : Nat} {Q : rI0 → rJ0 → Prop} (hn : I 1 1 = nI n) (h : n + 4 ≤ 940) (k : ∀ I', I' 1 1 = nI (n + 4) → (∀ a, a ≠ 1 → a ≠ 2 → I' a = I a) → I' 2 = ft (I 2) n p → Q I' J) : wcV S d 66 [.ref 1, .int p] x I J Q := by
  refine c66_1 (putE (n := n) (by decide) hn (by omega) (fun I1 h1 o1 b1 => putE (n := n + 1) (by decide) h1 (by omega) (fun I2 h2 o2 b2 => putE (n := n + 2) (by decide) h2 (by omega) (fun I3 h3 o3 b3 => putE (n := n + 3) (by decide) h3 (by omega) (fun I4 h4 o4 b4 => v66_1_3 ⟨fun _ => k I4 h4 ?_ ?_, fun q => absurd (by decide) q⟩)))))
  · intro a ha hb
    rw [o4 a ha hb, o3 a ha hb, o2 a ha hb, o1 a ha hb]
  · funext i
    rw [b4, b3, b2, b1, show (24 : Int32) + -8 = 16 by decide, show (16 : Int32) + -8 = 8 by decide, show (8 : Int32) + -8 = 0 by decide]
    rfl
theorem feedP {p1 p2 p3 p4 p5 : Int32} {Q : Int32 → rI0 → rJ0 → Prop} (h : CV I J) (k0 : (940 : Int32) < I 1 1 + 20 → Q (-1) I J) (k1 : ¬ (940 : Int32) < I 1 1 + 20 → ∀ n I', I 1 1 = nI n → n + 20 ≤ 940 → CV I' J → (∀ b, b ≠ 1 → b ≠ 2 → I' b = I b) → I' 1 1 = I 1 1 + 20 → I' 2 = ft (ft (ft (ft (ft (I 2) n p1) (n + 4) p2) (n + 8) p3) (n + 12) p4) (n + 16) p5 → Q (I 1 1 + 20) I' J) : wcI S (d + 1) 99 [.ref 0, .int p1, .int p2, .int p3, .int p4, .int p5] x I J Q := by
  obtain ⟨n, hn, en⟩ := h.1
  refine c99_0 ⟨fun z => k0 z, fun z => ?_⟩
  have hn20 : n + 20 ≤ 940 := by
    rcases Nat.lt_or_ge 940 (n + 20) with y | y
    · refine absurd ?_ z
      rw [en]
      show nI 940 < nI n + nI 20
      rw [nI_add]
      exact nI_lt y (by omega)
    · exact y
  refine put0E en (by omega) (fun I1 h1 o1 b1 => put0E h1 (by omega) (fun I2 h2 o2 b2 => put0E h2 (by omega) (fun I3 h3 o3 b3 => put0E h3 (by omega) (fun I4 h4 o4 b4 => put0E h4 (by omega) (fun I5 h5 o5 b5 => ?_)))))
  have f : ∀ b, b ≠ 1 → b ≠ 2 → I5 b = I b := fun b hb hc => by rw [o5 b hb hc, o4 b hb hc, o3 b hb hc, o2 b hb hc, o1 b hb hc]
  have e5 : I5 1 1 = I 1 1 + 20 := by
    rw [h5, en]
    exact (nI_add n 20).symm
  rw [e5]
  exact k1 z n I5 en hn20 (h.tp f ⟨n + 4 + 4 + 4 + 4 + 4, by omega, h5⟩) f e5 (by rw [b5, b4, b3, b2, b1])
theorem endP {p : Int32} {Q : Int32 → rI0 → rJ0 → Prop} (h : CV I J) (k0 : p < 0 ∨ I 1 1 < p → Q 0 I J) (k1 : ¬ p < 0 → ¬ I 1 1 < p → ∀ I', CV I' J → UN I J I' J → I' 1 1 = p → Q 1 I' J) : wcI S d 100 [.ref 0, .int p] x I J Q := by
  refine c100_0 ⟨fun z => k0 (Or.inl z), fun z0 => ⟨fun z => k0 (Or.inr z), fun z1 => k1 z0 z1 _ (h.tp (fun b hb _ => mSet_ne hb) ?_) ⟨fun b hb => mSet_ne (by omega), fun _ _ => rfl, rfl⟩ rfl⟩⟩
  obtain ⟨n, hn, en⟩ := h.1
  rw [en] at z1
  obtain ⟨u, hu, eu⟩ := i_nat (by omega) z0 z1
  exact ⟨u, by omega, eu⟩
theorem faultP {Q : Int32 → rI0 → rJ0 → Prop} (h : CV I J) (k : ∀ r I' J', CV I' J' → UKN I J I' J' → Q r I' J') : wcI S d 102 [.ref 0] x I J Q := c102_0 (k _ I J h UKN.rf)
theorem momP {p : Int32} {Q : Int32 → rI0 → rJ0 → Prop} (k : ∀ r, Q r I J) : wcI S d 141 [.int p] x I J Q := c141 ⟨fun _ => k _, fun _ => ⟨fun _ => k _, fun _ => k _⟩⟩
theorem payP {p q : Int32} {Q : Int32 → rI0 → rJ0 → Prop} (h : CV I J) (k : ∀ r I' J', CV I' J' → UKN I J I' J' → Q r I' J') : wcI S (d + 1) 105 [.ref 0, .int p, .int q] x I J Q := by
  refine c105_0 (isSeatA_4 ⟨fun _ => k _ I J h UKN.rf, fun z => absurd rfl z⟩ (fun s hs es hb => ⟨fun z => absurd z (by decide), fun _ => ⟨fun _ => k _ I J h UKN.rf, fun _ => ⟨fun _ => k _ I J h UKN.rf, fun _ => wbA (fun v => c6_31 (k _ _ _ ?_ ⟨⟨fun b hb => mSet_ne (by omega), fun b hb => mSet_ne (by omega), rfl⟩, rfl⟩))⟩⟩⟩))
  obtain ⟨c1, c4, c16, c3, c15, c31, c36, c41, c42, c37, c29⟩ := h
  exact ⟨c1, c4, c16, c3, c15, ⟨0, by omega, rfl⟩, c36, c41, c42, c37, c29⟩
theorem hissP {p q : Int32} {Q : Int32 → rI0 → rJ0 → Prop} (h : CV I J) (k : ∀ r I' J', CV I' J' → UKN I J I' J' → Q r I' J') : wcI S (d + 1) 106 [.ref 0, .int p, .int q] x I J Q := by
  refine c106_0 (isSeatA_4 ⟨fun _ => k _ I J h UKN.rf, fun z => absurd rfl z⟩ (fun s hs es hb => ⟨fun z => absurd z (by decide), fun _ => ⟨fun _ => k _ I J h UKN.rf, fun _ => ⟨fun _ => k _ I J h UKN.rf, fun _ => wbA (fun v => c6_31 (k _ _ _ ?_ ⟨⟨fun b hb => mSet_ne (by omega), fun b hb => mSet_ne (by omega), rfl⟩, rfl⟩))⟩⟩⟩))
  obtain ⟨c1, c4, c16, c3, c15, c31, c36, c41, c42, c37, c29⟩ := h
  exact ⟨c1, c4, c16, c3, c15, ⟨0, by omega, rfl⟩, c36, c41, c42, c37, c29⟩
theorem manyP {p q : Int32} {Q : Int32 → rI0 → rJ0 → Prop} (h : CV I J) (k : ∀ r I' J', CV I' J' → UKN I J I' J' → Q r I' J') : wcI S (d + 24) 111 [.ref 0, .int p, .int q] x I J Q := by
  have k0 : ∀ r, Q r I J := fun r => k r I J h UKN.rf
  exact c111_0 (momP (fun r1 => ⟨fun _ => k0 _, fun _ => ⟨fun _ => k0 _, fun _ => ⟨fun _ => k0 _, fun _ => ⟨fun _ => bcA (fun v => k0 _), fun _ => reachA h.db (fun r I1 J1 hr o1 d1 => ⟨fun _ => ⟨hr.mo (by omega) (by omega), bcA (fun v => k _ I1 J1 (h.dd o1 d1) (UKN.dd o1))⟩, fun _ => ⟨hr.mo (by omega) (by omega), bcA (fun v => k _ I1 J1 (h.dd o1 d1) (UKN.dd o1))⟩⟩)⟩⟩⟩⟩))
theorem anywayP {p : Int32} {Q : Int32 → rI0 → rJ0 → Prop} (h : CV I J) (k : ∀ r I' J', CV I' J' → UKN I J I' J' → Q r I' J') : wcI S (d + 24) 114 [.ref 0, .int p] x I J Q := by
  refine c114_0 (momP (fun r1 => ⟨fun _ => k _ I J h UKN.rf, fun _ => beginA_41 (d := d + 20) h.2.1.1 h.2.2.2.1 (fun I1 J1 o1 n1 => ?_)⟩))
  have h1 := h.n41 o1 n1
  refine goToA_41 h1.2.1.1 n1 (fun I2 J2 o2 n2 => ?_)
  have h2 := h1.n41 o2 n2
  exact reachA h2.db (fun r I3 J3 hr o3 d3 => ⟨hr.mo (by omega) (by omega), bcA (fun v => k _ I3 J3 (h2.dd o3 d3) (((UKN.n (by decide) o1).tr (UKN.n (by decide) o2)).tr (UKN.dd o3)))⟩)
theorem up_lpP {Q : Int32 → rI0 → rJ0 → Prop} : ∀ (m c : Nat) (I : rI0) (J : rJ0), c + m = 601 → CV I J → (∀ r I' J', CV I' J' → UKN I J I' J' → Q r I' J') → wp S (d + 24) 115 2 [some (.ref 0), some (.int (nI c)), none] [] (wv x I J) (rI x Q) := by
  intro m
  induction m with
  | zero =>
    intro c I J hc h k
    have hc : c = 601 := by omega
    subst hc
    exact v115_0_2 ⟨fun _ => k _ I J h UKN.rf, fun q => absurd (by decide) q⟩
  | succ m ih =>
    intro c I J hc h k
    refine v115_0_2 ⟨fun q => absurd q (nI_nlt (a := 600) (by omega) (by omega)), fun _ => reachA h.db (fun r I1 J1 hr o1 d1 => ⟨fun _ => k _ I1 J1 (h.dd o1 d1) (UKN.dd o1), fun _ => isUpA d1.1 (fun r2 _ => ⟨fun _ => ?_, fun _ => k _ I1 J1 (h.dd o1 d1) (UKN.dd o1)⟩)⟩)⟩
    rw [← nI_succ]
    exact ih (c + 1) I1 J1 (by omega) (h.dd o1 d1) (fun r I' J' h2 u2 => k r I' J' h2 ((UKN.dd o1).tr u2))
theorem upP {Q : Int32 → rI0 → rJ0 → Prop} (h : CV I J) (k : ∀ r I' J', CV I' J' → UKN I J I' J' → Q r I' J') : wcI S (d + 24) 115 [.ref 0] x I J Q := c115_0 (up_lpP 601 0 I J rfl h k)
theorem carriesP {p : Int32} {Q : Int32 → rI0 → rJ0 → Prop} (h : CV I J) (k : ∀ r I' J', CV I' J' → UKN I J I' J' → Q r I' J') : wcI S (d + 25) 118 [.ref 0, .int p] x I J Q :=
  c118_0 ⟨fun _ => k _ I J h UKN.rf, fun _ => ⟨fun _ => k _ I J h UKN.rf, fun _ => heightDA h.db (fun v I1 J1 o1 d1 => ⟨fun _ => k _ I1 J1 (h.dd o1 d1) (UKN.dd o1), fun _ => ⟨fun _ => k _ I1 J1 (h.dd o1 d1) (UKN.dd o1), fun _ => k _ I1 J1 (h.dd o1 d1) (UKN.dd o1)⟩⟩)⟩⟩
theorem boughtP {Q : Int32 → rI0 → rJ0 → Prop} (h : CV I J) (k : ∀ r I' J', CV I' J' → UKN I J I' J' → Q r I' J') : wcI S d 120 [.ref 0] x I J Q := c120_0 (k _ I J h UKN.rf)
theorem sideP {p : Int32} {Q : Int32 → rI0 → rJ0 → Prop} (h : CV I J) (k : ∀ r I' J', CV I' J' → UKN I J I' J' → Q r I' J') : wcI S d 126 [.ref 0, .int p] x I J Q := c126_0 ⟨fun _ => k _ I J h UKN.rf, fun _ => k _ I J h UKN.rf, fun _ => k _ I J h UKN.rf, fun _ => k _ I J h UKN.rf, trivial⟩
theorem beganAtP {p : Int32} {Q : Int32 → rI0 → rJ0 → Prop} (h : CV I J) (k : ∀ r I' J', CV I' J' → UKN I J I' J' → Q r I' J') : wcI S d 128 [.ref 0, .int p] x I J Q := c128_0 ⟨fun _ => k _ I J h UKN.rf, fun _ => ⟨fun _ => k _ I J h UKN.rf, fun _ => k _ I J h UKN.rf⟩⟩
theorem arrangedP {Q : Int32 → rI0 → rJ0 → Prop} (h : CV I J) (k : ∀ r I' J', CV I' J' → UKN I J I' J' → Q r I' J') : wcI S d 136 [.ref 0] x I J Q := c136_0 (k _ I J h UKN.rf)
theorem countP {p : Int32} {Q : Int32 → rI0 → rJ0 → Prop} (h : CV I J) (k : ∀ r I' J', CV I' J' → UKN I J I' J' → Q r I' J') : wcI S (d + 1) 139 [.ref 0, .int p] x I J Q := by
  have k0 : ∀ r, Q r I J := fun r => k r I J h UKN.rf
  exact c139_0 ⟨fun _ => k0 _, fun _ => k0 _, fun _ => k0 _, fun _ => bcA (fun v => k0 _), fun _ => k0 _, fun _ => k0 _, fun _ => ⟨fun _ => k0 _, fun _ => k0 _⟩, fun _ => bcA (fun v => k0 _), fun _ => bcA (fun v => k0 _), fun _ => k0 _, fun _ => k0 _, trivial⟩
theorem startsP {p : Int32} {Q : Int32 → rI0 → rJ0 → Prop} (h : CV I J) (k : ∀ r I' J', CV I' J' → UKN I J I' J' → Q r I' J') : wcI S (d + 24) 132 [.ref 0, .int p] x I J Q :=
  c132_0 (isSeatA_4 ⟨fun _ => k _ I J h UKN.rf, fun z => absurd rfl z⟩ (fun s hs es hb => ⟨fun z => absurd z (by decide), fun _ => heightOfA h.2.1.1 h.2.2.2.1 (fun v I1 J1 o1 n1 => k _ I1 J1 (h.n41 o1 n1) (UKN.n (by decide) o1))⟩))
end CP
end
section
section AP0
theorem lpn {P : Nat → Prop} (h : ∀ n, (∀ m, m < n → P m) → P n) (n : Nat) : P n := Nat.strongRecOn n h
theorem i_add {a b : Int32} {A B : Int} (ha : a.toInt = A) (hb : b.toInt = B) (h : -2147483648 ≤ A + B ∧ A + B < 2147483648) : (a + b).toInt = A + B := by
  rw [Int32.toInt_add, ha, hb]
  exact Int.bmod_eq_of_le (by omega) (by omega)
theorem i_sub {a b : Int32} {A B : Int} (ha : a.toInt = A) (hb : b.toInt = B) (h : -2147483648 ≤ A - B ∧ A - B < 2147483648) : (a - b).toInt = A - B := by
  rw [Int32.toInt_sub, ha, hb]
  exact Int.bmod_eq_of_le (by omega) (by omega)
theorem i_mul {a b : Int32} {A B : Int} (ha : a.toInt = A) (hb : b.toInt = B) (h : -2147483648 ≤ A * B ∧ A * B < 2147483648) : (a * b).toInt = A * B := by
  rw [Int32.toInt_mul, ha, hb]
  exact Int.bmod_eq_of_le (by omega) (by omega)
theorem i_mb {A B : Int} (hA : 0 ≤ A ∧ A ≤ 8) (hB : 0 ≤ B ∧ B ≤ 8) : 0 ≤ A * B ∧ A * B ≤ 64 := ⟨Int.mul_nonneg hA.1 hB.1, Int.le_trans (Int.mul_le_mul hA.2 hB.2 hB.1 (by omega)) (by omega)⟩
theorem i_m7 {A B : Int} (hA : 0 ≤ A ∧ A ≤ 8) (hB : 0 ≤ B ∧ B ≤ 7) : A * B ≤ 56 := Int.le_trans (Int.mul_le_mul hA.2 hB.2 hB.1 (by omega)) (by omega)
theorem i_lt {a b : Int32} (h : a < b) : a.toInt < b.toInt := Int32.lt_iff_toInt_lt.mp h
theorem i_nlt {a b : Int32} (h : ¬ a < b) : b.toInt ≤ a.toInt := Int.not_lt.mp (fun z => h (Int32.lt_iff_toInt_lt.mpr z))
theorem i_eq {a b : Int32} (h : a = b) : a.toInt = b.toInt := congrArg _ h
theorem i_ne {a b : Int32} (h : ¬ a = b) : ¬ a.toInt = b.toInt := fun z => h (Int32.toInt_inj.mp z)
theorem i_nI {a : Int32} {n : Nat} (h0 : 0 ≤ a.toInt) (h1 : a.toInt ≤ (n : Int)) (hn : n < 2147483648) : RB a n := by
  refine ⟨a.toInt.toNat, by omega, ?_⟩
  rw [← Int32.toInt_inj, nI_toInt (by omega)]
  omega
theorem RB.i {a : Int32} {n : Nat} (h : RB a n) (hn : n < 2147483648) : 0 ≤ a.toInt ∧ a.toInt ≤ (n : Int) := by
  obtain ⟨k, hk, rfl⟩ := h
  rw [nI_toInt (by omega)]
  omega
theorem i_in {e : Int32} {A : Int} {n : Nat} (he : e.toInt = A) (h : 0 ≤ A ∧ A < (n : Int) ∧ n < 2147483648) : ¬ mOut e n := (i_nI (n := n - 1) (by omega) (by omega) (by omega)).mo (by omega) (by omega)
theorem i_n0 {e : Int32} {A : Int} (he : e.toInt = A) (h : ¬ A = 0) : ¬ e = 0 := fun z => h (by rw [← he, z]; decide)
theorem i_and (v : Int32) {m : Int32} (k : Nat) (hm : m.toBitVec.toNat = 2 ^ k - 1 ∧ k < 31) : 0 ≤ (v &&& m).toInt ∧ (v &&& m).toInt ≤ ((2 ^ k - 1 : Nat) : Int) := by
  have h : 2 ^ k ≤ 2 ^ 30 := Nat.pow_le_pow_right (by omega) (by omega)
  exact (rb_and v k (2 ^ k - 1) hm.1 (Nat.le_refl _)).i (by omega)
theorem i_rng (v : Int32) : -2147483648 ≤ v.toInt ∧ v.toInt < 2147483648 := ⟨Int32.le_toInt v, Int32.toInt_lt v⟩
theorem i_shl0 : ∀ k, k < 9 → 1 ≤ ((1 : Int32) <<< (nI k &&& 31)).toInt ∧ ((1 : Int32) <<< (nI k &&& 31)).toInt ≤ 256 := by decide +kernel
theorem i_shl {n : Int32} (h : 0 ≤ n.toInt ∧ n.toInt ≤ 8) : 1 ≤ ((1 : Int32) <<< (n &&& 31)).toInt ∧ ((1 : Int32) <<< (n &&& 31)).toInt ≤ 256 := by
  obtain ⟨k, hk, rfl⟩ := i_nI (n := 8) h.1 h.2 (by omega)
  exact i_shl0 k (by omega)
theorem i_shl1 : ∀ k, k < 8 → 1 ≤ ((1 : Int32) <<< (nI k &&& 31)).toInt ∧ ((1 : Int32) <<< (nI k &&& 31)).toInt ≤ 128 := by decide +kernel
theorem i_shl7 {n : Int32} (h : 0 ≤ n.toInt ∧ n.toInt ≤ 7) : 1 ≤ ((1 : Int32) <<< (n &&& 31)).toInt ∧ ((1 : Int32) <<< (n &&& 31)).toInt ≤ 128 := by
  obtain ⟨k, hk, rfl⟩ := i_nI (n := 7) h.1 h.2 (by omega)
  exact i_shl1 k (by omega)
theorem i_or8 {a b : Int32} (ha : 0 ≤ a.toInt ∧ a.toInt < 256) (hb : 0 ≤ b.toInt ∧ b.toInt < 256) : 0 ≤ (a ||| b).toInt ∧ (a ||| b).toInt < 256 := by
  obtain ⟨p, hp, rfl⟩ := i_nI (n := 255) ha.1 (by omega) (by omega)
  obtain ⟨q, hq, rfl⟩ := i_nI (n := 255) hb.1 (by omega) (by omega)
  have e : nI p ||| nI q = nI (p ||| q) := by
    rw [← Int32.toBitVec_inj, Int32.toBitVec_or]
    apply BitVec.eq_of_toNat_eq
    rw [BitVec.toNat_or]
    show (BitVec.ofNat 32 p).toNat ||| (BitVec.ofNat 32 q).toNat = (BitVec.ofNat 32 (p ||| q)).toNat
    have : p ||| q < 2 ^ 8 := Nat.or_lt_two_pow (by omega) (by omega)
    rw [BitVec.toNat_ofNat, BitVec.toNat_ofNat, BitVec.toNat_ofNat, Nat.mod_eq_of_lt (by omega), Nat.mod_eq_of_lt (by omega), Nat.mod_eq_of_lt (by omega)]
  have : p ||| q < 2 ^ 8 := Nat.or_lt_two_pow (by omega) (by omega)
  rw [e, nI_toInt (by omega)]
  omega
theorem i_b01 {v : Int32} (h : v.toInt = 0 ∨ v.toInt = 1) : v = 0 ∨ v = 1 := by
  rcases h with h | h
  · exact Or.inl (Int32.toInt_inj.mp h)
  · exact Or.inr (Int32.toInt_inj.mp h)
theorem i_max {a b : Int32} {A B : Int} (ha : a.toInt = A) (hb : b.toInt = B) : A ≤ (if a < b then b else a).toInt ∧ B ≤ (if a < b then b else a).toInt ∧ ((if a < b then b else a).toInt = A ∨ (if a < b then b else a).toInt = B) := by
  split
  · rename_i z
    have := i_lt z
    omega
  · rename_i z
    have := i_nlt z
    omega
theorem i_min {a b : Int32} {A B : Int} (ha : a.toInt = A) (hb : b.toInt = B) : (if b < a then b else a).toInt ≤ A ∧ (if b < a then b else a).toInt ≤ B ∧ ((if b < a then b else a).toInt = A ∨ (if b < a then b else a).toInt = B) := by
  split
  · rename_i z
    have := i_lt z
    omega
  · rename_i z
    have := i_nlt z
    omega
theorem i_div {a b : Int32} {A B : Int} (ha : a.toInt = A) (hb : b.toInt = B) (h0 : 0 ≤ A) (h1 : 0 < B) : (a / b).toInt = A / B ∧ 0 ≤ A / B ∧ A / B ≤ A ∧ A / B * B ≤ A ∧ A < A / B * B + B := by
  have e : (a / b).toInt = A / B := by
    rw [Int32.toInt_div, ha, hb, Int.tdiv_eq_ediv_of_nonneg h0]
    have := Int.ediv_le_self B h0
    have := Int.ediv_nonneg h0 (by omega : 0 ≤ B)
    have := Int32.toInt_lt a
    exact Int.bmod_eq_of_le (by omega) (by omega)
  refine ⟨e, Int.ediv_nonneg h0 (by omega), Int.ediv_le_self B h0, Int.ediv_mul_le A (by omega), ?_⟩
  have := Int.lt_ediv_add_one_mul_self A h1
  rw [Int.add_mul] at this
  omega
theorem i_rem {a b : Int32} {A B : Int} (ha : a.toInt = A) (hb : b.toInt = B) (h0 : 0 ≤ A) (h1 : 0 < B) : 0 ≤ (a - a / b * b).toInt ∧ (a - a / b * b).toInt < B ∧ (a - a / b * b).toInt = A - A / B * B := by
  obtain ⟨e, d0, d1, d2, d3⟩ := i_div ha hb h0 h1
  have := Int32.toInt_lt a
  have p0 : 0 ≤ A / B * B := Int.mul_nonneg d0 (by omega)
  have m : (a / b * b).toInt = A / B * B := i_mul e hb (by omega)
  have s := i_sub ha m (by omega)
  omega
end AP0
end
section
section CZ0
variable {S : Nat × (Nat → Int32)} {d : Nat} {x : mX} {I I0 : rI0} {J J0 : rJ0} {t : Int32}
theorem mSet_x {α : Type} {f : Nat → Nat → α} {n k a b : Nat} {v : α} (h : ¬ (a = n ∧ b = k)) : mSet f n k v a b = f a b := by
  unfold mSet va_up
  by_cases e : a = n
  · subst e
    rw [if_pos rfl, if_neg (fun z => h ⟨rfl, z⟩)]
  · rw [if_neg e]
def CZ (I0 : rI0) (J0 : rJ0) (t : Int32) (I : rI0) (J : rJ0) : Prop := CV I J ∧ UN I0 J0 I J ∧ I 1 1 = t
theorem CZ.bnd (h : CZ I0 J0 t I J) : (0 ≤ (I 1 1).toInt ∧ (I 1 1).toInt ≤ 940) ∧ (0 ≤ (I 4 0).toInt ∧ (I 4 0).toInt ≤ 8) ∧ (0 ≤ (I 4 1).toInt ∧ (I 4 1).toInt ≤ 8) ∧ (0 ≤ (I 3 4).toInt ∧ (I 3 4).toInt ≤ 30) ∧ (0 ≤ (I 15 4).toInt ∧ (I 15 4).toInt ≤ 30) ∧ (0 ≤ (I 37 7).toInt ∧ (I 37 7).toInt ≤ 8) ∧ (0 ≤ (I 31 6).toInt ∧ (I 31 6).toInt ≤ 601) := by
  obtain ⟨⟨c1, c4, c16, c3, c15, c31, c36, c41, c42, c37, c29⟩, -, -⟩ := h
  exact ⟨c1.i (by omega), c4.1.i (by omega), c4.2.1.i (by omega), c3.i (by omega), c15.i (by omega), c37.i (by omega), c31.i (by omega)⟩
theorem CZ.si {n k : Nat} {v : Int32} (h : CZ I0 J0 t I J) (hf : n < 43 ∧ ¬ (n = 0 ∧ k = 9) ∧ ¬ (2 ≤ n ∧ n ≤ 4) ∧ ¬ (7 ≤ n ∧ n ≤ 14) ∧ n ≠ 2 ∧ n ≠ 5 ∧ n ≠ 17 ∧ ¬ (n = 1 ∧ k = 1) ∧ ¬ (n = 4 ∧ (k = 0 ∨ k = 1 ∨ k = 4)) ∧ ¬ (n = 16 ∧ (k = 0 ∨ k = 1 ∨ k = 4)) ∧ ¬ (n = 3 ∧ k = 4) ∧ ¬ (n = 15 ∧ k = 4) ∧ ¬ (n = 31 ∧ k = 6) ∧ ¬ ((n = 36 ∨ n = 41 ∨ n = 42) ∧ k = 3) ∧ ¬ (n = 37 ∧ k = 7) ∧ ¬ (n = 29 ∧ k = 2)) : CZ I0 J0 t (mSet I n k v) J := by
  obtain ⟨⟨c1, c4, c16, c3, c15, c31, c36, c41, c42, c37, c29⟩, u, e⟩ := h
  refine ⟨?_, ⟨fun b hb => ?_, u.2.1, by rw [mSet_x (a := 0) (b := 9) (fun z => by obtain ⟨rfl, rfl⟩ := z; revert hf; decide)]; exact u.2.2⟩, ?_⟩
  · unfold CV HV at *
    have e5 : ∀ s, mSet I n k v 5 s = I 5 s := fun s => mSet_x (fun z => hf.2.2.2.2.2.1 z.1.symm)
    have e17 : ∀ s, mSet I n k v 17 s = I 17 s := fun s => mSet_x (fun z => hf.2.2.2.2.2.2.1 z.1.symm)
    simp only [e5, e17]
    rw [mSet_x (a := 1) (b := 1) (fun z => by obtain ⟨rfl, rfl⟩ := z; revert hf; decide), mSet_x (a := 4) (b := 0) (fun z => by obtain ⟨rfl, rfl⟩ := z; revert hf; decide), mSet_x (a := 4) (b := 1) (fun z => by obtain ⟨rfl, rfl⟩ := z; revert hf; decide), mSet_x (a := 4) (b := 4) (fun z => by obtain ⟨rfl, rfl⟩ := z; revert hf; decide), mSet_x (a := 16) (b := 0) (fun z => by obtain ⟨rfl, rfl⟩ := z; revert hf; decide), mSet_x (a := 16) (b := 1) (fun z => by obtain ⟨rfl, rfl⟩ := z; revert hf; decide), mSet_x (a := 16) (b := 4) (fun z => by obtain ⟨rfl, rfl⟩ := z; revert hf; decide), mSet_x (a := 3) (b := 4) (fun z => by obtain ⟨rfl, rfl⟩ := z; revert hf; decide), mSet_x (a := 15) (b := 4) (fun z => by obtain ⟨rfl, rfl⟩ := z; revert hf; decide), mSet_x (a := 31) (b := 6) (fun z => by obtain ⟨rfl, rfl⟩ := z; revert hf; decide), mSet_x (a := 36) (b := 3) (fun z => by obtain ⟨rfl, rfl⟩ := z; revert hf; decide), mSet_x (a := 41) (b := 3) (fun z => by obtain ⟨rfl, rfl⟩ := z; revert hf; decide), mSet_x (a := 42) (b := 3) (fun z => by obtain ⟨rfl, rfl⟩ := z; revert hf; decide), mSet_x (a := 37) (b := 7) (fun z => by obtain ⟨rfl, rfl⟩ := z; revert hf; decide), mSet_x (a := 29) (b := 2) (fun z => by obtain ⟨rfl, rfl⟩ := z; revert hf; decide)]
    exact ⟨c1, c4, c16, c3, c15, c31, c36, c41, c42, c37, c29⟩
  · have a1 := hf.1
    have a3 := hf.2.2.1
    have a4 := hf.2.2.2.1
    clear hf
    rw [mSet_ne (by omega)]
    exact u.1 b hb
  · rw [mSet_x (a := 1) (b := 1) (fun z => by obtain ⟨rfl, rfl⟩ := z; revert hf; decide)]
    exact e
theorem CZ.sj {n k : Nat} {v : Int64} (h : CZ I0 J0 t I J) (hf : n < 43 ∧ n ≠ 4 ∧ n ≠ 16 ∧ ¬ (7 ≤ n ∧ n ≤ 14)) : CZ I0 J0 t I (mSet J n k v) := by
  obtain ⟨⟨c1, c4, c16, c3, c15, c31, c36, c41, c42, c37, c29⟩, u, e⟩ := h
  refine ⟨?_, ⟨u.1, fun b hb => ?_, u.2.2⟩, e⟩
  · unfold CV HV at *
    rw [mSet_ne (show 4 ≠ n by omega), mSet_ne (show 16 ≠ n by omega)]
    exact ⟨c1, c4, c16, c3, c15, c31, c36, c41, c42, c37, c29⟩
  · rw [mSet_ne (by omega)]
    exact u.2.1 b hb
theorem CZ.s15 {v : Int32} (h : CZ I0 J0 t I J) (hv : 0 ≤ v.toInt ∧ v.toInt ≤ 30) : CZ I0 J0 t (mSet I 15 4 v) J := by
  obtain ⟨⟨c1, c4, c16, c3, c15, c31, c36, c41, c42, c37, c29⟩, u, e⟩ := h
  exact ⟨⟨c1, c4, c16, c3, i_nI hv.1 hv.2 (by omega), c31, c36, c41, c42, c37, c29⟩, ⟨fun b hb => by rw [mSet_ne (by omega)]; exact u.1 b hb, u.2⟩, e⟩
theorem CZ.s37 {v : Int32} (h : CZ I0 J0 t I J) (hv : 0 ≤ v.toInt ∧ v.toInt ≤ 8) : CZ I0 J0 t (mSet I 37 7 v) J := by
  obtain ⟨⟨c1, c4, c16, c3, c15, c31, c36, c41, c42, c37, c29⟩, u, e⟩ := h
  exact ⟨⟨c1, c4, c16, c3, c15, c31, c36, c41, c42, i_nI hv.1 hv.2 (by omega), c29⟩, ⟨fun b hb => by rw [mSet_ne (by omega)]; exact u.1 b hb, u.2⟩, e⟩
theorem CZ.of {I1 I' : rI0} {J1 J' : rJ0} (h : CZ I0 J0 t I1 J1) (c : CV I' J') (u : UN I1 J1 I' J') (e : I' 1 1 = I1 1 1) : CZ I0 J0 t I' J' := ⟨c, h.2.1.tr u, e.trans h.2.2⟩
theorem CZ.o41 {I' : rI0} {J' : rJ0} (h : CZ I0 J0 t I J) (o1 : Off 41 I J I' J') (n1 : RB (I' 41 3) 30) : CZ I0 J0 t I' J' := h.of (h.1.n41 o1 n1) (UN.n (by omega) o1) (by rw [o1.1 1 (by decide)])
theorem CV.n42 {I' : rI0} {J' : rJ0} (h : CV I J) (o1 : Off 42 I J I' J') (n1 : RB (I' 42 3) 30) : CV I' J' := h.nt (fun b hb => o1.1 b (by omega)) (fun b hb => o1.2 b (by omega)) (by rw [o1.1 31 (by decide)]; exact h.2.2.2.2.2.1) (by rw [o1.1 36 (by decide)]; exact h.2.2.2.2.2.2.1) (by rw [o1.1 41 (by decide)]; exact h.2.2.2.2.2.2.2.1) n1
theorem CZ.o42 {I' : rI0} {J' : rJ0} (h : CZ I0 J0 t I J) (o1 : Off 42 I J I' J') (n1 : RB (I' 42 3) 30) : CZ I0 J0 t I' J' := h.of (h.1.n42 o1 n1) (UN.n (by omega) o1) (by rw [o1.1 1 (by decide)])
theorem CZ.od {I' : rI0} {J' : rJ0} (h : CZ I0 J0 t I J) (o1 : OffD I J I' J') (n1 : DB I') : CZ I0 J0 t I' J' := h.of (h.1.dd o1 n1) (UN.dd o1) (by rw [o1.1 1 (by omega)])
theorem CZ.o28 {I' : rI0} (h : CZ I0 J0 t I J) (o1 : O28 I I') : CZ I0 J0 t I' J := by
  refine h.of ?_ ⟨fun b hb => o1 b (by omega), fun _ _ => rfl, by rw [o1 0 (by decide)]⟩ (by rw [o1 1 (by decide)])
  obtain ⟨⟨c1, c4, c16, c3, c15, c31, c36, c41, c42, c37, c29⟩, u, e⟩ := h
  unfold CV HV at *
  rw [o1 1 (by decide), o1 4 (by decide), o1 5 (by decide), o1 16 (by decide), o1 17 (by decide), o1 3 (by decide), o1 15 (by decide), o1 31 (by decide), o1 36 (by decide), o1 41 (by decide), o1 42 (by decide), o1 37 (by decide), o1 29 (by decide)]
  exact ⟨c1, c4, c16, c3, c15, c31, c36, c41, c42, c37, c29⟩
/-! specs -/
theorem zReach {p : Int32} {Q : Int32 → rI0 → rJ0 → Prop} (h : CZ I0 J0 t I J) (k : ∀ r I J, CZ I0 J0 t I J → 0 ≤ r.toInt ∧ r.toInt ≤ 600 → Q r I J) : wcI S (d + 23) 7 [.ref 31, .int p] x I J Q := reachA h.1.db (fun r I1 J1 hr o1 d1 => k r I1 J1 (h.od o1 d1) (hr.i (by omega)))
theorem zUp {p : Int32} {Q : Int32 → rI0 → rJ0 → Prop} (h : CZ I0 J0 t I J) (k : ∀ r, r.toInt = 0 ∨ r.toInt = 1 → Q r I J) : wcI S (d + 1) 9 [.ref 31, .int p] x I J Q := isUpA h.1.db.1 (fun r hr => k r (by rcases hr with rfl | rfl <;> decide))
theorem zHeight {Q : Int32 → rI0 → rJ0 → Prop} (h : CZ I0 J0 t I J) (k : ∀ r I J, CZ I0 J0 t I J → Q r I J) : wcI S (d + 24) 10 [.ref 31] x I J Q := heightDA h.1.db (fun v I1 J1 o1 d1 => k v I1 J1 (h.od o1 d1))
theorem zBehind {p : Int32} {Q : Int32 → rI0 → rJ0 → Prop} (h : CZ I0 J0 t I J) (hp : 0 ≤ p.toInt ∧ p.toInt ≤ 600) (k : ∀ r I J, CZ I0 J0 t I J → Q r I J) : wcI S (d + 24) 11 [.ref 31, .int p] x I J Q := by
  obtain ⟨c, hc, rfl⟩ := i_nI (n := 600) hp.1 hp.2 (by omega)
  exact likeBehindA hc h.1.db (fun v I1 J1 o1 d1 => k v I1 J1 (h.od o1 d1))
theorem zHOf {p q : Int64} {e : Int32} {Q : Int32 → rI0 → rJ0 → Prop} (h : CZ I0 J0 t I J) (k : ∀ r I' J', CZ I0 J0 t I' J' → I' 5 = I 5 → Q r I' J') : wcI S (d + 23) 54 [.ref 41, .long p, .long q, .int e] x I J Q := heightOfA h.1.2.1.1 h.1.2.2.2.1 (fun v I1 J1 o1 n1 => k v I1 J1 (h.o41 o1 n1) (o1.1 5 (by decide)))
theorem zBegin41 {p q : Int64} {Q : rI0 → rJ0 → Prop} (h : CZ I0 J0 t I J) (k : ∀ I J, CZ I0 J0 t I J → Q I J) : wcV S (d + 3) 52 [.ref 41, .long p, .long q] x I J Q := beginA_41 h.1.2.1.1 h.1.2.2.2.1 (fun I1 J1 o1 n1 => k I1 J1 (h.o41 o1 n1))
theorem zBegin42 {p q : Int64} {Q : rI0 → rJ0 → Prop} (h : CZ I0 J0 t I J) (k : ∀ I J, CZ I0 J0 t I J → Q I J) : wcV S (d + 3) 52 [.ref 42, .long p, .long q] x I J Q := beginA_42 h.1.2.1.1 h.1.2.2.2.1 (fun I1 J1 o1 n1 => k I1 J1 (h.o42 o1 n1))
theorem zGo41 {p : Int32} {Q : rI0 → rJ0 → Prop} (h : CZ I0 J0 t I J) (k : ∀ I J, CZ I0 J0 t I J → Q I J) : wcV S (d + 23) 53 [.ref 41, .int p] x I J Q := goToA_41 h.1.2.1.1 h.1.2.2.2.2.2.2.2.1 (fun I1 J1 o1 n1 => k I1 J1 (h.o41 o1 n1))
theorem zGo42 {p : Int32} {Q : rI0 → rJ0 → Prop} (h : CZ I0 J0 t I J) (k : ∀ I J, CZ I0 J0 t I J → Q I J) : wcV S (d + 23) 53 [.ref 42, .int p] x I J Q := goToA_42 h.1.2.1.1 h.1.2.2.2.2.2.2.2.2.1 (fun I1 J1 o1 n1 => k I1 J1 (h.o42 o1 n1))
theorem zBits {p : Int64} {Q : Int32 → rI0 → rJ0 → Prop} (k : ∀ r : Int32, -2147483648 ≤ r.toInt ∧ r.toInt < 2147483648 → Q r I J) : wcI S d 250 [.long p] x I J Q := bcA (fun r => k r (i_rng r))
theorem zBit {p : Int64} {q : Int32} {Q : Int32 → rI0 → rJ0 → Prop} (k : ∀ r, Q r I J) : wcI S d 142 [.long p, .int q] x I J Q := c142 (k _)
theorem zWith {p : Int64} {s q : Int32} {Q : Int64 → rI0 → rJ0 → Prop} (k : ∀ r, Q r I J) : wcJ S d 143 [.long p, .int s, .int q] x I J Q := wbA k
theorem zBc {p : Int32} {Q : Int32 → rI0 → rJ0 → Prop} (k : ∀ r, Q r I J) : wcI S d 249 [.int p] x I J Q := c249 (k _)
theorem zMom {p : Int32} {Q : Int32 → rI0 → rJ0 → Prop} (k : ∀ r, (r.toInt = 0 ∨ (r.toInt = 1 ∧ 0 ≤ p.toInt ∧ p.toInt ≤ 600)) → Q r I J) : wcI S d 141 [.int p] x I J Q := c141 ⟨fun _ => k _ (Or.inl (by decide)), fun a => ⟨fun _ => k _ (Or.inl (by decide)), fun b => k _ (Or.inr ⟨by decide, i_nlt a, i_nlt b⟩)⟩⟩
theorem zSeat {p : Int32} {Q : Int32 → rI0 → rJ0 → Prop} (h : CZ I0 J0 t I J) (k : ∀ r, (r.toInt = 0 ∨ (r.toInt = 1 ∧ 0 ≤ p.toInt ∧ p.toInt < 64 ∧ 0 ≤ (I 5 p.toNatClampNeg).toInt ∧ (I 5 p.toNatClampNeg).toInt ≤ 5)) → Q r I J) : wcI S d 24 [.ref 4, .int p] x I J Q := by
  refine isSeatA_4 (k 0 (Or.inl (by decide))) (fun s hs e hb => k 1 (Or.inr ?_))
  subst e
  have hk := h.1.2.1.2.2.2.1 s hs
  have hn := h.1.2.1.2.2.2.2 s hs hb
  rw [nI_clamp (by omega), nI_toInt (by omega)]
  rcases hk with hk | hk
  · exact absurd hk hn
  · have := hk.i (by omega)
    exact ⟨by decide, by omega, by omega, this.1, this.2⟩
theorem zPrice {p : Int32} {Q : Int32 → rI0 → rJ0 → Prop} (h : CZ I0 J0 t I J) (k : ∀ r, Q r I J) : wcI S (d + 2) 26 [.ref 4, .int p] x I J Q := priceOfA h.1.2.1.1 h.1.2.1.2.1 k
theorem zLeaves {p : Int32} {Q : Int32 → rI0 → rJ0 → Prop} (h : CZ I0 J0 t I J) (k : ∀ r, Q r I J) : wcI S (d + 2) 27 [.ref 4, .int p] x I J Q := leavesOfA h.1.2.1.1 h.1.2.1.2.1 k
theorem zCells {Q : Int32 → rI0 → rJ0 → Prop} (k : ∀ r, Q r I J) : wcI S d 23 [.ref 4] x I J Q := c23_4 (k _)
theorem CZ.fg (h : CZ I0 J0 t I J) : CZ I0 J0 t (mSet I 31 6 0) J := h.of h.1.f ⟨fun b hb => mSet_ne (by omega), fun _ _ => rfl, rfl⟩ rfl
theorem zForget {Q : rI0 → rJ0 → Prop} (h : CZ I0 J0 t I J) (k : ∀ I J, CZ I0 J0 t I J → Q I J) : wcV S d 6 [.ref 31] x I J Q := c6_31 (k _ _ h.fg)
theorem zTake {Q : Int32 → rI0 → rJ0 → Prop} (h : CZ I0 J0 t I J) (k : ∀ r I J, CZ I0 J0 0 I J → 0 ≤ r.toInt ∧ r.toInt ≤ 940 → Q r I J) : wcI S d 67 [.ref 1] x I J Q := by
  refine c67_1 (k _ _ _ ?_ (h.1.1.i (by omega)))
  obtain ⟨⟨c1, c4, c16, c3, c15, c31, c36, c41, c42, c37, c29⟩, u, e⟩ := h
  exact ⟨⟨⟨0, by omega, rfl⟩, c4, c16, c3, c15, c31, c36, c41, c42, c37, c29⟩, ⟨fun b hb => by rw [mSet_ne (by omega)]; exact u.1 b hb, u.2⟩, rfl⟩
theorem zLarge {Q : Int32 → rI0 → rJ0 → Prop} (k : ∀ r, Q r I J) : wcI S (d + 1) 140 [.ref 0] x I J Q := c140_0 (bcA (fun v => ⟨fun _ => k _, fun _ => k _⟩))
theorem CZ.kd {s u : Nat} {J' : rJ0} (h : CZ I0 J0 t I J) (hs : s < 64) (hu : u < 64) (h1 : 0 ≤ (I 5 s).toInt ∧ (I 5 s).toInt ≤ 5) (h2 : 0 ≤ (I 5 u).toInt ∧ (I 5 u).toInt ≤ 5) (hJ : ∀ b, b ≠ 6 → J' b = J b) : CZ I0 J0 t (mSet (mSet I 5 s (I 5 u)) 5 u (I 5 s)) J' := by
  refine h.of ?_ ⟨fun b hb => by rw [mSet_ne (by omega), mSet_ne (by omega)], fun b hb => hJ b (by omega), rfl⟩ rfl
  obtain ⟨⟨c1, c4, c16, c3, c15, c31, c36, c41, c42, c37, c29⟩, u', e⟩ := h
  have r1 : KB (I 5 s) := Or.inr (i_nI h1.1 h1.2 (by omega))
  have r2 : KB (I 5 u) := Or.inr (i_nI h2.1 h2.2 (by omega))
  have n1 : ¬ I 5 s = -1 := fun z => by rw [z] at h1; exact absurd h1.1 (by decide)
  have n2 : ¬ I 5 u = -1 := fun z => by rw [z] at h2; exact absurd h2.1 (by decide)
  unfold CV HV at *
  rw [hJ 4 (by decide), hJ 16 (by decide)]
  refine ⟨c1, ⟨c4.1, c4.2.1, c4.2.2.1, fun q hq => ?_, fun q hq hb => ?_⟩, c16, c3, c15, c31, c36, c41, c42, c37, c29⟩
  · unfold mSet va_up
    rw [if_pos rfl, if_pos rfl]
    split
    · exact r1
    · split
      · exact r2
      · exact c4.2.2.2.1 q hq
  · unfold mSet va_up
    rw [if_pos rfl, if_pos rfl]
    split
    · exact n1
    · split
      · exact n2
      · exact c4.2.2.2.2 q hq hb
theorem zExch {p q : Int32} {Q : rI0 → rJ0 → Prop} (h : CZ I0 J0 t I J) (hp : (0 ≤ p.toInt ∧ p.toInt < 64 ∧ 0 ≤ (I 5 p.toNatClampNeg).toInt ∧ (I 5 p.toNatClampNeg).toInt ≤ 5) ∧ (0 ≤ q.toInt ∧ q.toInt < 64 ∧ 0 ≤ (I 5 q.toNatClampNeg).toInt ∧ (I 5 q.toNatClampNeg).toInt ≤ 5)) (k : ∀ I' J', CZ I0 J0 t I' J' → I' 5 p.toNatClampNeg = I 5 q.toNatClampNeg → I' 5 q.toNatClampNeg = I 5 p.toNatClampNeg → Q I' J') : wcV S (d + 2) 30 [.ref 4, .int p, .int q] x I J Q := by
  obtain ⟨a, ha, rfl⟩ := i_nI (a := p) (n := 63) hp.1.1 (by omega) (by omega)
  obtain ⟨b, hb, rfl⟩ := i_nI (a := q) (n := 63) hp.2.1 (by omega) (by omega)
  rw [nI_clamp (by omega), nI_clamp (by omega)] at *
  refine exchangeA (by omega) (by omega) rfl rfl (fun J' o => k _ _ (h.kd (by omega) (by omega) hp.1.2.2 hp.2.2.2 o) ?_ ?_)
  · unfold mSet va_up
    rw [if_pos rfl, if_pos rfl]
    split
    · rename_i z
      rw [z]
    · rw [if_pos rfl]
  · unfold mSet va_up
    rw [if_pos rfl, if_pos rfl]
/-! the tokens too -/
def TQ (I0 : rI0) (J0 : rJ0) (t : Int32) (I : rI0) (J : rJ0) : Prop := CZ I0 J0 t I J ∧ TV I
theorem TQ.bnd (h : TQ I0 J0 t I J) : (0 ≤ (I 15 4).toInt ∧ (I 15 4).toInt ≤ 30) := h.1.bnd.2.2.2.2.1
theorem TQ.si {n k : Nat} {v : Int32} (h : TQ I0 J0 t I J) (hf : n < 43 ∧ ¬ (n = 0 ∧ k = 9) ∧ ¬ (2 ≤ n ∧ n ≤ 4) ∧ ¬ (7 ≤ n ∧ n ≤ 14) ∧ n ≠ 2 ∧ n ≠ 5 ∧ n ≠ 17 ∧ ¬ (n = 1 ∧ k = 1) ∧ ¬ (n = 4 ∧ (k = 0 ∨ k = 1 ∨ k = 4)) ∧ ¬ (n = 16 ∧ (k = 0 ∨ k = 1 ∨ k = 4)) ∧ ¬ (n = 3 ∧ k = 4) ∧ ¬ (n = 15 ∧ k = 4) ∧ ¬ (n = 31 ∧ k = 6) ∧ ¬ ((n = 36 ∨ n = 41 ∨ n = 42) ∧ k = 3) ∧ ¬ (n = 37 ∧ k = 7) ∧ ¬ (n = 29 ∧ k = 2)) (h28 : n ≠ 28) : TQ I0 J0 t (mSet I n k v) J := ⟨h.1.si hf, by
  obtain ⟨ln, ed, st, pl, e⟩ := h.2
  refine ⟨ln, ed, st, pl, ?_⟩
  unfold TP
  rw [mSet_ne h28.symm]
  exact e⟩
theorem TQ.s15 {v : Int32} (h : TQ I0 J0 t I J) (hv : 0 ≤ v.toInt ∧ v.toInt ≤ 30) : TQ I0 J0 t (mSet I 15 4 v) J := ⟨h.1.s15 hv, h.2⟩
theorem tRead {Q : rI0 → rJ0 → Prop} (h : TQ I0 J0 t I J) (k : ∀ I J, TQ I0 J0 t I J → Q I J) : wcV S d 70 [.ref 28] x I J Q := readA h.2 (fun I' o1 t1 _ => k I' J ⟨h.1.o28 o1, t1⟩)
theorem tFail {p : Int32} {Q : Int32 → rI0 → rJ0 → Prop} (h : TQ I0 J0 t I J) (k : ∀ r I J, TQ I0 J0 t I J → r.toInt = 0 → Q r I J) : wcI S d 75 [.ref 28, .int p] x I J Q := failA h.2 (fun I' o1 t1 => k 0 I' J ⟨h.1.o28 o1, t1⟩ (by decide))
theorem tWithin {p q : Int32} {Q : Int32 → rI0 → rJ0 → Prop} (h : TQ I0 J0 t I J) (k : ∀ r I J, TQ I0 J0 t I J → r.toInt = 0 ∨ r.toInt = 1 → Q r I J) : wcI S d 76 [.ref 28, .int p, .int q] x I J Q := withinA h.2 (fun I' o1 t1 => k 0 I' J ⟨h.1.o28 o1, t1⟩ (by decide)) (fun _ _ => k 1 I J h (by decide))
theorem tTake {p q : Int32} {Q : Int32 → rI0 → rJ0 → Prop} (h : TQ I0 J0 t I J) (k : ∀ r I J, TQ I0 J0 t I J → r.toInt = 0 ∨ r.toInt = 1 → Q r I J) : wcI S (d + 1) 77 [.ref 28, .int p, .int q] x I J Q := takeNumA h.2 (fun I' o1 t1 => k 0 I' J ⟨h.1.o28 o1, t1⟩ (by decide)) (fun _ I' _ _ o1 t1 _ => k 1 I' J ⟨h.1.o28 o1, t1⟩ (by decide))
theorem tPass {p : Int32} {Q : Int32 → rI0 → rJ0 → Prop} (h : TQ I0 J0 t I J) (k : ∀ r I J, TQ I0 J0 t I J → r.toInt = 0 ∨ r.toInt = 1 → Q r I J) : wcI S (d + 1) 78 [.ref 28, .int p] x I J Q := passA h.2 (fun r I' hr o1 t1 => k r I' J ⟨h.1.o28 o1, t1⟩ (by rcases hr with rfl | rfl <;> decide))
theorem tAt {Q : Int32 → rI0 → rJ0 → Prop} (h : TQ I0 J0 t I J) (k : ∀ r, Q r I J) : wcI S (d + 8) 73 [.ref 28, .ref 1000004] x I J Q := amongA_1000004 h.2 (fun r _ => k r)
theorem tDeed {Q : Int32 → rI0 → rJ0 → Prop} (h : TQ I0 J0 t I J) (k : ∀ r, Q r I J) : wcI S (d + 8) 73 [.ref 28, .ref 1000005] x I J Q := amongA_1000005 h.2 (fun r _ => k r)
theorem tSeat {p : Int32} {Q : Int32 → rI0 → rJ0 → Prop} (k : ∀ r, Q r I J) : wcI S d 24 [.ref 4, .int p] x I J Q := isSeatA_4 (k 0) (fun _ _ _ _ => k 1)
def CW (I0 : rI0) (J0 : rJ0) (t : Int32) (I : rI0) (J : rJ0) : Prop := CV I J ∧ U43 I0 J0 I J ∧ I 1 1 = t ∧ UH I0 J0 I J
theorem CZ.w (h : CZ I0 J0 t I J) : CW I0 J0 t I J := ⟨h.1, h.2.1.w, h.2.2, h.2.1.h⟩
theorem CW.s09 {v : Int32} (h : CW I0 J0 t I J) : CW I0 J0 t (mSet I 0 9 v) J := by
  obtain ⟨⟨c1, c4, c16, c3, c15, c31, c36, c41, c42, c37, c29⟩, u, e, w⟩ := h
  exact ⟨⟨c1, c4, c16, c3, c15, c31, c36, c41, c42, c37, c29⟩, ⟨fun b hb => by rw [mSet_ne (by omega)]; exact u.1 b hb, u.2⟩, e, ⟨fun b hb => by rw [mSet_ne (by omega)]; exact w.1 b hb, w.2⟩⟩
theorem CW.fg (h : CW I0 J0 t I J) : CW I0 J0 t (mSet I 31 6 0) J := ⟨h.1.f, ⟨fun b hb => by rw [mSet_ne (by omega)]; exact h.2.1.1 b hb, h.2.1.2⟩, h.2.2.1, ⟨fun b hb => by rw [mSet_ne (by omega)]; exact h.2.2.2.1 b hb, h.2.2.2.2⟩⟩
theorem zCopy {Q : rI0 → rJ0 → Prop} (h : CW I0 J0 t I J) (k : ∀ I J, CW I0 J0 t I J → Q I J) : wcV S (d + 1) 16 [.ref 3, .ref 15] x I J Q := by
  refine takeCues0 (fun I' o e => k I' J ⟨?_, h.2.1.tr ⟨fun b hb => o b (by omega) (by omega) (by omega) (by omega), fun _ _ => rfl⟩, by rw [o 1 (by decide) (by decide) (by decide) (by decide)]; exact h.2.2.1, ⟨fun b hb => by rw [o b (by omega) (by omega) (by omega) (by omega)]; exact h.2.2.2.1 b hb, h.2.2.2.2⟩⟩)
  obtain ⟨⟨c1, c4, c16, c3, c15, c31, c36, c41, c42, c37, c29⟩, u, e', -⟩ := h
  have f : ∀ b, b ≠ 3 ∧ b ≠ 12 ∧ b ≠ 13 ∧ b ≠ 14 → I' b = I b := fun b hb => o b hb.1 hb.2.1 hb.2.2.1 hb.2.2.2
  unfold CV HV at *
  rw [e, f 1 (by decide), f 4 (by decide), f 5 (by decide), f 16 (by decide), f 17 (by decide), f 15 (by decide), f 31 (by decide), f 36 (by decide), f 41 (by decide), f 42 (by decide), f 37 (by decide), f 29 (by decide)]
  exact ⟨c1, c4, c16, c15, c15, c31, c36, c41, c42, c37, c29⟩
end CZ0
end
