/-! THE CLASS WITHIN ITS BOUNDS, and house() -/
section CI9
variable {S : Nat × (Nat → Int32)} {d : Nat} {x : mX} {I : rI0} {J : rJ0}
def HV (h q : Nat) (I : rI0) (J : rJ0) : Prop := RB (I h 0) 8 ∧ RB (I h 1) 8 ∧ (I h 4 = 0 ∨ I h 4 = 1) ∧ (∀ s, s < 64 → KB (I q s)) ∧ (∀ s, s < 64 → SB (J h 5) s → ¬ I q s = -1)
def CV (I : rI0) (J : rJ0) : Prop := RB (I 1 1) 940 ∧ HV 4 5 I J ∧ HV 16 17 I J ∧ RB (I 3 4) 30 ∧ RB (I 15 4) 30 ∧ RB (I 31 6) 601 ∧ RB (I 36 3) 30 ∧ RB (I 41 3) 30 ∧ RB (I 42 3) 30 ∧ RB (I 37 7) 8 ∧ RB (I 29 2) 20
/-- nothing of the reference, the law or the kept has changed -/
def U43 (I : rI0) (J : rJ0) (I' : rI0) (J' : rJ0) : Prop := (∀ b, 43 ≤ b ∨ b = 2 → I' b = I b) ∧ ∀ b, 43 ≤ b → J' b = J b
theorem U43.rf : U43 I J I J := ⟨fun _ _ => rfl, fun _ _ => rfl⟩
/-- the house that stands, up to kinds, stays; and the fault -/
def UN (I : rI0) (J : rJ0) (I' : rI0) (J' : rJ0) : Prop := (∀ b, 43 ≤ b ∨ b = 2 ∨ b = 3 ∨ b = 4 ∨ (7 ≤ b ∧ b ≤ 14) → I' b = I b) ∧ (∀ b, 43 ≤ b ∨ b = 4 ∨ (7 ≤ b ∧ b ≤ 14) → J' b = J b) ∧ I' 0 9 = I 0 9
theorem UN.rf : UN I J I J := ⟨fun _ _ => rfl, fun _ _ => rfl, rfl⟩
theorem UN.tr {I1 I2 : rI0} {J1 J2 : rJ0} (h : UN I J I1 J1) (h2 : UN I1 J1 I2 J2) : UN I J I2 J2 := ⟨fun b hb => (h2.1 b hb).trans (h.1 b hb), fun b hb => (h2.2.1 b hb).trans (h.2.1 b hb), h2.2.2.trans h.2.2⟩
def UH (I : rI0) (J : rJ0) (I' : rI0) (J' : rJ0) : Prop := (∀ b, b = 4 ∨ (7 ≤ b ∧ b ≤ 11) → I' b = I b) ∧ J' 4 = J 4
theorem UN.h {I' : rI0} {J' : rJ0} (h : UN I J I' J') : UH I J I' J' := ⟨fun b hb => h.1 b (by omega), h.2.1 4 (by omega)⟩
theorem UN.w {I' : rI0} {J' : rJ0} (h : UN I J I' J') : U43 I J I' J' := ⟨fun b hb => h.1 b (by omega), fun b hb => h.2.1 b (by omega)⟩
theorem U43.tr {I1 I2 : rI0} {J1 J2 : rJ0} (h : U43 I J I1 J1) (h2 : U43 I1 J1 I2 J2) : U43 I J I2 J2 := ⟨fun b hb => (h2.1 b hb).trans (h.1 b hb), fun b hb => (h2.2 b hb).trans (h.2 b hb)⟩
theorem clearA {Q : rI0 → rJ0 → Prop} (k : ∀ I' J', (∀ b, ¬ (b = 16 ∨ b = 19 ∨ b = 20 ∨ b = 21) → I' b = I b) → (∀ b, b ≠ 16 → b ≠ 18 → J' b = J b) → I' 16 0 = 0 → I' 16 1 = 0 → I' 16 4 = 0 → J' 16 5 = 0 → Q I' J') : wcV S (d + 1) 21 [.ref 16] x I J Q := by
  refine c21_16 (fillJ_v rfl (by decide) (fillI_v rfl (by decide) (fillI_v rfl (by decide) (fillI_v rfl (by decide) ?_))))
  refine k _ _ (fun b hb => ?_) (fun b h1 h2 => ?_) rfl rfl rfl rfl
  · rw [vu_ne (by omega), vu_ne (by omega), vu_ne (by omega), mSet_ne (by omega), mSet_ne (by omega), mSet_ne (by omega), mSet_ne (by omega), mSet_ne (by omega)]
  · rw [vu_ne h2, mSet_ne h1]
theorem cpy64 {α : Type} (f g : Nat → α) {s : Nat} (hs : s < 64) : va_cpy f g (0 : Int32).toNatClampNeg (0 : Int32).toNatClampNeg (64 : Int32).toNatClampNeg s = f s := by
  show (if 0 ≤ s ∧ s < 0 + 64 then f (0 + (s - 0)) else g s) = f s
  rw [if_pos ⟨by omega, by omega⟩, Nat.zero_add, Nat.sub_zero]
theorem takeHouseA {Q : rI0 → rJ0 → Prop} (h4 : I 16 4 = 0 ∨ I 16 4 = 1) (k : ∀ I' J', (∀ b, ¬ (4 ≤ b ∧ b ≤ 11) → I' b = I b) → (∀ b, ¬ (4 ≤ b ∧ b ≤ 11) → J' b = J b) → I' 4 0 = I 16 0 → I' 4 1 = I 16 1 → I' 4 4 = I 16 4 → (∀ s, s < 64 → I' 5 s = I 17 s) → J' 4 5 = J 16 5 → Q I' J') : wcV S (d + 1) 22 [.ref 4, .ref 16] x I J Q := by
  refine c22_4_16 ⟨h4, by decide, fun I1 e1 => ⟨by decide, fun J2 e2 => ⟨by decide, fun I3 e3 => ⟨by decide, fun I4 e4 => ⟨by decide, fun I5 e5 => ⟨by decide, fun I6 e6 => ⟨by decide, fun J7 e7 => k I6 J7 (fun b hb => ?_) (fun b hb => ?_) ?_ ?_ ?_ (fun s hs => ?_) ?_⟩⟩⟩⟩⟩⟩⟩
  · rw [e6, vu_ne (by omega), e5, vu_ne (by omega), e4, vu_ne (by omega), e3, vu_ne (by omega), e1, vu_ne (by omega), mSet_ne (by omega), mSet_ne (by omega), mSet_ne (by omega), mSet_ne (by omega), mSet_ne (by omega)]
  · rw [e7, vu_ne (by omega), e2, vu_ne (by omega), mSet_ne (by omega)]
  · rw [e6, e5, e4, e3, e1]
    rfl
  · rw [e6, e5, e4, e3, e1]
    rfl
  · rw [e6, e5, e4, e3, e1]
    rfl
  · rw [e6, vu_ne (by decide), e5, vu_ne (by decide), e4, vu_ne (by decide), e3, vu_ne (by decide), e1]
    unfold va_up
    rw [if_pos rfl]
    exact cpy64 _ _ hs
  · rw [e7, e2]
    rfl
theorem line_lp {Q : Int32 → rI0 → rJ0 → Prop} : ∀ (m c : Nat) (I : rI0), c + m = 900 → HI I → (∀ u I', OX I I' → HI I' → wp S (d + 30) 101 67 [some (.ref 0), some (.int u)] [] (wv x I' J) (rI x Q)) → wp S (d + 30) 101 33 [some (.ref 0), some (.int (nI c))] [] (wv x I J) (rI x Q) := by
  intro m
  induction m with
  | zero =>
    intro c I hc h k
    have hc : c = 900 := by omega
    subst hc
    exact v101_0_33 ⟨fun q => absurd q (by decide), fun _ => k _ I OX.rf h⟩
  | succ m ih =>
    intro c I hc h k
    refine v101_0_33 ⟨fun _ => ⟨fun _ => k _ I OX.rf h, fun _ => readLineX h (fun r I1 hr o1 h1 => ⟨fun _ => k _ I1 o1 h1, fun _ => ?_⟩)⟩, fun q => absurd (nI_lt (by omega) (by omega) : nI c < nI 900) q⟩
    rw [← nI_succ]
    exact ih (c + 1) I1 (by omega) h1 (fun u I' o2 h2 => k u I' (o1.tr o2) h2)
theorem houseP {Q : Int32 → rI0 → rJ0 → Prop} (h : CV I J) (k : ∀ r I' J', CV I' J' → U43 I J I' J' → I' 1 1 = 0 → Q r I' J') : wcI S (d + 30) 101 [.ref 0] x I J Q := by
  obtain ⟨⟨n, hn, en⟩, c4, c16, c3, c15, c31, c36, c41, c42, c37, c29⟩ := h
  refine c101_0 (c14_15 (clearA (fun I1 J1 i1 j1 z0 z1 z4 z5 => ?_)))
  refine c67_1 ?_
  have e1 : (mSet I1 15 4 0) 1 1 = nI n := by
    show I1 1 1 = _
    rw [i1 1 (by omega)]
    exact en
  rw [e1]
  refine openA hn (Or.inl rfl) (fun I2 o2 t2 _ => c36_29 ?_)
  have hi : HI (mSet (mSet (mSet I2 29 3 0) 29 4 0) 29 5 0) := by
    refine HI.s29 (HI.s29 (HI.s29 ⟨t2, ?_, ?_, ?_, ?_, ?_⟩ (by decide)) (by decide)) (by decide)
    · rw [o2 16 (by decide)]
      exact ⟨0, by omega, z0⟩
    · rw [o2 16 (by decide)]
      exact ⟨0, by omega, z1⟩
    · rw [o2 16 (by decide)]
      exact Or.inl z4
    · intro s hs
      rw [o2 17 (by decide)]
      show KB (I1 17 s)
      rw [i1 17 (by omega)]
      exact c16.2.2.2.1 s hs
    · rw [o2 29 (by decide)]
      show RB (I1 29 2) 20
      rw [i1 29 (by omega)]
      exact c29
  refine line_lp 900 0 _ rfl hi (fun u I3 o3 h3 => ?_)
  have f3 : ∀ b, ¬ (b = 1 ∨ b = 15 ∨ b = 16 ∨ b = 17 ∨ (19 ≤ b ∧ b ≤ 22) ∨ b = 28 ∨ b = 29) → I3 b = I b := by
    intro b hb
    rw [o3 b (by omega), mSet_ne (by omega), mSet_ne (by omega), mSet_ne (by omega), o2 b (by omega), mSet_ne (by omega), mSet_ne (by omega)]
    exact i1 b (by omega)
  have g1 : I3 1 1 = 0 := by
    rw [o3 1 (by omega), mSet_ne (by decide), mSet_ne (by decide), mSet_ne (by decide), o2 1 (by decide)]
    rfl
  have g15 : I3 15 4 = 0 := by
    rw [o3 15 (by omega), mSet_ne (by decide), mSet_ne (by decide), mSet_ne (by decide), o2 15 (by decide)]
    rfl
  obtain ⟨t3, a0, a1, a4, a17, a29⟩ := h3
  have j5 : ∀ b, b ≠ 15 → b ≠ 16 → b ≠ 18 → (mSet (mSet J1 15 5 0) 15 6 0) b = J b := fun b hb1 hb2 hb3 => by rw [mSet_ne hb1, mSet_ne hb1]; exact j1 b hb2 hb3
  have s16 : ∀ s, s < 64 → SB ((mSet (mSet J1 15 5 0) 15 6 0) 16 5) s → ¬ I3 17 s = -1 := fun s _ hb => absurd (show SB (J1 16 5) s from hb) (by rw [z5]; exact SB_0)
  have rest : RB (I3 31 6) 601 ∧ RB (I3 36 3) 30 ∧ RB (I3 41 3) 30 ∧ RB (I3 42 3) 30 ∧ RB (I3 37 7) 8 := by
    rw [f3 31 (by omega), f3 36 (by omega), f3 41 (by omega), f3 42 (by omega), f3 37 (by omega)]
    exact ⟨c31, c36, c41, c42, c37⟩
  refine v101_0_67 ⟨fun _ => surveyA (I := mSet I3 0 9 (I3 28 8)) a0 a1 (fun J4 o4 q4 b4 => c15_3_15 (takeHouseA (I := mSet I3 0 9 (I3 28 8)) a4 (fun I5 J5 i5 j5' r0 r1 r4 r5 s5 => takeCues0 (fun I6 i6 e6 => c6_31 (k _ _ _ ?_ ⟨fun b hb => ?_, fun b hb => ?_⟩ (by show I6 1 1 = 0; rw [i6 1 (by decide) (by decide) (by decide) (by decide), i5 1 (by omega), mSet_ne (by decide)]; exact g1)))))), fun _ => k _ _ _ ?_ ⟨fun b hb => ?_, fun b hb => ?_⟩ (show I3 1 1 = 0 from g1)⟩
  · have m4 : ∀ b, ¬ (b = 3 ∨ (4 ≤ b ∧ b ≤ 14) ∨ b = 0) → I6 b = I3 b := fun b hb => by rw [i6 b (by omega) (by omega) (by omega) (by omega), i5 b (by omega), mSet_ne (by omega)]
    refine ⟨?_, ⟨?_, ?_, ?_, ?_, ?_⟩, ⟨?_, ?_, ?_, ?_, ?_⟩, ?_, ?_, ⟨0, by omega, rfl⟩, ?_, ?_, ?_, ?_, ?_⟩
    · show RB (I6 1 1) 940
      rw [m4 1 (by omega), g1]
      exact ⟨0, by omega, rfl⟩
    · show RB (I6 4 0) 8
      rw [i6 4 (by decide) (by decide) (by decide) (by decide), r0]
      exact a0
    · show RB (I6 4 1) 8
      rw [i6 4 (by decide) (by decide) (by decide) (by decide), r1]
      exact a1
    · show I6 4 4 = 0 ∨ I6 4 4 = 1
      rw [i6 4 (by decide) (by decide) (by decide) (by decide), r4]
      exact a4
    · intro s hs
      show KB (I6 5 s)
      rw [i6 5 (by decide) (by decide) (by decide) (by decide), r5 s hs]
      exact a17 s hs
    · intro s hs hb
      show ¬ I6 5 s = -1
      rw [i6 5 (by decide) (by decide) (by decide) (by decide), r5 s hs]
      exact b4 s hs (s5 ▸ hb)
    · show RB (I6 16 0) 8
      rw [m4 16 (by omega)]
      exact a0
    · show RB (I6 16 1) 8
      rw [m4 16 (by omega)]
      exact a1
    · show I6 16 4 = 0 ∨ I6 16 4 = 1
      rw [m4 16 (by omega)]
      exact a4
    · intro s hs
      show KB (I6 17 s)
      rw [m4 17 (by omega)]
      exact a17 s hs
    · intro s hs hb
      show ¬ I6 17 s = -1
      rw [m4 17 (by omega)]
      have hb : SB (J5 16 5) s := hb
      rw [j5' 16 (by omega)] at hb
      exact b4 s hs hb
    · show RB (I6 3 4) 30
      rw [e6, i5 15 (by omega)]
      show RB (I3 15 4) 30
      rw [g15]
      exact ⟨0, by omega, rfl⟩
    · show RB (I6 15 4) 30
      rw [m4 15 (by omega), g15]
      exact ⟨0, by omega, rfl⟩
    · show RB (I6 36 3) 30
      rw [m4 36 (by omega)]
      exact rest.2.1
    · show RB (I6 41 3) 30
      rw [m4 41 (by omega)]
      exact rest.2.2.1
    · show RB (I6 42 3) 30
      rw [m4 42 (by omega)]
      exact rest.2.2.2.1
    · show RB (I6 37 7) 8
      rw [m4 37 (by omega)]
      exact rest.2.2.2.2
    · show RB (I6 29 2) 20
      rw [m4 29 (by omega)]
      exact a29
  · rw [mSet_ne (by omega), i6 b (by omega) (by omega) (by omega) (by omega), i5 b (by omega), mSet_ne (by omega)]
    exact f3 b (by omega)
  · rw [mSet_ne (by omega), mSet_ne (by omega), j5' b (by omega), o4 b (by omega) (by omega) (by omega)]
    exact j5 b (by omega) (by omega) (by omega)
  · refine ⟨?_, ?_, ⟨a0, a1, a4, a17, s16⟩, ?_, ?_, rest.1, rest.2.1, rest.2.2.1, rest.2.2.2.1, rest.2.2.2.2, a29⟩
    · show RB (I3 1 1) 940
      rw [g1]
      exact ⟨0, by omega, rfl⟩
    · obtain ⟨b0, b1, b2, b3, b5⟩ := c4
      refine ⟨?_, ?_, ?_, fun s hs => ?_, fun s hs hb => ?_⟩
      · show RB (I3 4 0) 8
        rw [f3 4 (by omega)]
        exact b0
      · show RB (I3 4 1) 8
        rw [f3 4 (by omega)]
        exact b1
      · show I3 4 4 = 0 ∨ I3 4 4 = 1
        rw [f3 4 (by omega)]
        exact b2
      · show KB (I3 5 s)
        rw [f3 5 (by omega)]
        exact b3 s hs
      · show ¬ I3 5 s = -1
        rw [f3 5 (by omega)]
        rw [j5 4 (by decide) (by decide) (by decide)] at hb
        exact b5 s hs hb
    · show RB (I3 3 4) 30
      rw [f3 3 (by omega)]
      exact c3
    · show RB (I3 15 4) 30
      rw [g15]
      exact ⟨0, by omega, rfl⟩
  · rw [mSet_ne (by omega)]
    exact f3 b (by omega)
  · exact j5 b (by omega) (by omega) (by omega)
end CI9
