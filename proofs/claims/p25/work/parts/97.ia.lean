section
/-! the house that stands: the class's evening at t against the reference's row -/
section PN0
variable {S : Nat × (Nat → Int32)} {d : Nat} {x : mX} {I I' : rI0} {J J' : rJ0}
theorem SB_orI {v w : Int64} {s : Nat} : SB (v ||| w) s ↔ SB v s ∨ SB w s := by
  unfold SB
  rw [Int64.toBitVec_or, BitVec.getLsbD_or, Bool.or_eq_true]
theorem SB_1I {c : Nat} (hc : c < 64) : SB ((1 : Int64) <<< ((nI c).toInt64 &&& 63)) c := by
  unfold SB
  rw [sh1 c hc, BitVec.getLsbD_twoPow, Bool.and_eq_true]
  exact ⟨decide_eq_true hc, decide_eq_true rfl⟩
theorem surv7E {R C : Nat} {Q : rI0 → rJ0 → Prop} (hR : R ≤ 8) (hC : C ≤ 8) (eR : I 16 0 = nI R) (eC : I 16 1 = nI C) : ∀ (m c : Nat) (J : rJ0), c + m = R * C → (∀ s, s < 64 → (SB (J 16 5) s ↔ s < c ∧ ¬ I 17 s = -1)) → (∀ J', (∀ b, b ≠ 16 → b ≠ 18 → b ≠ 23 → J' b = J b) → (∀ q, q ≠ 5 → J' 16 q = J 16 q) → (∀ s, s < 64 → (SB (J' 16 5) s ↔ s < R * C ∧ ¬ I 17 s = -1)) → Q I J') → wp S (d + 3) 32 7 [some (.ref 16), some (.int (nI c))] [] (wv x I J) (rV x Q) := by
  have hRC : R * C ≤ 64 := Nat.le_trans (Nat.mul_le_mul hR hC) (by omega)
  intro m
  induction m with
  | zero =>
    intro c J hc hb k
    have hc : c = R * C := by omega
    have g : wp S (d + 3) 32 66 [some (.ref 16), some (.int 0)] [] (wv x I J) (rV x Q) := surv66 ⟨R, hR, eR⟩ ⟨C, hC, eC⟩ 64 0 J rfl (fun J' o1 => k J' (fun b h1 h2 h3 => o1 b h3) (fun q hq => congrFun (o1 16 (by decide)) q) (by rw [o1 16 (by decide), ← hc]; exact hb))
    exact v32_16_7 (c23_16 ⟨fun q => absurd q (by rw [eR, eC, nI_mu]; exact nI_nlt (by omega) (by omega)), fun _ => g⟩)
  | succ m ih =>
    intro c J hc hb k
    have hc64 : c < 64 := by omega
    refine v32_16_7 (c23_16 ⟨fun _ => ⟨fun _ => ⟨nI_in hc64 (by omega), setKindA_16 hc64 rfl (fun J2 o2 => ?_)⟩, fun q => absurd (nI_lt (by omega) (by omega) : nI c < nI 64) q⟩, fun q => absurd (by rw [eR, eC, nI_mu]; exact nI_lt (by omega) (by omega)) q⟩)
    rw [nI_clamp (by omega), mSet_self]
    have e5 : J2 16 5 = J 16 5 := by rw [o2 16 (by decide)]
    have go : ∀ v : Int64, (∀ s, s < 64 → (SB (J2 16 5 ||| v) s ↔ s < c + 1 ∧ ¬ I 17 s = -1)) → wp S (d + 3) 32 7 [some (.ref 16), some (.int (nI c + 1))] [] (wv x I (mSet J2 16 5 (J2 16 5 ||| v))) (rV x Q) := by
      intro v hv
      rw [← nI_succ]
      refine ih (c + 1) _ (by omega) hv (fun J' o3 q3 b3 => k J' (fun b h1 h2 h3 => ?_) (fun q hq => ?_) b3)
      · rw [o3 b h1 h2 h3, mSet_ne h1, o2 b h2]
      · rw [q3 q hq]
        show mSet J2 16 5 _ 16 q = J 16 q
        unfold mSet va_up
        rw [if_pos rfl, if_neg hq, o2 16 (by decide)]
    refine ⟨nI_in hc64 (by omega), fun hk => go _ (fun s hs => ?_), fun hk => go _ (fun s hs => ?_)⟩
    · rw [SB_orI, e5, hb s hs]
      constructor
      · rintro (⟨a, b⟩ | z)
        · exact ⟨by omega, b⟩
        · exact (SB_0 z).elim
      · rintro ⟨a, b⟩
        refine Or.inl ⟨?_, b⟩
        rcases (show s < c ∨ s = c by omega) with y | y
        · exact y
        · rw [y] at b
          exact absurd hk b
    · rw [SB_orI, e5, hb s hs]
      constructor
      · rintro (⟨a, b⟩ | z)
        · exact ⟨by omega, b⟩
        · rw [SB_1 hc64 z]
          exact ⟨by omega, hk⟩
      · rintro ⟨a, b⟩
        rcases (show s < c ∨ s = c by omega) with y | y
        · exact Or.inl ⟨y, b⟩
        · rw [y]
          exact Or.inr (SB_1I hc64)
theorem surveyE {R C : Nat} {Q : rI0 → rJ0 → Prop} (hR : R ≤ 8) (hC : C ≤ 8) (eR : I 16 0 = nI R) (eC : I 16 1 = nI C) (k : ∀ J', (∀ b, b ≠ 16 → b ≠ 18 → b ≠ 23 → J' b = J b) → (∀ q, q ≠ 5 → J' 16 q = J 16 q) → (∀ s, s < 64 → (SB (J' 16 5) s ↔ s < R * C ∧ ¬ I 17 s = -1)) → Q I J') : wcV S (d + 3) 32 [.ref 16] x I J Q := by
  refine c32_16 (surv7E hR hC eR eC (R * C) 0 _ (by omega) (fun s hs => ⟨fun hv => absurd hv SB_0, fun q => absurd q.1 (by omega)⟩) (fun J' o1 q1 b1 => k J' (fun b z1 z2 z3 => (o1 b z1 z2 z3).trans (mSet_ne z1)) (fun q hq => ?_) b1))
  rw [q1 q hq]
  show mSet J 16 5 0 16 q = J 16 q
  unfold mSet va_up
  rw [if_pos rfl, if_neg hq]
theorem takeHouseE {Q : rI0 → rJ0 → Prop} (h4 : I 16 4 = 0 ∨ I 16 4 = 1) (k : ∀ I' J', (∀ b, ¬ (4 ≤ b ∧ b ≤ 11) → I' b = I b) → (∀ b, ¬ (4 ≤ b ∧ b ≤ 11) → J' b = J b) → (∀ q, q ≤ 4 → I' 4 q = I 16 q) → J' 4 5 = J 16 5 → (∀ s, s < 64 → I' 5 s = I 17 s) → (∀ q, q < 6 → J' 6 q = J 18 q) → (∀ r, r < 8 → I' 7 r = I 19 r) → (∀ r, r < 8 → I' 8 r = I 20 r) → (∀ l, l < 12 → I' 9 l = I 21 l) → (∀ i, i < 240 → I' 10 i = I 22 i) → (∀ i, i < 384 → J' 11 i = J 23 i) → Q I' J') : wcV S (d + 1) 22 [.ref 4, .ref 16] x I J Q := by
  refine c22_4_16 ⟨h4, by decide, fun I1 e1 => ⟨by decide, fun J2 e2 => ⟨by decide, fun I3 e3 => ⟨by decide, fun I4 e4 => ⟨by decide, fun I5 e5 => ⟨by decide, fun I6 e6 => ⟨by decide, fun J7 e7 => ?_⟩⟩⟩⟩⟩⟩⟩
  have n1 : ∀ b, ¬ (b = 4 ∨ b = 5) → I1 b = I b := fun b hb => by rw [e1, vu_ne (by omega), mSet_ne (by omega), mSet_ne (by omega), mSet_ne (by omega), mSet_ne (by omega), mSet_ne (by omega)]
  have n2 : ∀ b, ¬ (b = 4 ∨ b = 6) → J2 b = J b := fun b hb => by rw [e2, vu_ne (by omega), mSet_ne (by omega)]
  refine k I6 J7 (fun b hb => ?_) (fun b hb => ?_) (fun q hq => ?_) ?_ (fun s hs => ?_) (fun q hq => ?_) (fun r hr => ?_) (fun r hr => ?_) (fun l hl => ?_) (fun i hi => ?_) (fun i hi => ?_)
  · rw [e6, vu_ne (by omega), e5, vu_ne (by omega), e4, vu_ne (by omega), e3, vu_ne (by omega)]
    exact n1 b (by omega)
  · rw [e7, vu_ne (by omega)]
    exact n2 b (by omega)
  · rw [e6, vu_ne (by decide), e5, vu_ne (by decide), e4, vu_ne (by decide), e3, vu_ne (by decide), e1, vu_ne (by decide)]
    rcases (show q = 0 ∨ q = 1 ∨ q = 2 ∨ q = 3 ∨ q = 4 by omega) with z | z | z | z | z <;> subst z <;> rfl
  · rw [e7, vu_ne (by decide), e2, vu_ne (by decide)]
    rfl
  · rw [e6, vu_ne (by decide), e5, vu_ne (by decide), e4, vu_ne (by decide), e3, vu_ne (by decide), e1]
    unfold va_up
    rw [if_pos rfl]
    exact cpyK (n := 64) _ _ rfl hs
  · rw [e7, vu_ne (by decide), e2]
    unfold va_up
    rw [if_pos rfl]
    exact cpyK (n := 6) _ _ rfl hq
  · rw [e6, vu_ne (by decide), e5, vu_ne (by decide), e4, vu_ne (by decide), e3]
    unfold va_up
    rw [if_pos rfl]
    exact (cpyK (n := 8) _ _ rfl hr).trans (congrFun (n1 19 (by decide)) r)
  · rw [e6, vu_ne (by decide), e5, vu_ne (by decide), e4]
    unfold va_up
    rw [if_pos rfl]
    refine (cpyK (n := 8) _ _ rfl hr).trans ?_
    rw [e3, vu_ne (by decide)]
    exact congrFun (n1 20 (by decide)) r
  · rw [e6, vu_ne (by decide), e5]
    unfold va_up
    rw [if_pos rfl]
    refine (cpyK (n := 12) _ _ rfl hl).trans ?_
    rw [e4, vu_ne (by decide), e3, vu_ne (by decide)]
    exact congrFun (n1 21 (by decide)) l
  · rw [e6]
    unfold va_up
    rw [if_pos rfl]
    refine (cpyK (n := 240) _ _ rfl hi).trans ?_
    rw [e5, vu_ne (by decide), e4, vu_ne (by decide), e3, vu_ne (by decide)]
    exact congrFun (n1 22 (by decide)) i
  · rw [e7]
    unfold va_up
    rw [if_pos rfl]
    exact (cpyK (n := 384) _ _ rfl hi).trans (congrFun (n2 23 (by decide)) i)
theorem takeCuesE {Q : rI0 → rJ0 → Prop} (k : ∀ I', (∀ a, a ≠ 3 → a ≠ 12 → a ≠ 13 → a ≠ 14 → I' a = I a) → I' 3 4 = I 15 4 → (∀ i, i < 30 → I' 12 i = I 24 i ∧ I' 13 i = I 25 i ∧ I' 14 i = I 26 i) → Q I' J) : wcV S (d + 1) 16 [.ref 3, .ref 15] x I J Q := by
  refine c16_3_15 ⟨cp30, fun I1 e1 => ⟨cp30, fun I2 e2 => ⟨cp30, fun I3 e3 => k I3 (fun a h1 h2 h3 h4 => ?_) ?_ (fun i hi => ⟨?_, ?_, ?_⟩)⟩⟩⟩
  · rw [e3, vu_ne h4, e2, vu_ne h3, e1, vu_ne h2, mSet_ne h1]
  · rw [e3, e2, e1]
    rfl
  · rw [e3, vu_ne (by decide), e2, vu_ne (by decide), e1]
    unfold va_up
    rw [if_pos rfl]
    refine (cpyK (n := 30) _ _ rfl hi).trans ?_
    rw [mSet_ne (by decide)]
  · rw [e3, vu_ne (by decide), e2]
    unfold va_up
    rw [if_pos rfl]
    refine (cpyK (n := 30) _ _ rfl hi).trans ?_
    rw [e1, vu_ne (by decide), mSet_ne (by decide)]
  · rw [e3]
    unfold va_up
    rw [if_pos rfl]
    refine (cpyK (n := 30) _ _ rfl hi).trans ?_
    rw [e2, vu_ne (by decide), e1, vu_ne (by decide), mSet_ne (by decide)]
/-- the house up to who sits where, and the cues -/
def NRw (t : Nat) (I : rI0) (J : rJ0) (g : Nat → Int32) : Prop := (∃ R C, R ≤ 8 ∧ C ≤ 8 ∧ I (t + 1) 0 = nI R ∧ g 0 = nI R ∧ I (t + 1) 1 = nI C ∧ g 1 = nI C ∧ ∀ s, s < 64 → R * C ≤ s → ¬ SB (J (t + 1) 5) s) ∧ (∀ s, s < 64 → (SB (J (t + 1) 5) s ↔ 0 < (g (6 + s)).toInt)) ∧ (∀ r, r < 8 → RB (I (t + 4) r) 999 ∧ g (70 + r) = I (t + 4) r) ∧ (∀ r, r < 8 → (I (t + 5) r = -1 ∨ RB (I (t + 5) r) 600) ∧ g (78 + r) = I (t + 5) r + 1) ∧ ((I (t + 1) 4 = 0 ∨ I (t + 1) 4 = 1) ∧ g 5 = I (t + 1) 4 ∧ (∃ v, 1 ≤ v ∧ v ≤ 64 ∧ I (t + 1) 2 = nI v ∧ g 3 = nI v) ∧ ∃ v, v ≤ 600 ∧ I (t + 1) 3 = nI v ∧ g 4 = nI v) ∧ ∀ l, l < 12 → (I (t + 6) l = -1 ∧ g (86 + 42 * l) = 0) ∨ ∃ sz, I (t + 6) l = nI sz ∧ g (86 + 42 * l) = nI sz ∧ hT1 (I (t + 7)) g l sz
/-- the cues -/
def NCu (t : Nat) (I : rI0) (g : Nat → Int32) : Prop := ∃ n, n ≤ 30 ∧ I t 4 = nI n ∧ g 590 = nI n ∧ ∀ i, i < n → I (t + 9) i = g (591 + 3 * i) ∧ I (t + 10) i = g (592 + 3 * i) ∧ I (t + 11) i = g (593 + 3 * i)
theorem nI_m5 : ∀ n, n ≤ 5 → ¬ nI n = -1 := by
  intro n hn
  rcases (show n = 0 ∨ n = 1 ∨ n = 2 ∨ n = 3 ∨ n = 4 ∨ n = 5 by omega) with z | z | z | z | z | z <;> subst z <;> decide
theorem NRw_h {R C : Nat} {I4 I5 I1 : rI0} {J1 : rJ0} {g : Nat → Int32} (h : HRl R C I4 I5) (f0 : ∀ q, q ≤ 4 → I1 4 q = I4 16 q) (fs : ∀ s, s < 64 → (SB (J1 4 5) s ↔ s < R * C ∧ ¬ I4 17 s = -1)) (f7 : ∀ r, r < 8 → I1 7 r = I4 19 r) (f8 : ∀ r, r < 8 → I1 8 r = I4 20 r) (f9 : ∀ l, l < 12 → I1 9 l = I4 21 l) (f10 : ∀ i, i < 240 → I1 10 i = I4 22 i) (fg : ∀ i, i < 590 → g i = I5 46 i) : NRw 3 I1 J1 g := by
  obtain ⟨⟨a1, a2, a3, a4, a5, a6, a7, a8, a9, a10, a11⟩, ⟨-, hp⟩, ⟨m, hm, hm2, hl⟩, ⟨c0, c1, c2, q0, q1, q2, q3, q4, q5, q6, q7, ⟨v, v1, v2, v3, v4⟩, ⟨w, w1, w2, w3⟩⟩, ht⟩ := h
  refine ⟨⟨R, C, a1, a2, (f0 0 (by omega)).trans a5, (fg 0 (by omega)).trans a6, (f0 1 (by omega)).trans a7, (fg 1 (by omega)).trans a8, fun s hs hr z => ?_⟩, fun s hs => ?_, fun r hr => ?_, fun r hr => ?_, ⟨?_, ?_, ⟨v, v1, v2, (f0 2 (by omega)).trans v3, (fg 3 (by omega)).trans v4⟩, ⟨w, w1, (f0 3 (by omega)).trans w2, (fg 4 (by omega)).trans w3⟩⟩, fun l hl => ?_⟩
  · have := ((fs s hs).mp z).1
    omega
  · show SB (J1 4 5) s ↔ _
    rw [fs s hs, fg (6 + s) (by omega)]
    by_cases hr : s < R * C
    · obtain ⟨b1, b2⟩ := a9 s hr
      rw [b2]
      rcases b1 with y | ⟨n, hn, y⟩
      · rw [y]
        exact iff_of_false (fun q => q.2 rfl) (by decide)
      · rw [y]
        refine iff_of_true ⟨hr, nI_m5 n hn⟩ ?_
        rw [← nI_succ, nI_toInt (by omega)]
        omega
    · rw [a10 s (by omega) hs]
      exact iff_of_false (fun q => hr q.1) (by decide)
  · show RB (I1 7 r) 999 ∧ g (70 + r) = I1 7 r
    rw [f7 r hr, fg (70 + r) (by omega)]
    exact hp r hr
  · show (I1 8 r = -1 ∨ RB (I1 8 r) 600) ∧ g (78 + r) = I1 8 r + 1
    rw [f8 r hr, fg (78 + r) (by omega)]
    exact ⟨(hl r hr).1, (hl r hr).2.1⟩
  · show I1 4 4 = 0 ∨ I1 4 4 = 1
    rw [f0 4 (by omega), q5]
    rcases (show c2 = 0 ∨ c2 = 1 by omega) with z | z <;> subst z
    · exact Or.inl rfl
    · exact Or.inr rfl
  · show g 5 = I1 4 4
    rw [fg 5 (by omega), q7, f0 4 (by omega), q5]
  · show (I1 9 l = -1 ∧ g (86 + 42 * l) = 0) ∨ ∃ sz, I1 9 l = nI sz ∧ g (86 + 42 * l) = nI sz ∧ hT1 (I1 10) g l sz
    rw [f9 l hl, fg (86 + 42 * l) (by omega)]
    rcases ht l hl with y | ⟨sz, y1, y2, y3⟩
    · exact Or.inl y
    · exact Or.inr ⟨sz, y1, y2, y3.cg (fun i p1 p2 => f10 i (by omega)) (fun k p1 p2 => fg k (by omega))⟩
theorem NRw.mv {t : Nat} {g g' : Nat → Int32} (h : NRw t I J g) (hi : ∀ b, b = t + 1 ∨ (t + 4 ≤ b ∧ b ≤ t + 8) → I' b = I b) (hj : J' (t + 1) = J (t + 1)) (hg : PK g g') : NRw t I' J' g' := by
  obtain ⟨⟨R, C, a1, a2, a3, a4, a5, a6, a7⟩, b, c, e, ⟨f0, f1, ⟨v, v1, v2, v3, v4⟩, ⟨w, w1, w2, w3⟩⟩, l⟩ := h
  have q : ∀ i, i < 590 ∧ ¬ (6 ≤ i ∧ i < 70) → g' i = g i := fun i hi => hg.1 i hi.1 hi.2
  have h1 : I' (t + 1) = I (t + 1) := hi (t + 1) (by omega)
  refine ⟨⟨R, C, a1, a2, by rw [h1]; exact a3, (q 0 (by omega)).trans a4, by rw [h1]; exact a5, (q 1 (by omega)).trans a6, by rw [hj]; exact a7⟩, fun s hs => ?_, fun r hr => ?_, fun r hr => ?_, ⟨by rw [h1]; exact f0, by rw [h1, q 5 (by omega)]; exact f1, ⟨v, v1, v2, by rw [h1]; exact v3, (q 3 (by omega)).trans v4⟩, ⟨w, w1, by rw [h1]; exact w2, (q 4 (by omega)).trans w3⟩⟩, fun i hl => ?_⟩
  · rw [hj, b s hs]
    exact (hg.2 s hs).symm
  · rw [hi (t + 4) (by omega), q (70 + r) (by omega)]
    exact c r hr
  · rw [hi (t + 5) (by omega), q (78 + r) (by omega)]
    exact e r hr
  · rw [hi (t + 6) (by omega), q (86 + 42 * i) (by omega)]
    rcases l i hl with y | ⟨sz, y1, y2, y3⟩
    · exact Or.inl y
    · exact Or.inr ⟨sz, y1, y2, y3.cg (fun k _ _ => by rw [hi (t + 7) (by omega)]) (fun k p1 p2 => q k (by omega))⟩
theorem NCu.mv {t : Nat} {g g' : Nat → Int32} (h : NCu t I g) (hi : ∀ b, b = t ∨ (t + 9 ≤ b ∧ b ≤ t + 11) → I' b = I b) (q : PQ g g') : NCu t I' g' := by
  obtain ⟨n, n1, n2, n3, n4⟩ := h
  refine ⟨n, n1, by rw [hi t (by omega)]; exact n2, (q 590 (by omega) (by omega)).trans n3, fun i hn => ?_⟩
  rw [hi (t + 9) (by omega), hi (t + 10) (by omega), hi (t + 11) (by omega), q (591 + 3 * i) (by omega) (by omega), q (592 + 3 * i) (by omega) (by omega), q (593 + 3 * i) (by omega) (by omega)]
  exact n4 i hn
theorem NRw.cp {t u : Nat} {g g' : Nat → Int32} (h : NRw t I J g) (z : CPe t u I J I' J') (q : ∀ i, i < 681 → g' i = g i) : NRw u I' J' g' := by
  obtain ⟨⟨R, C, a1, a2, a3, a4, a5, a6, a7⟩, b, c, e, ⟨f0, f1, ⟨v, v1, v2, v3, v4⟩, ⟨w, w1, w2, w3⟩⟩, l⟩ := h
  obtain ⟨z0, zs, -, -, z4, z5, z6, z7, -⟩ := z
  refine ⟨⟨R, C, a1, a2, (z0 0 (by omega)).trans a3, (q 0 (by omega)).trans a4, (z0 1 (by omega)).trans a5, (q 1 (by omega)).trans a6, by rw [zs]; exact a7⟩, fun s hs => ?_, fun r hr => ?_, fun r hr => ?_, ⟨by rw [z0 4 (by omega)]; exact f0, by rw [z0 4 (by omega), q 5 (by omega)]; exact f1, ⟨v, v1, v2, (z0 2 (by omega)).trans v3, (q 3 (by omega)).trans v4⟩, ⟨w, w1, (z0 3 (by omega)).trans w2, (q 4 (by omega)).trans w3⟩⟩, fun i hl => ?_⟩
  · rw [zs, b s hs, q (6 + s) (by omega)]
  · rw [z4 r hr, q (70 + r) (by omega)]
    exact c r hr
  · rw [z5 r hr, q (78 + r) (by omega)]
    exact e r hr
  · rw [z6 i hl, q (86 + 42 * i) (by omega)]
    rcases l i hl with y | ⟨sz, y1, y2, y3⟩
    · exact Or.inl y
    · exact Or.inr ⟨sz, y1, y2, y3.cg (fun k p1 p2 => z7 k (by omega)) (fun k p1 p2 => q k (by omega))⟩
theorem NCu.cp {t u : Nat} {g g' : Nat → Int32} (h : NCu t I g) (z : CPe t u I J I' J') (q : ∀ i, i < 681 → g' i = g i) : NCu u I' g' := by
  obtain ⟨n, n1, n2, n3, n4⟩ := h
  obtain ⟨-, -, -, -, -, -, -, -, -, zc, z9, -⟩ := z
  refine ⟨n, n1, zc.trans n2, (q 590 (by omega)).trans n3, fun i hn => ?_⟩
  obtain ⟨y1, y2, y3⟩ := z9 i (by omega)
  rw [y1, y2, y3, q (591 + 3 * i) (by omega), q (592 + 3 * i) (by omega), q (593 + 3 * i) (by omega)]
  exact n4 i hn
/-- house and cues -/
def NRx (t : Nat) (I : rI0) (J : rJ0) (g : Nat → Int32) : Prop := NRw t I J g ∧ NCu t I g
theorem NRx.mv {t : Nat} {g g' : Nat → Int32} (h : NRx t I J g) (hi : ∀ b, b = t ∨ b = t + 1 ∨ (t + 4 ≤ b ∧ b ≤ t + 11) → I' b = I b) (hj : J' (t + 1) = J (t + 1)) (hg : PK g g') (hq : PQ g g') : NRx t I' J' g' := ⟨h.1.mv (fun b hb => hi b (by omega)) hj hg, h.2.mv (fun b hb => hi b (by omega)) hq⟩
theorem NRx.cp {t u : Nat} {g g' : Nat → Int32} (h : NRx t I J g) (z : CPe t u I J I' J') (q : ∀ i, i < 681 → g' i = g i) : NRx u I' J' g' := ⟨h.1.cp z q, h.2.cp z q⟩
theorem PQ.rf {g : Nat → Int32} : PQ g g := fun _ _ _ => rfl
theorem PQ.tr {g g1 g2 : Nat → Int32} (h : PQ g g1) (h2 : PQ g1 g2) : PQ g g2 := fun i h1 h3 => (h2 i h1 h3).trans (h i h1 h3)
/-! isSeat, exactly -/
theorem nI_ij {a b : Nat} (ha : a < 1000) (hb : b < 1000) (h : nI a = nI b) : a = b := by
  have := congrArg Int32.toInt h
  rw [nI_toInt (by omega), nI_toInt (by omega)] at this
  omega
theorem isSeatE_4 {p : Int32} {Q : Int32 → rI0 → rJ0 → Prop} (k0 : (∀ s, s < 64 → p = nI s → ¬ SB (J 4 5) s) → Q 0 I J) (k1 : ∀ s, s < 64 → p = nI s → SB (J 4 5) s → Q 1 I J) : wcI S d 24 [.ref 4, .int p] x I J Q := by
  refine c24_4 ⟨fun z => k0 (fun s hs e => ?_), fun h0 => ⟨fun h1 => ?_, fun z => k0 (fun s hs e => ?_)⟩⟩
  · rw [e] at z
    exact absurd z (nI_nlt (b := 0) (by omega) (by omega))
  · obtain ⟨s, hs, e⟩ := lt_nat (n := 64) (by omega) h0 h1
    subst e
    rw [wb_cu s hs]
    refine ⟨fun z => k0 (fun t ht e hb => ?_), fun hb => k1 s hs rfl (ts_nf (fun hf => hb (lg_z.mpr ((ts_bit hs (u64n hs)).mpr hf))))⟩
    have e := nI_ij (by omega) (by omega) e
    subst e
    have f := (ts_bit hs (u64n hs)).mp (lg_z.mp z)
    unfold SB at hb
    rw [f] at hb
    cases hb
  · rw [e] at z
    exact absurd (nI_lt (b := 64) hs (by omega)) z
theorem rSeatE {R C : Nat} {p : Int32} {Q : Int32 → rI0 → rJ0 → Prop} (hR : R ≤ 8) (hC : C ≤ 8) (e0 : I 45 0 = nI R) (e1 : I 45 1 = nI C) (k0 : (∀ s, s < R * C → p = nI s → ¬ 0 < (I 45 (6 + s)).toInt) → Q 0 I J) (k1 : ∀ s, s < R * C → p = nI s → 0 < (I 45 (6 + s)).toInt → Q 1 I J) : wcI S (d + 1) 183 [.ref 43, .int p] x I J Q := by
  have hRC : R * C ≤ 64 := Nat.le_trans (Nat.mul_le_mul hR hC) (by omega)
  have l1 : (1 : Int32).toInt = 1 := by decide
  have l0 : (0 : Int32).toInt = 0 := by decide
  have hi : ((I 45 0) * (I 45 1) - (1 : Int32)).toInt = ((R * C : Nat) : Int) - 1 := by
    rw [e0, e1, nI_mu]
    exact i_sub (nI_toInt (by omega)) l1 (by omega)
  refine c183_43 ⟨by decide, by decide, c151 ⟨fun q => ⟨fun _ => k0 (fun s hs e => ?_), fun z => absurd rfl z⟩, fun q0 => ⟨fun q => ⟨fun _ => k0 (fun s hs e => ?_), fun z => absurd rfl z⟩, fun q1 => ⟨fun z => absurd z (by decide), fun _ => ?_⟩⟩⟩⟩
  · rw [e] at q
    exact absurd q (nI_nlt (b := 0) (by omega) (by omega))
  · have q : ((I 45 0) * (I 45 1) - (1 : Int32)).toInt < p.toInt := i_lt q
    rw [hi, e, nI_toInt (by omega)] at q
    omega
  · have q1 : p.toInt ≤ ((I 45 0) * (I 45 1) - (1 : Int32)).toInt := i_nlt q1
    have q0' := i_nlt q0
    obtain ⟨s, hs, e⟩ := lt_nat (p := p) (n := R * C) (by omega) q0 (by rw [Int32.lt_iff_toInt_lt, nI_toInt (by omega)]; omega)
    subst e
    have e6 : (6 : Int32) + nI s = nI (6 + s) := nI_add 6 s
    rw [e6, nI_clamp (by omega)]
    refine ⟨nI_in (by omega) (by omega), fun z => k1 s hs rfl ?_, fun z => k0 (fun u hu e w => ?_)⟩
    · have := i_lt z
      omega
    · have e := nI_ij (by omega) (by omega) e
      subst e
      have := i_nlt z
      omega
/-- both say the same of p -/
theorem NRw.s1 {p : Int32} {s : Nat} {Q : Int32 → rI0 → rJ0 → Prop} (h : NRw 3 I J (I' 45)) (hs : s < 64) (e : p = nI s) (hb : SB (J 4 5) s) (k : 0 < (I' 45 (6 + s)).toInt → Q 1 I' J') : wcI S (d + 1) 183 [.ref 43, .int p] x I' J' Q := by
  obtain ⟨⟨R, C, a1, a2, a3, a4, a5, a6, a7⟩, b, -⟩ := h
  have pos := (b s hs).mp hb
  have hr : s < R * C := by
    rcases Nat.lt_or_ge s (R * C) with y | y
    · exact y
    · exact absurd hb (a7 s hs y)
  exact rSeatE a1 a2 a4 a6 (fun f => absurd pos (f s hr e)) (fun _ _ _ _ => k pos)
theorem NRw.s0 {p : Int32} {Q : Int32 → rI0 → rJ0 → Prop} (h : NRw 3 I J (I' 45)) (f : ∀ s, s < 64 → p = nI s → ¬ SB (J 4 5) s) (k : Q 0 I' J') : wcI S (d + 1) 183 [.ref 43, .int p] x I' J' Q := by
  obtain ⟨⟨R, C, a1, a2, a3, a4, a5, a6, a7⟩, b, -⟩ := h
  have hRC : R * C ≤ 64 := Nat.le_trans (Nat.mul_le_mul a1 a2) (by omega)
  exact rSeatE a1 a2 a4 a6 (fun _ => k) (fun s hs e pos => absurd ((b s (by omega)).mpr pos) (f s (by omega) e))
end PN0
end
section
section PJ0
variable {S S' : Nat × (Nat → Int32)} {d d' : Nat} {x x' : mX} {I I' : rI0} {J J' : rJ0} {b : Nat → Int32} {n lim p R C : Nat}
/-- a run that ends: where -/
theorem ev_of {mj : Nat} {as : List Value} {P : Int32 → rI0 → rJ0 → Prop} (h : wcI S d mj as x I J P) : ∃ v I1 J1, P v I1 J1 ∧ ∀ Q : Int32 → rI0 → rJ0 → Prop, Q v I1 J1 → wcI S d mj as x I J Q := by
  obtain ⟨n, o, w, h1, v, I1, J1, h2, h3, h4⟩ := h
  exact ⟨v, I1, J1, h4, fun Q q => ⟨n, o, w, h1, v, I1, J1, h2, h3, q⟩⟩
def LOut2 (b : Nat → Int32) (n lim p : Nat) (I' : rI0) (v : Int32) (I1 I2 : rI0) (J2 : rJ0) : Prop := (v = 0 ∧ ∃ f, ¬ f = 0 ∧ I1 28 8 = f ∧ I2 43 13 = f ∧ I1 28 4 = I2 43 14) ∨ (v = 1 ∧ I2 43 13 = I' 43 13 ∧ ∃ p1 R C, p + 2 ≤ p1 ∧ p1 ≤ n ∧ Tck b n lim p1 I1 ∧ I1 28 8 = 0 ∧ Nck b n lim p1 I2 J2 ∧ HRl R C I1 I2)
def RefE (S : Nat × (Nat → Int32)) (d : Nat) (x : mX) (b : Nat → Int32) (n lim p : Nat) (I' : rI0) (J' : rJ0) (v : Int32) (I1 : rI0) : Prop := ∃ I2 J2, hrF I' J' I2 J2 ∧ LOut2 b n lim p I' v I1 I2 J2 ∧ ∀ Q' : Int32 → rI0 → rJ0 → Prop, Q' v I2 J2 → wcI S (d + 9) 167 [.ref 43] x I' J' (fun r1 I1 J1 => (r1 = 0 → Q' 0 I1 J1) ∧ (¬ r1 = 0 → wcI S (d + 9) 165 [.ref 43, .int (59 : Int32)] x I1 J1 (fun r2 I2 J2 => (r2 = 0 → Q' 0 I2 J2) ∧ (¬ r2 = 0 → Q' 1 I2 J2))))
theorem semiE {v : Int32} {I1 : rI0} {Q : Int32 → rI0 → rJ0 → Prop} (hf : hcF I I1) (hr : RefL b n lim p I' J' v I1) (k : ∀ v2 I2, hcF I I2 → RefE S' d' x' b n lim p I' J' v2 I2 → Q v2 I2 J) : (v = 0 → Q 0 I1 J) ∧ (¬ v = 0 → wcI S (d + 1) 78 [.ref 28, .int (59 : Int32)] x I1 J (fun r5 I5 J5 => (r5 = 0 → Q 0 I5 J5) ∧ (¬ r5 = 0 → Q 1 I5 J5))) := by
  obtain ⟨v', I2, J2, ⟨rfl, fr, lo⟩, ev⟩ := ev_of (hr S' d' x' (fun v' I2 J2 => v' = v ∧ hrF I' J' I2 J2 ∧ LOut b n lim p I' v I1 I2 J2) (fun I2 J2 h1 h2 => ⟨rfl, h1, h2⟩))
  rcases lo with ⟨v0, f, a1, a2, a3, a4⟩ | ⟨v1, e13, p1, R, C, a1, a2, a3, a4, a5, a6⟩
  · subst v0
    exact ⟨fun _ => k 0 I1 hf ⟨I2, J2, fr, Or.inl ⟨rfl, f, a1, a2, a3, a4⟩, fun Q' q => ev _ ⟨fun _ => q, fun q => absurd rfl q⟩⟩, fun q => absurd rfl q⟩
  · subst v1
    refine ⟨fun q => absurd q (by decide), fun _ => passS a3 a4 (fun z => ⟨fun _ => k 0 _ (hf.tr (hcF.s (by omega))) ⟨bdI I2 1, J2, fr.tr hrF.bd, Or.inl ⟨rfl, 1, by decide, rfl, rfl, ?_⟩, fun Q' q => ev _ ⟨fun q => absurd q (by decide), fun _ => semiR (by decide) a5 (fun _ => ⟨fun _ => q, fun q => absurd rfl q⟩) (fun y => absurd y z)⟩⟩, fun q => absurd rfl q⟩) (fun z I5 o5 _ e85 t5 => ⟨fun q => absurd q (by decide), fun _ => ?_⟩)⟩
    · show I1 28 4 = I2 43 10
      rw [a3.2.2.2.1, a5.2.2.2.1]
    · have sm : wcI S' (d' + 9) 165 [.ref 43, .int (59 : Int32)] x' I2 J2 (fun r I3 J3 => r = 1 ∧ Nf5 I2 J2 I3 J3 ∧ Nck b n lim (uE b n lim p1) I3 J3) := semiR (by decide) a5 (fun y => absurd z y) (fun _ I3 J3 f3 t3 => ⟨rfl, f3, t3⟩)
      obtain ⟨r, I3, J3, ⟨rfl, f3, t3⟩, ev3⟩ := ev_of sm
      have g := uE_le (b := b) (lim := lim) a2
      have g2 := (uE_gt (b := b) (n := n) (lim := lim) (p := p1) (by rw [z]; decide) (by rw [z]; decide)).1
      refine k 1 I5 (hf.tr (hcF.o o5)) ⟨I3, J3, fr.tr (hrF.nx f3), Or.inr ⟨rfl, (f3.2.1 13 (by omega)).trans e13, _, R, C, by omega, g.2, t5, e85, t3, a6.tk o5 (f3.1 46 (by decide)) (fun k q1 q2 => f3.2.1 k (by omega))⟩, fun Q' q => ev _ ⟨fun q => absurd q (by decide), fun _ => ev3 _ ⟨fun q => absurd q (by decide), fun _ => q⟩⟩⟩
theorem lineE {Q : Int32 → rI0 → rJ0 → Prop} (h : HRl R C I I') (t : Tck b n lim p I) (h8 : I 28 8 = 0) (u : Nck b n lim p I' J') (k : ∀ v2 I2, hcF I I2 → RefE S' d' x' b n lim p I' J' v2 I2 → Q v2 I2 J) : wcI S (d + 29) 37 [.ref 29] x I J Q := by
  refine c37_29 (amongS_1 t (fun z => ⟨fun q => absurd q (by decide), fun _ => lnRow h t h8 u z (fun v I1 f1 r1 => semiE f1 r1 k), fun q => absurd q (by decide), fun q => absurd q (by decide), fun q => absurd q (by decide), fun q => absurd q (by decide), fun q => absurd q (by decide), fun q => absurd q (by decide), fun q => absurd q (by decide), trivial⟩) (fun z => ⟨fun q => absurd q (by decide), fun q => absurd q (by decide), fun _ => lnLaw (w := 0) h t h8 u (Or.inl ⟨rfl, z⟩) (fun v I1 f1 r1 => semiE f1 r1 k), fun q => absurd q (by decide), fun q => absurd q (by decide), fun q => absurd q (by decide), fun q => absurd q (by decide), fun q => absurd q (by decide), fun q => absurd q (by decide), trivial⟩) (fun z => ⟨fun q => absurd q (by decide), fun q => absurd q (by decide), fun q => absurd q (by decide), fun _ => lnLaw (w := 1) h t h8 u (Or.inr ⟨rfl, z⟩) (fun v I1 f1 r1 => semiE f1 r1 k), fun q => absurd q (by decide), fun q => absurd q (by decide), fun q => absurd q (by decide), fun q => absurd q (by decide), fun q => absurd q (by decide), trivial⟩) (fun z => ⟨fun q => absurd q (by decide), fun q => absurd q (by decide), fun q => absurd q (by decide), fun q => absurd q (by decide), fun _ => lnPrice h t h8 u z (fun v I1 f1 r1 => semiE f1 r1 k), fun q => absurd q (by decide), fun q => absurd q (by decide), fun q => absurd q (by decide), fun q => absurd q (by decide), trivial⟩) (fun z => ⟨fun q => absurd q (by decide), fun q => absurd q (by decide), fun q => absurd q (by decide), fun q => absurd q (by decide), fun q => absurd q (by decide), fun _ => lnLeaves h t h8 u z (fun v I1 f1 r1 => semiE f1 r1 k), fun q => absurd q (by decide), fun q => absurd q (by decide), fun q => absurd q (by decide), trivial⟩) (fun z => ⟨fun q => absurd q (by decide), fun q => absurd q (by decide), fun q => absurd q (by decide), fun q => absurd q (by decide), fun q => absurd q (by decide), fun q => absurd q (by decide), fun _ => lnCarry h t h8 u z (fun v I1 f1 r1 => semiE f1 r1 k), fun q => absurd q (by decide), fun q => absurd q (by decide), trivial⟩) (fun z => ⟨fun q => absurd q (by decide), fun q => absurd q (by decide), fun q => absurd q (by decide), fun q => absurd q (by decide), fun q => absurd q (by decide), fun q => absurd q (by decide), fun q => absurd q (by decide), fun _ => lnPaid h t h8 u z (fun v I1 f1 r1 => semiE f1 r1 k), fun q => absurd q (by decide), trivial⟩) (fun z => ⟨fun q => absurd q (by decide), fun q => absurd q (by decide), fun q => absurd q (by decide), fun q => absurd q (by decide), fun q => absurd q (by decide), fun q => absurd q (by decide), fun q => absurd q (by decide), fun q => absurd q (by decide), fun _ => lnRows h t h8 u z (fun v I1 f1 r1 => semiE f1 r1 k), trivial⟩) (fun w0 w1 w2 w3 w4 w5 w6 w7 => ⟨fun _ => lnNone t u w0 w1 w2 w3 w4 w5 w6 w7 (fun I1 f1 r1 => semiE f1 r1 k), fun q => absurd q (by decide), fun q => absurd q (by decide), fun q => absurd q (by decide), fun q => absurd q (by decide), fun q => absurd q (by decide), fun q => absurd q (by decide), fun q => absurd q (by decide), fun q => absurd q (by decide), trivial⟩))
/-- the lines: how the reference comes out -/
def hrG (I : rI0) (J : rJ0) (I2 : rI0) (J2 : rJ0) : Prop := (∀ a, ¬ (a = 43 ∨ a = 46 ∨ a = 48 ∨ a = 49) → I2 a = I a) ∧ (∀ k, ¬ (k = 4 ∨ (9 ≤ k ∧ k ≤ 14) ∨ (18 ≤ k ∧ k ≤ 22) ∨ (26 ≤ k ∧ k ≤ 28)) → I2 43 k = I 43 k) ∧ (∀ a, a ≠ 43 → J2 a = J a) ∧ ∀ k, k ≠ 15 → J2 43 k = J 43 k
theorem hrG.rf : hrG I J I J := ⟨fun _ _ => rfl, fun _ _ => rfl, fun _ _ => rfl, fun _ _ => rfl⟩
theorem hrG.tr {I1 I2 : rI0} {J1 J2 : rJ0} (h : hrG I J I1 J1) (h2 : hrG I1 J1 I2 J2) : hrG I J I2 J2 := ⟨fun a ha => (h2.1 a ha).trans (h.1 a ha), fun k hk => (h2.2.1 k hk).trans (h.2.1 k hk), fun a ha => (h2.2.2.1 a ha).trans (h.2.2.1 a ha), fun k hk => (h2.2.2.2 k hk).trans (h.2.2.2 k hk)⟩
theorem hrG.f {I2 : rI0} {J2 : rJ0} (h : hrF I J I2 J2) : hrG I J I2 J2 := ⟨h.1, fun k hk => h.2.1 k (by omega), h.2.2.1, h.2.2.2⟩
theorem hrG.l {v : Int32} : hrG I J (mSet I 43 19 v) J := ⟨fun a ha => mSet_ne (by omega), fun j hj => mSet_x (by omega), fun _ _ => rfl, fun _ _ => rfl⟩
def HLo (S : Nat × (Nat → Int32)) (d : Nat) (x : mX) (I' : rI0) (J' : rJ0) (l : Int32) (I1 : rI0) : Prop := (¬ I1 28 8 = 0 ∧ ∃ I2 J2, hrG I' J' I2 J2 ∧ I2 43 13 = I1 28 8 ∧ I2 43 14 = I1 28 4 ∧ ∀ Q' : Int32 → rI0 → rJ0 → Prop, Q' (-1 - I2 43 14) I2 J2 → wp S (d + 10) 181 45 [some (.ref 43), none] [] (wv x I' J') (rI x Q')) ∨ (I1 28 8 = 0 ∧ ∃ I2 J2 R C, hrG I' J' I2 J2 ∧ HRl R C I1 I2 ∧ I2 43 19 = l ∧ I2 43 13 = I' 43 13 ∧ ∀ Q' : Int32 → rI0 → rJ0 → Prop, wp S (d + 10) 181 90 [some (.ref 43), some (.int (0 : Int32))] [] (wv x I2 J2) (rI x Q') → wp S (d + 10) 181 45 [some (.ref 43), none] [] (wv x I' J') (rI x Q'))
theorem hLp {Q : Int32 → rI0 → rJ0 → Prop} : ∀ (m c p R C : Nat) (I I' : rI0) (J' : rJ0), c + m = 900 → 2 * c ≤ p → HRl R C I I' → Tck b n lim p I → I 28 8 = 0 → Nck b n lim p I' J' → I' 43 19 = nI c → (∀ l I1, hcF I I1 → HLo S' d' x' I' J' l I1 → wp S (d + 30) 101 67 [some (.ref 0), some (.int l)] [] (wv x I1 J) (rI x Q)) → wp S (d + 30) 101 33 [some (.ref 0), some (.int (nI c))] [] (wv x I J) (rI x Q) := by
  intro m
  induction m with
  | zero =>
    intro c p R C I I' J' hc hp h t h8 u e19 k
    have := t.1
    have := t.2.1.1
    omega
  | succ m ih =>
    intro c p R C I I' J' hc hp h t h8 u e19 k
    refine v101_0_33 ⟨fun _ => ⟨fun z => ?_, fun z => ?_⟩, fun q => absurd (nI_lt (b := 900) (by omega) (by omega)) q⟩
    · have z : uK b n lim p = 1 := t.2.2.1.symm.trans z
      exact k _ I hcF.rf (Or.inr ⟨h8, I', J', R, C, hrG.rf, h, e19, rfl, fun Q' q => v181_43_45 ⟨fun _ => q, fun y => absurd (by rw [u.2.2.1, z]; rfl) y⟩⟩)
    · have z : ¬ uK b n lim p = 1 := fun q => z (t.2.2.1.trans q)
      have z0 : ¬ I' 43 9 = 0 := fun q => z (tokOf_1.mp (u.2.2.1.symm.trans q))
      refine lineE (S' := S') (d' := d') (x' := x') h t h8 u (fun v I1 f1 re => ?_)
      obtain ⟨I2, J2, fr, lo, ev⟩ := re
      rcases lo with ⟨v0, f, a1, a2, a3, a4⟩ | ⟨v1, e13, p1, R1, C1, a1, a2, a3, a4, a5, a6⟩
      · subst v0
        refine ⟨fun _ => k _ I1 f1 (Or.inl ⟨by rw [a2]; exact a1, I2, J2, hrG.f fr, by rw [a3, a2], a4.symm, fun Q' q => v181_43_45 ⟨fun y => absurd y z0, fun _ => ?_⟩⟩), fun q => absurd rfl q⟩
        have w := ev (fun v I3 J3 => v = 0 ∧ I3 = I2 ∧ J3 = J2) ⟨rfl, rfl, rfl⟩
        refine wcI_mono w (fun r1 I3 J3 g => ⟨fun y => ?_, fun y => wcI_mono (g.2 y) (fun r2 I4 J4 g2 => ⟨fun y2 => ?_, fun y2 => absurd (g2.2 y2).1 (by decide)⟩)⟩)
        · obtain ⟨-, rfl, rfl⟩ := g.1 y
          exact q
        · obtain ⟨-, rfl, rfl⟩ := g2.1 y2
          exact q
      · subst v1
        refine ⟨fun q => absurd q (by decide), fun _ => ?_⟩
        rw [← nI_succ]
        have e192 : I2 43 19 = nI c := (fr.2.1 19 (by omega)).trans e19
        refine ih (c + 1) p1 R1 C1 I1 (mSet I2 43 19 (nI (c + 1))) J2 (by omega) (by omega) (a6.tk (fun _ _ => rfl) (mSet_ne (by decide)) (fun k q1 q2 => mSet_x (by omega))) a3 a4 (a5.cg (mSet_ne (by decide)) (fun k hk => mSet_x (by omega))) rfl (fun l I3 f3 hl => k l I3 (f1.tr f3) ?_)
        have lift : ∀ Q' : Int32 → rI0 → rJ0 → Prop, wp S' (d' + 10) 181 45 [some (.ref 43), none] [] (wv x' (mSet I2 43 19 (nI (c + 1))) J2) (rI x' Q') → wp S' (d' + 10) 181 45 [some (.ref 43), none] [] (wv x' I' J') (rI x' Q') := by
          intro Q' q
          refine v181_43_45 ⟨fun y => absurd y z0, fun _ => ?_⟩
          have w := ev (fun v I3 J3 => v = 1 ∧ I3 = I2 ∧ J3 = J2) ⟨rfl, rfl, rfl⟩
          refine wcI_mono w (fun r1 I3 J3 g => ⟨fun y => absurd (g.1 y).1 (by decide), fun y => wcI_mono (g.2 y) (fun r2 I4 J4 g2 => ⟨fun y2 => absurd (g2.1 y2).1 (by decide), fun y2 => ?_⟩)⟩)
          obtain ⟨-, rfl, rfl⟩ := g2.2 y2
          rw [e192, ← nI_succ]
          exact q
        rcases hl with ⟨b1, I4, J4, b2, b3, b4, b5⟩ | ⟨b1, I4, J4, R4, C4, b2, b3, b4, b5, b6⟩
        · exact Or.inl ⟨b1, I4, J4, (hrG.f fr).tr (hrG.l.tr b2), b3, b4, fun Q' q => lift Q' (b5 Q' q)⟩
        · exact Or.inr ⟨b1, I4, J4, R4, C4, (hrG.f fr).tr (hrG.l.tr b2), b3, b4, b5.trans ((mSet_x (by omega)).trans e13), fun Q' q => lift Q' (b6 Q' q)⟩
/-- the reference's row, written into s -/
theorem s90 {Q : Int32 → rI0 → rJ0 → Prop} : ∀ (t c : Nat) (I : rI0), c + t = 681 → (∀ I', (∀ a, a ≠ 45 → I' a = I a) → (∀ i, i < c → I' 45 i = I 45 i) → (∀ i, c ≤ i → i < 681 → I' 45 i = if i < 590 then I 46 i else 0) → Q (I 43 19) (mSet I' 43 30 1) (mSet (mSet J 43 16 0) 43 17 0)) → wp S (d + 1) 181 90 [some (.ref 43), some (.int (nI c))] [] (wv x I J) (rI x Q) := by
  intro t
  induction t with
  | zero =>
    intro c I hc k
    have hc : c = 681 := by omega
    subst hc
    exact v181_43_90 ⟨fun q => absurd q (by decide), fun _ => k I (fun _ _ => rfl) (fun _ _ => rfl) (fun i q1 q2 => absurd q1 (by omega))⟩
  | succ t ih =>
    intro c I hc k
    have hin : ¬ mOut (nI c) 681 := nI_in (by omega) (by omega)
    have st : ∀ v, v = (if c < 590 then I 46 c else 0) → wp S (d + 1) 181 90 [some (.ref 43), some (.int (nI c + 1))] [] (wv x (mSet I 45 c v) J) (rI x Q) := by
      intro v hv
      rw [← nI_succ]
      refine ih (c + 1) _ (by omega) (fun I' o f g => ?_)
      have w := k I' (fun a ha => by rw [o a ha, mSet_ne ha]) (fun i hi => by rw [f i (by omega), mSet_x (by omega)]) (fun i q1 q2 => by
        rcases (show i = c ∨ c + 1 ≤ i by omega) with q | q
        · rw [q, f c (by omega), ← hv]
          unfold mSet va_up
          rw [if_pos rfl, if_pos rfl]
        · rw [g i q q2, mSet_ne (by decide)])
      rw [mSet_ne (show 43 ≠ 45 by decide)]
      exact w
    refine v181_43_90 ⟨fun _ => ⟨fun z => ?_, fun z => ?_⟩, fun q => absurd (nI_lt (b := 681) (by omega) (by omega)) q⟩
    · have z : c < 590 := by
        rcases Nat.lt_or_ge c 590 with w | w
        · exact w
        · exact absurd z (nI_nlt (b := 590) w (by omega))
      refine ⟨nI_in (by omega) (by omega), hin, ?_⟩
      rw [nI_clamp (by omega)]
      exact st _ (by rw [if_pos z])
    · have z : ¬ c < 590 := fun w => z (nI_lt (b := 590) w (by omega))
      refine ⟨hin, ?_⟩
      rw [nI_clamp (by omega)]
      exact st _ (by rw [if_neg z])
theorem clearE {Q : rI0 → rJ0 → Prop} (k : ∀ I' J', (∀ b, ¬ (b = 16 ∨ b = 19 ∨ b = 20 ∨ b = 21) → I' b = I b) → (∀ b, b ≠ 16 → b ≠ 18 → J' b = J b) → I' 16 0 = 0 → I' 16 1 = 0 → I' 16 2 = 1 → I' 16 3 = 600 → I' 16 4 = 0 → J' 16 5 = 0 → (∀ j, j < 6 → J' 18 j = 0) → (∀ r, r < 8 → I' 19 r = 10) → (∀ r, r < 8 → I' 20 r = -1) → (∀ l, l < 12 → I' 21 l = -1) → Q I' J') : wcV S (d + 1) 21 [.ref 16] x I J Q := by
  refine c21_16 (fillJ_v rfl (by decide) (fillI_v rfl (by decide) (fillI_v rfl (by decide) (fillI_v rfl (by decide) ?_))))
  refine k _ _ (fun b hb => ?_) (fun b h1 h2 => ?_) rfl rfl rfl rfl rfl rfl (fun j hj => ?_) (fun r hr => ?_) (fun r hr => ?_) (fun l hl => ?_)
  · rw [vu_ne (by omega), vu_ne (by omega), vu_ne (by omega), mSet_ne (by omega), mSet_ne (by omega), mSet_ne (by omega), mSet_ne (by omega), mSet_ne (by omega)]
  · rw [vu_ne h2, mSet_ne h1]
  · unfold va_up
    rw [if_pos rfl, if_pos hj]
  · rw [vu_ne (by decide), vu_ne (by decide)]
    unfold va_up
    rw [if_pos rfl, if_pos hr]
  · rw [vu_ne (by decide)]
    unfold va_up
    rw [if_pos rfl, if_pos hr]
  · unfold va_up
    rw [if_pos rfl, if_pos hl]
theorem HRl_0 {g : Nat → Int32} (c0 : I 16 0 = 0) (c1 : I 16 1 = 0) (c2 : I 16 2 = 1) (c3 : I 16 3 = 600) (c4 : I 16 4 = 0) (r19 : ∀ r, r < 8 → I 19 r = 10) (r20 : ∀ r, r < 8 → I 20 r = -1) (r21 : ∀ l, l < 12 → I 21 l = -1) (m3 : I 29 3 = 0) (m4 : I 29 4 = 0) (m5 : I 29 5 = 0) (e46 : I' 46 = plainR g) (e20 : I' 43 20 = 0) (e21 : I' 43 21 = 0) (e22 : I' 43 22 = 0) : HRl 0 0 I I' := by
  have pl : ∀ i, i < 590 → ¬ (i = 3 ∨ i = 4 ∨ (70 ≤ i ∧ i < 78)) → I' 46 i = 0 := by
    intro i hi hn
    rw [e46]
    unfold plainR
    rw [if_pos hi, if_neg (by omega), if_neg (by omega), if_neg (by omega)]
  have p3 : I' 46 3 = 1 := by rw [e46]; rfl
  have p4 : I' 46 4 = 600 := by rw [e46]; rfl
  have p70 : ∀ r, r < 8 → I' 46 (70 + r) = 10 := by
    intro r hr
    rw [e46]
    rcases (show r = 0 ∨ r = 1 ∨ r = 2 ∨ r = 3 ∨ r = 4 ∨ r = 5 ∨ r = 6 ∨ r = 7 by omega) with z | z | z | z | z | z | z | z <;> subst z <;> rfl
  refine ⟨⟨by omega, by omega, fun _ => rfl, fun q => absurd rfl q, c0, pl 0 (by omega) (by omega), c1, pl 1 (by omega) (by omega), fun s hs => absurd hs (by omega), fun s _ hs => pl (6 + s) (by omega) (by omega), pl 2 (by omega) (by omega)⟩, ⟨⟨0, by omega, m3, e20⟩, fun r hr => ?_⟩, ⟨0, by omega, e21, fun r hr => ?_⟩, ⟨0, 0, 0, by omega, by omega, by omega, m4, m5, c4, e22, pl 5 (by omega) (by omega), ⟨1, by omega, by omega, c2, p3⟩, ⟨600, by omega, c3, p4⟩⟩, fun l hl => Or.inl ⟨r21 l hl, pl (86 + 42 * l) (by omega) (by omega)⟩⟩
  · rw [r19 r hr, p70 r hr]
    exact ⟨⟨10, by omega, rfl⟩, rfl⟩
  · rw [r20 r hr, pl (78 + r) (by omega) (by omega)]
    exact ⟨Or.inl rfl, by decide, iff_of_false (by rw [Nat.zero_testBit]; decide) (fun q => q rfl)⟩
/-- house(): both answer alike -/
def HOut (S : Nat × (Nat → Int32)) (d : Nat) (x : mX) (I : rI0) (J : rJ0) (I' : rI0) (J' : rJ0) (v : Int32) (I1 : rI0) (J1 : rJ0) : Prop := ∃ I2 J2, I1 0 9 = I2 43 13 ∧ ((¬ I1 0 9 = 0 ∧ (∀ b, 3 ≤ b → b ≤ 14 → I1 b = I b ∧ J1 b = J b) ∧ I2 45 = I' 45) ∨ (I1 0 9 = 0 ∧ NRw 3 I1 J1 (I2 45) ∧ NCu 3 I1 (I2 45))) ∧ ∀ Q' : Int32 → rI0 → rJ0 → Prop, Q' v I2 J2 → wcI S (d + 10) 181 [.ref 43] x I' J' Q'
theorem houseE {Q : Int32 → rI0 → rJ0 → Prop} (hn : n ≤ 940) (e1 : I 1 1 = nI n) (e2 : I' 43 2 = nI n) (hb : ∀ i, i < 940 → I' 44 i &&& 255 = I 2 i) (k : ∀ v I1 J1, HOut S' d' x' I J I' J' v I1 J1 → Q v I1 J1) : wcI S (d + 30) 101 [.ref 0] x I J Q := by
  refine c101_0 (c14_15 (clearE (fun I1 J1 i1 j1 z0 z1 z2 z3 z4 z5 z18 z19 z20 z21 => c67_1 ?_)))
  have ea : (mSet I1 15 4 0) 1 1 = nI n := by
    show I1 1 1 = _
    rw [i1 1 (by omega)]
    exact e1
  rw [ea]
  refine openS (lim := 900) hn rfl (by omega) (fun I2 o2 _ e8 t2 => c36_29 ?_)
  have e22 : (mSet (mSet I1 15 4 0) 1 1 0) 2 = I 2 := by rw [mSet_ne (by decide), mSet_ne (by decide)]; exact i1 2 (by omega)
  rw [e22] at t2
  have cI : ∀ a, ¬ (a = 15 ∨ a = 1 ∨ a = 28) → I2 a = I1 a := fun a ha => by rw [o2 a (by omega), mSet_ne (by omega), mSet_ne (by omega)]
  -- the reference's start, up to its first token
  have st : ∃ I3 J3, (∀ k, k = 13 ∨ k = 19 ∨ (20 ≤ k ∧ k ≤ 22) → I3 43 k = 0) ∧ Nck (I 2) n 900 0 I3 J3 ∧ (∃ g, I3 46 = plainR g) ∧ I3 45 = I' 45 ∧ ∀ Q' : Int32 → rI0 → rJ0 → Prop, wp S' (d' + 10) 181 45 [some (.ref 43), none] [] (wv x' I3 J3) (rI x' Q') → wcI S' (d' + 10) 181 [.ref 43] x' I' J' Q' := by
    have key : wcV S' (d' + 9) 161 [.ref 43] x' (va_up (mSet (mSet (mSet (mSet (mSet (mSet (mSet (mSet (mSet (mSet I' 43 0 0) 43 3 (nI n)) 43 2 0) 43 4 0) 43 5 900) 43 13 0) 43 19 0) 43 20 0) 43 21 0) 43 22 0) 46 (plainR ((mSet (mSet (mSet (mSet (mSet (mSet (mSet (mSet (mSet (mSet I' 43 0 0) 43 3 (nI n)) 43 2 0) 43 4 0) 43 5 900) 43 13 0) 43 19 0) 43 20 0) 43 21 0) 43 22 0) 46))) J' (fun I3 J3 => Nf5 (va_up (mSet (mSet (mSet (mSet (mSet (mSet (mSet (mSet (mSet (mSet I' 43 0 0) 43 3 (nI n)) 43 2 0) 43 4 0) 43 5 900) 43 13 0) 43 19 0) 43 20 0) 43 21 0) 43 22 0) 46 (plainR ((mSet (mSet (mSet (mSet (mSet (mSet (mSet (mSet (mSet (mSet I' 43 0 0) 43 3 (nI n)) 43 2 0) 43 4 0) 43 5 900) 43 13 0) 43 19 0) 43 20 0) 43 21 0) 43 22 0) 46))) J' I3 J3 ∧ Nck (I 2) n 900 0 I3 J3) := by
      refine nextS (b := I 2) (n := n) (lim := 900) (p := 0) ⟨hn, by omega, by omega, fun i hi => ?_, ?_, ?_, ?_⟩ (fun I3 J3 f3 t3 => ⟨f3, t3⟩)
      · rw [vu_ne (by decide), mSet_ne (by decide), mSet_ne (by decide), mSet_ne (by decide), mSet_ne (by decide), mSet_ne (by decide), mSet_ne (by decide), mSet_ne (by decide), mSet_ne (by decide), mSet_ne (by decide), mSet_ne (by decide)]
        exact hb i hi
      · rw [vu_ne (by decide)]; rfl
      · rw [vu_ne (by decide)]; rfl
      · rw [vu_ne (by decide)]; rfl
    obtain ⟨nn, oo, ww, x1, I3, J3, x2, x3, f3, t3⟩ := key
    refine ⟨I3, J3, fun k hk => ?_, t3, ⟨_, (f3.1 46 (by decide)).trans (if_pos rfl)⟩, by rw [f3.1 45 (by decide), vu_ne (by decide), mSet_ne (by decide), mSet_ne (by decide), mSet_ne (by decide), mSet_ne (by decide), mSet_ne (by decide), mSet_ne (by decide), mSet_ne (by decide), mSet_ne (by decide), mSet_ne (by decide), mSet_ne (by decide)], fun Q' q => c181_43 (c150_43 (mPlain ?_))⟩
    · rw [f3.2.1 k (by omega), vu_ne (by decide)]
      rcases hk with z | z | z
      · subst z; rfl
      · subst z; rfl
      · rcases (show k = 20 ∨ k = 21 ∨ k = 22 by omega) with z | z | z <;> subst z <;> rfl
    · have e2' : (mSet I' 43 0 0) 43 2 = nI n := e2
      rw [e2']
      exact ⟨nn, oo, ww, x1, I3, J3, x2, x3, q⟩
  obtain ⟨I3, J3, y43, t3, ⟨g, y46⟩, y45, ev⟩ := st
  have h0 : HRl 0 0 (mSet (mSet (mSet I2 29 3 0) 29 4 0) 29 5 0) I3 := by
    refine HRl_0 (g := g) ?_ ?_ ?_ ?_ ?_ (fun r hr => ?_) (fun r hr => ?_) (fun l hl => ?_) rfl rfl rfl y46 (y43 20 (by omega)) (y43 21 (by omega)) (y43 22 (by omega))
    · rw [mSet_ne (by decide), mSet_ne (by decide), mSet_ne (by decide), cI 16 (by omega)]; exact z0
    · rw [mSet_ne (by decide), mSet_ne (by decide), mSet_ne (by decide), cI 16 (by omega)]; exact z1
    · rw [mSet_ne (by decide), mSet_ne (by decide), mSet_ne (by decide), cI 16 (by omega)]; exact z2
    · rw [mSet_ne (by decide), mSet_ne (by decide), mSet_ne (by decide), cI 16 (by omega)]; exact z3
    · rw [mSet_ne (by decide), mSet_ne (by decide), mSet_ne (by decide), cI 16 (by omega)]; exact z4
    · rw [mSet_ne (by decide), mSet_ne (by decide), mSet_ne (by decide), cI 19 (by omega)]; exact z19 r hr
    · rw [mSet_ne (by decide), mSet_ne (by decide), mSet_ne (by decide), cI 20 (by omega)]; exact z20 r hr
    · rw [mSet_ne (by decide), mSet_ne (by decide), mSet_ne (by decide), cI 21 (by omega)]; exact z21 l hl
  refine hLp (S' := S') (d' := d') (x' := x') 900 0 0 0 0 _ I3 J3 (by omega) (by omega) h0 (t2.s29.s29.s29) (by rw [mSet_ne (by decide), mSet_ne (by decide), mSet_ne (by decide)]; exact e8) t3 (y43 19 (by omega)) (fun l I4 f4 hl => ?_)
  rcases hl with ⟨b1, I5, J5, b2, b3, b4, b5⟩ | ⟨b1, I5, J5, R5, C5, b2, b3, b4, b5, b6⟩
  · refine v101_0_67 ⟨fun q => absurd q b1, fun _ => k _ _ _ ⟨I5, J5, b3.symm, Or.inl ⟨b1, fun a h3 h14 => ⟨?_, ?_⟩, (b2.1 45 (by omega)).trans y45⟩, fun Q' q => ev _ (b5 _ ?_)⟩⟩
    · rw [mSet_ne (by omega), f4 a (by omega), mSet_ne (by omega), mSet_ne (by omega), mSet_ne (by omega), cI a (by omega)]
      exact i1 a (by omega)
    · rw [mSet_ne (by omega), mSet_ne (by omega)]
      exact j1 a (by omega) (by omega)
    · rw [b4]
      exact q
  · have ha := b3.1
    have h44 : I4 16 4 = 0 ∨ I4 16 4 = 1 := by
      obtain ⟨c0, c1, c2, q0, q1, q2, q3, q4, q5, -⟩ := b3.2.2.2.1
      rw [q5]
      rcases (show c2 = 0 ∨ c2 = 1 by omega) with z | z <;> subst z
      · exact Or.inl rfl
      · exact Or.inr rfl
    -- the reference's end
    have fin : ∃ I6 J6, I6 43 13 = 0 ∧ (∀ i, i < 681 → I6 45 i = if i < 590 then I5 46 i else 0) ∧ ∀ Q' : Int32 → rI0 → rJ0 → Prop, Q' l I6 J6 → wcI S' (d' + 10) 181 [.ref 43] x' I' J' Q' := by
      have w : wp S' (d' + 10) 181 90 [some (.ref 43), some (.int (nI 0))] [] (wv x' I5 J5) (rI x' (fun v I6 J6 => v = l ∧ I6 43 13 = 0 ∧ ∀ i, i < 681 → I6 45 i = if i < 590 then I5 46 i else 0)) := s90 681 0 I5 rfl (fun I6 o6 _ g6 => ⟨b4, by rw [mSet_x (by omega), o6 43 (by decide), b5]; exact y43 13 (by omega), fun i hi => by rw [mSet_ne (by decide)]; exact g6 i (by omega) hi⟩)
      obtain ⟨nn, oo, ww, x1, v, I6, J6, x2, x3, rfl, x5, x6⟩ := w
      exact ⟨I6, J6, x5, x6, fun Q' q => ev _ (b6 _ ⟨nn, oo, ww, x1, v, I6, J6, x2, x3, q⟩)⟩
    obtain ⟨I6, J6, e6, g6, ev6⟩ := fin
    refine v101_0_67 ⟨fun _ => surveyE (I := mSet I4 0 9 (I4 28 8)) ha.1 ha.2.1 ha.2.2.2.2.1 ha.2.2.2.2.2.2.1 (fun J7 o7 q7 s7 => c15_3_15 (takeHouseE (I := mSet I4 0 9 (I4 28 8)) h44 (fun I8 J8 i8 j8 t0 t5 tk tq t7 t8 t9 t10 t11 => takeCuesE (fun I9 i9 e9 c9 => c6_31 (k _ _ _ ⟨I6, J6, ?_, Or.inr ⟨?_, ?_, ?_⟩, ev6⟩))))), fun q => absurd b1 q⟩
    · rw [mSet_ne (by decide), i9 0 (by decide) (by decide) (by decide) (by decide), i8 0 (by omega), e6]
      exact b1
    · rw [mSet_ne (by decide), i9 0 (by decide) (by decide) (by decide) (by decide), i8 0 (by omega)]
      exact b1
    · have r9 : ∀ a, 4 ≤ a → a ≤ 11 → (mSet I9 31 6 0) a = I8 a := fun a h1 h2 => by rw [mSet_ne (by omega)]; exact i9 a (by omega) (by omega) (by omega) (by omega)
      refine NRw_h b3 (fun q hq => ?_) (fun s hs => ?_) (fun r hr => ?_) (fun r hr => ?_) (fun l hl => ?_) (fun i hi => ?_) (fun i hi => ?_)
      · rw [r9 4 (by omega) (by omega), t0 q hq, mSet_ne (by decide)]
      · show SB (J8 4 5) s ↔ _
        rw [t5]
        exact s7 s hs
      · rw [r9 7 (by omega) (by omega), t7 r hr, mSet_ne (by decide)]
      · rw [r9 8 (by omega) (by omega), t8 r hr, mSet_ne (by decide)]
      · rw [r9 9 (by omega) (by omega), t9 l hl, mSet_ne (by decide)]
      · rw [r9 10 (by omega) (by omega), t10 i hi, mSet_ne (by decide)]
      · rw [g6 i (by omega), if_pos hi]
    · refine ⟨0, by omega, ?_, ?_, fun i hi => absurd hi (by omega)⟩
      · show I9 3 4 = nI 0
        rw [e9, i8 15 (by omega), mSet_ne (by decide), f4 15 (by omega), mSet_ne (by decide), mSet_ne (by decide), mSet_ne (by decide), o2 15 (by decide)]
        rfl
      · rw [g6 590 (by omega), if_neg (by omega)]
        rfl
end PJ0
end
section
section AN0
variable {S : Nat × (Nat → Int32)} {d : Nat} {x : mX} {I I' : rI0} {J J' : rJ0} {A p q : Int32}
theorem lawC (h1 : 0 ≤ p.toInt ∧ p.toInt < 6 ∧ 0 ≤ q.toInt ∧ q.toInt ≤ 1 → A = I 9 ((2 : Int32) * p + q).toNatClampNeg) (h0 : ¬ (0 ≤ p.toInt ∧ p.toInt < 6 ∧ 0 ≤ q.toInt ∧ q.toInt ≤ 1) → A = -1) : wcI S d 104 [.ref 0, .int p, .int q] x I J (fun v _ _ => v = A) := by
  have l0 : (0 : Int32).toInt = 0 := by decide
  have l1 : (1 : Int32).toInt = 1 := by decide
  have l2 : (2 : Int32).toInt = 2 := by decide
  have l6 : (6 : Int32).toInt = 6 := by decide
  refine c104_0 ⟨fun z => (h0 (fun c => by have := i_lt z; omega)).symm, fun z0 => ⟨fun z1 => ⟨fun y => (h0 (fun c => by have := i_lt y; omega)).symm, fun y0 => ⟨fun y => (h0 (fun c => by have := i_lt y; omega)).symm, fun y1 => ?_⟩⟩, fun z => (h0 (fun c => by have := i_nlt z; omega)).symm⟩⟩
  have z0 := i_nlt z0
  have z1 := i_lt z1
  have y0 := i_nlt y0
  have y1 := i_nlt y1
  have m := i_mul (a := 2) (b := p) l2 rfl (by omega)
  have s := i_add (b := q) m rfl (by omega)
  exact ⟨i_in s (by omega), (h1 ⟨by omega, by omega, by omega, by omega⟩).symm⟩
theorem lawR (h : NRw 3 I J (I' 45)) (h1 : 0 ≤ p.toInt ∧ p.toInt < 6 ∧ 0 ≤ q.toInt ∧ q.toInt ≤ 1 → A = I 9 ((2 : Int32) * p + q).toNatClampNeg) (h0 : ¬ (0 ≤ p.toInt ∧ p.toInt < 6 ∧ 0 ≤ q.toInt ∧ q.toInt ≤ 1) → A = -1) : wcI S (d + 1) 189 [.ref 43, .int p, .int q] x I' J' (fun v _ _ => v = A) := by
  have l0 : (0 : Int32).toInt = 0 := by decide
  have l1 : (1 : Int32).toInt = 1 := by decide
  have l2 : (2 : Int32).toInt = 2 := by decide
  have l5 : (5 : Int32).toInt = 5 := by decide
  have l42 : (42 : Int32).toInt = 42 := by decide
  have l86 : (86 : Int32).toInt = 86 := by decide
  refine c189_43 (c151 ⟨fun z => ⟨fun _ => (h0 (fun c => by have := i_lt z; omega)).symm, fun z => absurd rfl z⟩, fun z0 => ⟨fun z => ⟨fun _ => (h0 (fun c => by have := i_lt z; omega)).symm, fun z => absurd rfl z⟩, fun z1 => ⟨fun z => absurd z (by decide), fun _ => c151 ⟨fun z => ⟨fun _ => (h0 (fun c => by have := i_lt z; omega)).symm, fun z => absurd rfl z⟩, fun y0 => ⟨fun z => ⟨fun _ => (h0 (fun c => by have := i_lt z; omega)).symm, fun z => absurd rfl z⟩, fun y1 => ⟨fun z => absurd z (by decide), fun _ => ?_⟩⟩⟩⟩⟩⟩)
  have z0 := i_nlt z0
  have z1 := i_nlt z1
  have y0 := i_nlt y0
  have y1 := i_nlt y1
  have m := i_mul (a := 2) (b := p) l2 rfl (by omega)
  have s := i_add (b := q) m rfl (by omega)
  have m2 := i_mul (a := 42) l42 s (by omega)
  have s2 := i_add (a := 86) l86 m2 (by omega)
  have c1 := i_cl ((2 : Int32) * p + q) (by omega)
  have c2 := i_cl ((86 : Int32) + (42 : Int32) * ((2 : Int32) * p + q)) (by omega)
  have a := h1 ⟨by omega, by omega, by omega, by omega⟩
  generalize ((2 : Int32) * p + q).toNatClampNeg = l at a c1
  have ix : ((86 : Int32) + (42 : Int32) * ((2 : Int32) * p + q)).toNatClampNeg = 86 + 42 * l := by omega
  refine ⟨i_in s2 (by omega), ?_⟩
  rw [ix, mSet_ne (by decide)]
  rcases h.2.2.2.2.2 l (by omega) with ⟨b1, b2⟩ | ⟨sz, b1, b2, b3⟩
  · refine ⟨fun _ => ?_, fun z => absurd b2 z⟩
    rw [a]
    exact b1.symm
  · refine ⟨fun z => ?_, fun _ => ?_⟩
    · have e : nI sz = nI 0 := b2.symm.trans z
      have := nI_ij (by have := b3.2.1; omega) (by omega) e
      have := b3.1
      omega
    · rw [a, b2]
      exact b1.symm
def StK (J : rJ0) (p : Int32) : Prop := ∃ s, s < 64 ∧ p = nI s ∧ SB (J 4 5) s
theorem payC (h1 : StK J p ∧ 0 ≤ q.toInt ∧ q.toInt ≤ 1 → A = 1) (h0 : ¬ (StK J p ∧ 0 ≤ q.toInt ∧ q.toInt ≤ 1) → A = 0) : wcI S (d + 1) 105 [.ref 0, .int p, .int q] x I J (fun v _ _ => v = A) := by
  have l0 : (0 : Int32).toInt = 0 := by decide
  have l1 : (1 : Int32).toInt = 1 := by decide
  refine c105_0 (isSeatE_4 (fun f => ⟨fun _ => (h0 (fun c => ?_)).symm, fun z => absurd rfl z⟩) (fun s hs e hb => ⟨fun z => absurd z (by decide), fun _ => ⟨fun q0 => (h0 (fun c => by have := i_lt q0; omega)).symm, fun q0 => ⟨fun q1 => (h0 (fun c => by have := i_lt q1; omega)).symm, fun q1 => wbA (fun v => c6_31 (h1 ⟨⟨s, hs, e, hb⟩, by have := i_nlt q0; omega, by have := i_nlt q1; omega⟩).symm)⟩⟩⟩))
  obtain ⟨⟨s, hs, e, hb⟩, -⟩ := c
  exact f s hs e hb
theorem payR (h : NRw 3 I J (I' 45)) (h1 : StK J p ∧ 0 ≤ q.toInt ∧ q.toInt ≤ 1 → A = 1) (h0 : ¬ (StK J p ∧ 0 ≤ q.toInt ∧ q.toInt ≤ 1) → A = 0) : wcI S (d + 2) 190 [.ref 43, .int p, .int q] x I' J' (fun v _ _ => v = A) := by
  have l0 : (0 : Int32).toInt = 0 := by decide
  have l1 : (1 : Int32).toInt = 1 := by decide
  have h' : NRw 3 I J ((mSet I' 43 0 0) 45) := h
  by_cases c : StK J p
  · have c' := c
    obtain ⟨s, hs, e, hb⟩ := c
    exact c190_43 (h'.s1 hs e hb (fun _ => ⟨fun z => absurd z (by decide), fun _ => c151 ⟨fun z => ⟨fun _ => (h0 (fun c => by have := i_lt z; omega)).symm, fun z => absurd rfl z⟩, fun z0 => ⟨fun z => ⟨fun _ => (h0 (fun c => by have := i_lt z; omega)).symm, fun z => absurd rfl z⟩, fun z1 => ⟨fun z => absurd z (by decide), fun _ => ⟨fun _ => (h1 ⟨c', by have := i_nlt z0; omega, by have := i_nlt z1; omega⟩).symm, fun _ => (h1 ⟨c', by have := i_nlt z0; omega, by have := i_nlt z1; omega⟩).symm⟩⟩⟩⟩⟩))
  · exact c190_43 (h'.s0 (fun t ht e2 hb2 => c ⟨t, ht, e2, hb2⟩) ⟨fun _ => (h0 (fun z => c z.1)).symm, fun z => absurd rfl z⟩)
theorem hissC (h1 : StK J p ∧ 0 ≤ q.toInt ∧ q.toInt ≤ 1 → A = 1) (h0 : ¬ (StK J p ∧ 0 ≤ q.toInt ∧ q.toInt ≤ 1) → A = 0) : wcI S (d + 1) 106 [.ref 0, .int p, .int q] x I J (fun v _ _ => v = A) := by
  have l0 : (0 : Int32).toInt = 0 := by decide
  have l1 : (1 : Int32).toInt = 1 := by decide
  refine c106_0 (isSeatE_4 (fun f => ⟨fun _ => (h0 (fun c => ?_)).symm, fun z => absurd rfl z⟩) (fun s hs e hb => ⟨fun z => absurd z (by decide), fun _ => ⟨fun q0 => (h0 (fun c => by have := i_lt q0; omega)).symm, fun q0 => ⟨fun q1 => (h0 (fun c => by have := i_lt q1; omega)).symm, fun q1 => wbA (fun v => c6_31 (h1 ⟨⟨s, hs, e, hb⟩, by have := i_nlt q0; omega, by have := i_nlt q1; omega⟩).symm)⟩⟩⟩))
  obtain ⟨⟨s, hs, e, hb⟩, -⟩ := c
  exact f s hs e hb
theorem hissR (h : NRw 3 I J (I' 45)) (h1 : StK J p ∧ 0 ≤ q.toInt ∧ q.toInt ≤ 1 → A = 1) (h0 : ¬ (StK J p ∧ 0 ≤ q.toInt ∧ q.toInt ≤ 1) → A = 0) : wcI S (d + 2) 191 [.ref 43, .int p, .int q] x I' J' (fun v _ _ => v = A) := by
  have l0 : (0 : Int32).toInt = 0 := by decide
  have l1 : (1 : Int32).toInt = 1 := by decide
  have h' : NRw 3 I J ((mSet I' 43 0 0) 45) := h
  by_cases c : StK J p
  · have c' := c
    obtain ⟨s, hs, e, hb⟩ := c
    exact c191_43 (h'.s1 hs e hb (fun _ => ⟨fun z => absurd z (by decide), fun _ => c151 ⟨fun z => ⟨fun _ => (h0 (fun c => by have := i_lt z; omega)).symm, fun z => absurd rfl z⟩, fun z0 => ⟨fun z => ⟨fun _ => (h0 (fun c => by have := i_lt z; omega)).symm, fun z => absurd rfl z⟩, fun z1 => ⟨fun z => absurd z (by decide), fun _ => ⟨fun _ => (h1 ⟨c', by have := i_nlt z0; omega, by have := i_nlt z1; omega⟩).symm, fun _ => (h1 ⟨c', by have := i_nlt z0; omega, by have := i_nlt z1; omega⟩).symm⟩⟩⟩⟩⟩))
  · exact c191_43 (h'.s0 (fun t ht e2 hb2 => c ⟨t, ht, e2, hb2⟩) ⟨fun _ => (h0 (fun z => c z.1)).symm, fun z => absurd rfl z⟩)
theorem exgC (h1 : StK J p ∧ StK J q ∧ ¬ p = q → A = 1) (h0 : ¬ (StK J p ∧ StK J q ∧ ¬ p = q) → A = 0) : wcI S (d + 3) 131 [.ref 0, .int p, .int q] x I J (fun v _ _ => v = A) := by
  refine c131_0 (isSeatE_4 (fun f => ⟨fun _ => (h0 (fun c => ?_)).symm, fun z => absurd rfl z⟩) (fun s hs e hb => ⟨fun z => absurd z (by decide), fun _ => isSeatE_4 (fun f => ⟨fun _ => (h0 (fun c => ?_)).symm, fun z => absurd rfl z⟩) (fun t ht e2 hb2 => ⟨fun z => absurd z (by decide), fun _ => ⟨fun z => (h0 (fun c => c.2.2 z)).symm, fun z => exchangeA hs ht e e2 (fun J' o => c6_31 (h1 ⟨⟨s, hs, e, hb⟩, ⟨t, ht, e2, hb2⟩, z⟩).symm)⟩⟩)⟩))
  · obtain ⟨⟨s, hs, e, hb⟩, -⟩ := c
    exact f s hs e hb
  · obtain ⟨-, ⟨s, hs, e, hb⟩, -⟩ := c
    exact f s hs e hb
theorem exgR (h : NRw 3 I J (I' 45)) (h1 : StK J p ∧ StK J q ∧ ¬ p = q → A = 1) (h0 : ¬ (StK J p ∧ StK J q ∧ ¬ p = q) → A = 0) : wcI S (d + 2) 235 [.ref 43, .int p, .int q] x I' J' (fun v _ _ => v = A) := by
  have h' : NRw 3 I J ((mSet I' 43 0 0) 45) := h
  by_cases c : StK J p
  · obtain ⟨s, hs, e, hb⟩ := c
    refine c235_43 (h'.s1 hs e hb (fun _ => ⟨fun z => absurd z (by decide), fun _ => ?_⟩))
    by_cases c2 : StK J q
    · obtain ⟨t, ht, e2, hb2⟩ := c2
      refine h'.s1 ht e2 hb2 (fun _ => ⟨fun z => absurd z (by decide), fun _ => ⟨fun z => (h0 (fun c => c.2.2 z)).symm, fun z => ?_⟩⟩)
      have a := (h1 ⟨⟨s, hs, e, hb⟩, ⟨t, ht, e2, hb2⟩, z⟩).symm
      have i1 : ¬ mOut ((6 : Int32) + p) 681 := by
        rw [e, show (6 : Int32) + nI s = nI (6 + s) from nI_add 6 s]
        exact nI_in (by omega) (by omega)
      have i2 : ¬ mOut ((6 : Int32) + q) 681 := by
        rw [e2, show (6 : Int32) + nI t = nI (6 + t) from nI_add 6 t]
        exact nI_in (by omega) (by omega)
      exact c232_43 ⟨i1, i2, i1, i2, a⟩
    · exact h'.s0 (fun t ht e2 hb2 => c2 ⟨t, ht, e2, hb2⟩) ⟨fun _ => (h0 (fun c => c2 c.2.1)).symm, fun z => absurd rfl z⟩
  · exact c235_43 (h'.s0 (fun t ht e2 hb2 => c ⟨t, ht, e2, hb2⟩) ⟨fun _ => (h0 (fun z => c z.1)).symm, fun z => absurd rfl z⟩)
end AN0
end
