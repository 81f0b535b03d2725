/-! the house that stands: the class's evening at t against the reference's row -/
section PN0
variable {S : Nat × (Nat → Int32)} {d : Nat} {x : mX} {I I' : rI0} {J J' : rJ0}
theorem SB_orI {v w : Int64} {s : Nat} : SB (v ||| w) s ↔ SB v s ∨ SB w s := by
  unfold SB
  rw [Int64.toBitVec_or, BitVec.getLsbD_or, Bool.or_eq_true]
theorem SB_1I {c : Nat} (hc : c < 64) : SB ((1 : Int64) <<< ((nI c).toInt64 &&& 63)) c := by
  unfold SB
  rw [sh1 c hc, BitVec.getLsbD_twoPow, Bool.and_eq_true]
  exact ⟨decide_eq_true hc, decide_eq_true rfl⟩
theorem surv7E {R C : Nat} {Q : rI0 → rJ0 → Prop} (hR : R ≤ 8) (hC : C ≤ 8) (eR : I 16 0 = nI R) (eC : I 16 1 = nI C) : ∀ (m c : Nat) (J : rJ0), c + m = R * C → (∀ s, s < 64 → (SB (J 16 5) s ↔ s < c ∧ ¬ I 17 s = -1)) → (∀ J', (∀ b, b ≠ 16 → b ≠ 18 → b ≠ 23 → J' b = J b) → (∀ q, q ≠ 5 → J' 16 q = J 16 q) → (∀ s, s < 64 → (SB (J' 16 5) s ↔ s < R * C ∧ ¬ I 17 s = -1)) → Q I J') → wp S (d + 3) 32 7 [some (.ref 16), some (.int (nI c))] [] (wv x I J) (rV x Q) := by
  have hRC : R * C ≤ 64 := Nat.le_trans (Nat.mul_le_mul hR hC) (by omega)
  intro m
  induction m with
  | zero =>
    intro c J hc hb k
    have hc : c = R * C := by omega
    have g : wp S (d + 3) 32 66 [some (.ref 16), some (.int 0)] [] (wv x I J) (rV x Q) := surv66 ⟨R, hR, eR⟩ ⟨C, hC, eC⟩ 64 0 J rfl (fun J' o1 => k J' (fun b h1 h2 h3 => o1 b h3) (fun q hq => congrFun (o1 16 (by decide)) q) (by rw [o1 16 (by decide), ← hc]; exact hb))
    exact v32_16_7 (c23_16 ⟨fun q => absurd q (by rw [eR, eC, nI_mu]; exact nI_nlt (by omega) (by omega)), fun _ => g⟩)
  | succ m ih =>
    intro c J hc hb k
    have hc64 : c < 64 := by omega
    refine v32_16_7 (c23_16 ⟨fun _ => ⟨fun _ => ⟨nI_in hc64 (by omega), setKindA_16 hc64 rfl (fun J2 o2 => ?_)⟩, fun q => absurd (nI_lt (by omega) (by omega) : nI c < nI 64) q⟩, fun q => absurd (by rw [eR, eC, nI_mu]; exact nI_lt (by omega) (by omega)) q⟩)
    rw [nI_clamp (by omega), mSet_self]
    have e5 : J2 16 5 = J 16 5 := by rw [o2 16 (by decide)]
    have go : ∀ v : Int64, (∀ s, s < 64 → (SB (J2 16 5 ||| v) s ↔ s < c + 1 ∧ ¬ I 17 s = -1)) → wp S (d + 3) 32 7 [some (.ref 16), some (.int (nI c + 1))] [] (wv x I (mSet J2 16 5 (J2 16 5 ||| v))) (rV x Q) := by
      intro v hv
      rw [← nI_succ]
      refine ih (c + 1) _ (by omega) hv (fun J' o3 q3 b3 => k J' (fun b h1 h2 h3 => ?_) (fun q hq => ?_) b3)
      · rw [o3 b h1 h2 h3, mSet_ne h1, o2 b h2]
      · rw [q3 q hq]
        show mSet J2 16 5 _ 16 q = J 16 q
        unfold mSet va_up
        rw [if_pos rfl, if_neg hq, o2 16 (by decide)]
    refine ⟨nI_in hc64 (by omega), fun hk => go _ (fun s hs => ?_), fun hk => go _ (fun s hs => ?_)⟩
    · rw [SB_orI, e5, hb s hs]
      constructor
      · rintro (⟨a, b⟩ | z)
        · exact ⟨by omega, b⟩
        · exact (SB_0 z).elim
      · rintro ⟨a, b⟩
        refine Or.inl ⟨?_, b⟩
        rcases (show s < c ∨ s = c by omega) with y | y
        · exact y
        · rw [y] at b
          exact absurd hk b
    · rw [SB_orI, e5, hb s hs]
      constructor
      · rintro (⟨a, b⟩ | z)
        · exact ⟨by omega, b⟩
        · rw [SB_1 hc64 z]
          exact ⟨by omega, hk⟩
      · rintro ⟨a, b⟩
        rcases (show s < c ∨ s = c by omega) with y | y
        · exact Or.inl ⟨y, b⟩
        · rw [y]
          exact Or.inr (SB_1I hc64)
theorem surveyE {R C : Nat} {Q : rI0 → rJ0 → Prop} (hR : R ≤ 8) (hC : C ≤ 8) (eR : I 16 0 = nI R) (eC : I 16 1 = nI C) (k : ∀ J', (∀ b, b ≠ 16 → b ≠ 18 → b ≠ 23 → J' b = J b) → (∀ q, q ≠ 5 → J' 16 q = J 16 q) → (∀ s, s < 64 → (SB (J' 16 5) s ↔ s < R * C ∧ ¬ I 17 s = -1)) → Q I J') : wcV S (d + 3) 32 [.ref 16] x I J Q := by
  refine c32_16 (surv7E hR hC eR eC (R * C) 0 _ (by omega) (fun s hs => ⟨fun hv => absurd hv SB_0, fun q => absurd q.1 (by omega)⟩) (fun J' o1 q1 b1 => k J' (fun b z1 z2 z3 => (o1 b z1 z2 z3).trans (mSet_ne z1)) (fun q hq => ?_) b1))
  rw [q1 q hq]
  show mSet J 16 5 0 16 q = J 16 q
  unfold mSet va_up
  rw [if_pos rfl, if_neg hq]
theorem takeHouseE {Q : rI0 → rJ0 → Prop} (h4 : I 16 4 = 0 ∨ I 16 4 = 1) (k : ∀ I' J', (∀ b, ¬ (4 ≤ b ∧ b ≤ 11) → I' b = I b) → (∀ b, ¬ (4 ≤ b ∧ b ≤ 11) → J' b = J b) → (∀ q, q ≤ 4 → I' 4 q = I 16 q) → J' 4 5 = J 16 5 → (∀ s, s < 64 → I' 5 s = I 17 s) → (∀ q, q < 6 → J' 6 q = J 18 q) → (∀ r, r < 8 → I' 7 r = I 19 r) → (∀ r, r < 8 → I' 8 r = I 20 r) → (∀ l, l < 12 → I' 9 l = I 21 l) → (∀ i, i < 240 → I' 10 i = I 22 i) → (∀ i, i < 384 → J' 11 i = J 23 i) → Q I' J') : wcV S (d + 1) 22 [.ref 4, .ref 16] x I J Q := by
  refine c22_4_16 ⟨h4, by decide, fun I1 e1 => ⟨by decide, fun J2 e2 => ⟨by decide, fun I3 e3 => ⟨by decide, fun I4 e4 => ⟨by decide, fun I5 e5 => ⟨by decide, fun I6 e6 => ⟨by decide, fun J7 e7 => ?_⟩⟩⟩⟩⟩⟩⟩
  have n1 : ∀ b, ¬ (b = 4 ∨ b = 5) → I1 b = I b := fun b hb => by rw [e1, vu_ne (by omega), mSet_ne (by omega), mSet_ne (by omega), mSet_ne (by omega), mSet_ne (by omega), mSet_ne (by omega)]
  have n2 : ∀ b, ¬ (b = 4 ∨ b = 6) → J2 b = J b := fun b hb => by rw [e2, vu_ne (by omega), mSet_ne (by omega)]
  refine k I6 J7 (fun b hb => ?_) (fun b hb => ?_) (fun q hq => ?_) ?_ (fun s hs => ?_) (fun q hq => ?_) (fun r hr => ?_) (fun r hr => ?_) (fun l hl => ?_) (fun i hi => ?_) (fun i hi => ?_)
  · rw [e6, vu_ne (by omega), e5, vu_ne (by omega), e4, vu_ne (by omega), e3, vu_ne (by omega)]
    exact n1 b (by omega)
  · rw [e7, vu_ne (by omega)]
    exact n2 b (by omega)
  · rw [e6, vu_ne (by decide), e5, vu_ne (by decide), e4, vu_ne (by decide), e3, vu_ne (by decide), e1, vu_ne (by decide)]
    rcases (show q = 0 ∨ q = 1 ∨ q = 2 ∨ q = 3 ∨ q = 4 by omega) with z | z | z | z | z <;> subst z <;> rfl
  · rw [e7, vu_ne (by decide), e2, vu_ne (by decide)]
    rfl
  · rw [e6, vu_ne (by decide), e5, vu_ne (by decide), e4, vu_ne (by decide), e3, vu_ne (by decide), e1]
    unfold va_up
    rw [if_pos rfl]
    exact cpyK (n := 64) _ _ rfl hs
  · rw [e7, vu_ne (by decide), e2]
    unfold va_up
    rw [if_pos rfl]
    exact cpyK (n := 6) _ _ rfl hq
  · rw [e6, vu_ne (by decide), e5, vu_ne (by decide), e4, vu_ne (by decide), e3]
    unfold va_up
    rw [if_pos rfl]
    exact (cpyK (n := 8) _ _ rfl hr).trans (congrFun (n1 19 (by decide)) r)
  · rw [e6, vu_ne (by decide), e5, vu_ne (by decide), e4]
    unfold va_up
    rw [if_pos rfl]
    refine (cpyK (n := 8) _ _ rfl hr).trans ?_
    rw [e3, vu_ne (by decide)]
    exact congrFun (n1 20 (by decide)) r
  · rw [e6, vu_ne (by decide), e5]
    unfold va_up
    rw [if_pos rfl]
    refine (cpyK (n := 12) _ _ rfl hl).trans ?_
    rw [e4, vu_ne (by decide), e3, vu_ne (by decide)]
    exact congrFun (n1 21 (by decide)) l
  · rw [e6]
    unfold va_up
    rw [if_pos rfl]
    refine (cpyK (n := 240) _ _ rfl hi).trans ?_
    rw [e5, vu_ne (by decide), e4, vu_ne (by decide), e3, vu_ne (by decide)]
    exact congrFun (n1 22 (by decide)) i
  · rw [e7]
    unfold va_up
    rw [if_pos rfl]
    exact (cpyK (n := 384) _ _ rfl hi).trans (congrFun (n2 23 (by decide)) i)
theorem takeCuesE {Q : rI0 → rJ0 → Prop} (k : ∀ I', (∀ a, a ≠ 3 → a ≠ 12 → a ≠ 13 → a ≠ 14 → I' a = I a) → I' 3 4 = I 15 4 → (∀ i, i < 30 → I' 12 i = I 24 i ∧ I' 13 i = I 25 i ∧ I' 14 i = I 26 i) → Q I' J) : wcV S (d + 1) 16 [.ref 3, .ref 15] x I J Q := by
  refine c16_3_15 ⟨cp30, fun I1 e1 => ⟨cp30, fun I2 e2 => ⟨cp30, fun I3 e3 => k I3 (fun a h1 h2 h3 h4 => ?_) ?_ (fun i hi => ⟨?_, ?_, ?_⟩)⟩⟩⟩
  · rw [e3, vu_ne h4, e2, vu_ne h3, e1, vu_ne h2, mSet_ne h1]
  · rw [e3, e2, e1]
    rfl
  · rw [e3, vu_ne (by decide), e2, vu_ne (by decide), e1]
    unfold va_up
    rw [if_pos rfl]
    refine (cpyK (n := 30) _ _ rfl hi).trans ?_
    rw [mSet_ne (by decide)]
  · rw [e3, vu_ne (by decide), e2]
    unfold va_up
    rw [if_pos rfl]
    refine (cpyK (n := 30) _ _ rfl hi).trans ?_
    rw [e1, vu_ne (by decide), mSet_ne (by decide)]
  · rw [e3]
    unfold va_up
    rw [if_pos rfl]
    refine (cpyK (n := 30) _ _ rfl hi).trans ?_
    rw [e2, vu_ne (by decide), e1, vu_ne (by decide), mSet_ne (by decide)]
/-- the house up to who sits where, and the cues -/
def NRw (t : Nat) (I : rI0) (J : rJ0) (g : Nat → Int32) : Prop := (∃ R C, R ≤ 8 ∧ C ≤ 8 ∧ I (t + 1) 0 = nI R ∧ g 0 = nI R ∧ I (t + 1) 1 = nI C ∧ g 1 = nI C ∧ ∀ s, s < 64 → R * C ≤ s → ¬ SB (J (t + 1) 5) s) ∧ (∀ s, s < 64 → (SB (J (t + 1) 5) s ↔ 0 < (g (6 + s)).toInt)) ∧ (∀ r, r < 8 → RB (I (t + 4) r) 999 ∧ g (70 + r) = I (t + 4) r) ∧ (∀ r, r < 8 → (I (t + 5) r = -1 ∨ RB (I (t + 5) r) 600) ∧ g (78 + r) = I (t + 5) r + 1) ∧ ((I (t + 1) 4 = 0 ∨ I (t + 1) 4 = 1) ∧ g 5 = I (t + 1) 4 ∧ (∃ v, 1 ≤ v ∧ v ≤ 64 ∧ I (t + 1) 2 = nI v ∧ g 3 = nI v) ∧ ∃ v, v ≤ 600 ∧ I (t + 1) 3 = nI v ∧ g 4 = nI v) ∧ ∀ l, l < 12 → (I (t + 6) l = -1 ∧ g (86 + 42 * l) = 0) ∨ ∃ sz, I (t + 6) l = nI sz ∧ g (86 + 42 * l) = nI sz ∧ hT1 (I (t + 7)) g l sz
/-- the cues -/
def NCu (t : Nat) (I : rI0) (g : Nat → Int32) : Prop := ∃ n, n ≤ 30 ∧ I t 4 = nI n ∧ g 590 = nI n ∧ ∀ i, i < n → I (t + 9) i = g (591 + 3 * i) ∧ I (t + 10) i = g (592 + 3 * i) ∧ I (t + 11) i = g (593 + 3 * i)
theorem nI_m5 : ∀ n, n ≤ 5 → ¬ nI n = -1 := by
  intro n hn
  rcases (show n = 0 ∨ n = 1 ∨ n = 2 ∨ n = 3 ∨ n = 4 ∨ n = 5 by omega) with z | z | z | z | z | z <;> subst z <;> decide
theorem NRw_h {R C : Nat} {I4 I5 I1 : rI0} {J1 : rJ0} {g : Nat → Int32} (h : HRl R C I4 I5) (f0 : ∀ q, q ≤ 4 → I1 4 q = I4 16 q) (fs : ∀ s, s < 64 → (SB (J1 4 5) s ↔ s < R * C ∧ ¬ I4 17 s = -1)) (f7 : ∀ r, r < 8 → I1 7 r = I4 19 r) (f8 : ∀ r, r < 8 → I1 8 r = I4 20 r) (f9 : ∀ l, l < 12 → I1 9 l = I4 21 l) (f10 : ∀ i, i < 240 → I1 10 i = I4 22 i) (fg : ∀ i, i < 590 → g i = I5 46 i) : NRw 3 I1 J1 g := by
  obtain ⟨⟨a1, a2, a3, a4, a5, a6, a7, a8, a9, a10, a11⟩, ⟨-, hp⟩, ⟨m, hm, hm2, hl⟩, ⟨c0, c1, c2, q0, q1, q2, q3, q4, q5, q6, q7, ⟨v, v1, v2, v3, v4⟩, ⟨w, w1, w2, w3⟩⟩, ht⟩ := h
  refine ⟨⟨R, C, a1, a2, (f0 0 (by omega)).trans a5, (fg 0 (by omega)).trans a6, (f0 1 (by omega)).trans a7, (fg 1 (by omega)).trans a8, fun s hs hr z => ?_⟩, fun s hs => ?_, fun r hr => ?_, fun r hr => ?_, ⟨?_, ?_, ⟨v, v1, v2, (f0 2 (by omega)).trans v3, (fg 3 (by omega)).trans v4⟩, ⟨w, w1, (f0 3 (by omega)).trans w2, (fg 4 (by omega)).trans w3⟩⟩, fun l hl => ?_⟩
  · have := ((fs s hs).mp z).1
    omega
  · show SB (J1 4 5) s ↔ _
    rw [fs s hs, fg (6 + s) (by omega)]
    by_cases hr : s < R * C
    · obtain ⟨b1, b2⟩ := a9 s hr
      rw [b2]
      rcases b1 with y | ⟨n, hn, y⟩
      · rw [y]
        exact iff_of_false (fun q => q.2 rfl) (by decide)
      · rw [y]
        refine iff_of_true ⟨hr, nI_m5 n hn⟩ ?_
        rw [← nI_succ, nI_toInt (by omega)]
        omega
    · rw [a10 s (by omega) hs]
      exact iff_of_false (fun q => hr q.1) (by decide)
  · show RB (I1 7 r) 999 ∧ g (70 + r) = I1 7 r
    rw [f7 r hr, fg (70 + r) (by omega)]
    exact hp r hr
  · show (I1 8 r = -1 ∨ RB (I1 8 r) 600) ∧ g (78 + r) = I1 8 r + 1
    rw [f8 r hr, fg (78 + r) (by omega)]
    exact ⟨(hl r hr).1, (hl r hr).2.1⟩
  · show I1 4 4 = 0 ∨ I1 4 4 = 1
    rw [f0 4 (by omega), q5]
    rcases (show c2 = 0 ∨ c2 = 1 by omega) with z | z <;> subst z
    · exact Or.inl rfl
    · exact Or.inr rfl
  · show g 5 = I1 4 4
    rw [fg 5 (by omega), q7, f0 4 (by omega), q5]
  · show (I1 9 l = -1 ∧ g (86 + 42 * l) = 0) ∨ ∃ sz, I1 9 l = nI sz ∧ g (86 + 42 * l) = nI sz ∧ hT1 (I1 10) g l sz
    rw [f9 l hl, fg (86 + 42 * l) (by omega)]
    rcases ht l hl with y | ⟨sz, y1, y2, y3⟩
    · exact Or.inl y
    · exact Or.inr ⟨sz, y1, y2, y3.cg (fun i p1 p2 => f10 i (by omega)) (fun k p1 p2 => fg k (by omega))⟩
theorem NRw.mv {t : Nat} {g g' : Nat → Int32} (h : NRw t I J g) (hi : ∀ b, b = t + 1 ∨ (t + 4 ≤ b ∧ b ≤ t + 8) → I' b = I b) (hj : J' (t + 1) = J (t + 1)) (hg : PK g g') : NRw t I' J' g' := by
  obtain ⟨⟨R, C, a1, a2, a3, a4, a5, a6, a7⟩, b, c, e, ⟨f0, f1, ⟨v, v1, v2, v3, v4⟩, ⟨w, w1, w2, w3⟩⟩, l⟩ := h
  have q : ∀ i, i < 590 ∧ ¬ (6 ≤ i ∧ i < 70) → g' i = g i := fun i hi => hg.1 i hi.1 hi.2
  have h1 : I' (t + 1) = I (t + 1) := hi (t + 1) (by omega)
  refine ⟨⟨R, C, a1, a2, by rw [h1]; exact a3, (q 0 (by omega)).trans a4, by rw [h1]; exact a5, (q 1 (by omega)).trans a6, by rw [hj]; exact a7⟩, fun s hs => ?_, fun r hr => ?_, fun r hr => ?_, ⟨by rw [h1]; exact f0, by rw [h1, q 5 (by omega)]; exact f1, ⟨v, v1, v2, by rw [h1]; exact v3, (q 3 (by omega)).trans v4⟩, ⟨w, w1, by rw [h1]; exact w2, (q 4 (by omega)).trans w3⟩⟩, fun i hl => ?_⟩
  · rw [hj, b s hs]
    exact (hg.2 s hs).symm
  · rw [hi (t + 4) (by omega), q (70 + r) (by omega)]
    exact c r hr
  · rw [hi (t + 5) (by omega), q (78 + r) (by omega)]
    exact e r hr
  · rw [hi (t + 6) (by omega), q (86 + 42 * i) (by omega)]
    rcases l i hl with y | ⟨sz, y1, y2, y3⟩
    · exact Or.inl y
    · exact Or.inr ⟨sz, y1, y2, y3.cg (fun k _ _ => by rw [hi (t + 7) (by omega)]) (fun k p1 p2 => q k (by omega))⟩
theorem NCu.mv {t : Nat} {g g' : Nat → Int32} (h : NCu t I g) (hi : ∀ b, b = t ∨ (t + 9 ≤ b ∧ b ≤ t + 11) → I' b = I b) (q : PQ g g') : NCu t I' g' := by
  obtain ⟨n, n1, n2, n3, n4⟩ := h
  refine ⟨n, n1, by rw [hi t (by omega)]; exact n2, (q 590 (by omega) (by omega)).trans n3, fun i hn => ?_⟩
  rw [hi (t + 9) (by omega), hi (t + 10) (by omega), hi (t + 11) (by omega), q (591 + 3 * i) (by omega) (by omega), q (592 + 3 * i) (by omega) (by omega), q (593 + 3 * i) (by omega) (by omega)]
  exact n4 i hn
theorem NRw.cp {t u : Nat} {g g' : Nat → Int32} (h : NRw t I J g) (z : CPe t u I J I' J') (q : ∀ i, i < 681 → g' i = g i) : NRw u I' J' g' := by
  obtain ⟨⟨R, C, a1, a2, a3, a4, a5, a6, a7⟩, b, c, e, ⟨f0, f1, ⟨v, v1, v2, v3, v4⟩, ⟨w, w1, w2, w3⟩⟩, l⟩ := h
  obtain ⟨z0, zs, -, -, z4, z5, z6, z7, -⟩ := z
  refine ⟨⟨R, C, a1, a2, (z0 0 (by omega)).trans a3, (q 0 (by omega)).trans a4, (z0 1 (by omega)).trans a5, (q 1 (by omega)).trans a6, by rw [zs]; exact a7⟩, fun s hs => ?_, fun r hr => ?_, fun r hr => ?_, ⟨by rw [z0 4 (by omega)]; exact f0, by rw [z0 4 (by omega), q 5 (by omega)]; exact f1, ⟨v, v1, v2, (z0 2 (by omega)).trans v3, (q 3 (by omega)).trans v4⟩, ⟨w, w1, (z0 3 (by omega)).trans w2, (q 4 (by omega)).trans w3⟩⟩, fun i hl => ?_⟩
  · rw [zs, b s hs, q (6 + s) (by omega)]
  · rw [z4 r hr, q (70 + r) (by omega)]
    exact c r hr
  · rw [z5 r hr, q (78 + r) (by omega)]
    exact e r hr
  · rw [z6 i hl, q (86 + 42 * i) (by omega)]
    rcases l i hl with y | ⟨sz, y1, y2, y3⟩
    · exact Or.inl y
    · exact Or.inr ⟨sz, y1, y2, y3.cg (fun k p1 p2 => z7 k (by omega)) (fun k p1 p2 => q k (by omega))⟩
theorem NCu.cp {t u : Nat} {g g' : Nat → Int32} (h : NCu t I g) (z : CPe t u I J I' J') (q : ∀ i, i < 681 → g' i = g i) : NCu u I' g' := by
  obtain ⟨n, n1, n2, n3, n4⟩ := h
  obtain ⟨-, -, -, -, -, -, -, -, -, zc, z9, -⟩ := z
  refine ⟨n, n1, zc.trans n2, (q 590 (by omega)).trans n3, fun i hn => ?_⟩
  obtain ⟨y1, y2, y3⟩ := z9 i (by omega)
  rw [y1, y2, y3, q (591 + 3 * i) (by omega), q (592 + 3 * i) (by omega), q (593 + 3 * i) (by omega)]
  exact n4 i hn
/-- house and cues -/
def NRx (t : Nat) (I : rI0) (J : rJ0) (g : Nat → Int32) : Prop := NRw t I J g ∧ NCu t I g
theorem NRx.mv {t : Nat} {g g' : Nat → Int32} (h : NRx t I J g) (hi : ∀ b, b = t ∨ b = t + 1 ∨ (t + 4 ≤ b ∧ b ≤ t + 11) → I' b = I b) (hj : J' (t + 1) = J (t + 1)) (hg : PK g g') (hq : PQ g g') : NRx t I' J' g' := ⟨h.1.mv (fun b hb => hi b (by omega)) hj hg, h.2.mv (fun b hb => hi b (by omega)) hq⟩
theorem NRx.cp {t u : Nat} {g g' : Nat → Int32} (h : NRx t I J g) (z : CPe t u I J I' J') (q : ∀ i, i < 681 → g' i = g i) : NRx u I' J' g' := ⟨h.1.cp z q, h.2.cp z q⟩
theorem PQ.rf {g : Nat → Int32} : PQ g g := fun _ _ _ => rfl
theorem PQ.tr {g g1 g2 : Nat → Int32} (h : PQ g g1) (h2 : PQ g1 g2) : PQ g g2 := fun i h1 h3 => (h2 i h1 h3).trans (h i h1 h3)
/-! isSeat, exactly -/
theorem nI_ij {a b : Nat} (ha : a < 1000) (hb : b < 1000) (h : nI a = nI b) : a = b := by
  have := congrArg Int32.toInt h
  rw [nI_toInt (by omega), nI_toInt (by omega)] at this
  omega
theorem isSeatE_4 {p : Int32} {Q : Int32 → rI0 → rJ0 → Prop} (k0 : (∀ s, s < 64 → p = nI s → ¬ SB (J 4 5) s) → Q 0 I J) (k1 : ∀ s, s < 64 → p = nI s → SB (J 4 5) s → Q 1 I J) : wcI S d 24 [.ref 4, .int p] x I J Q := by
  refine c24_4 ⟨fun z => k0 (fun s hs e => ?_), fun h0 => ⟨fun h1 => ?_, fun z => k0 (fun s hs e => ?_)⟩⟩
  · rw [e] at z
    exact absurd z (nI_nlt (b := 0) (by omega) (by omega))
  · obtain ⟨s, hs, e⟩ := lt_nat (n := 64) (by omega) h0 h1
    subst e
    rw [wb_cu s hs]
    refine ⟨fun z => k0 (fun t ht e hb => ?_), fun hb => k1 s hs rfl (ts_nf (fun hf => hb (lg_z.mpr ((ts_bit hs (u64n hs)).mpr hf))))⟩
    have e := nI_ij (by omega) (by omega) e
    subst e
    have f := (ts_bit hs (u64n hs)).mp (lg_z.mp z)
    unfold SB at hb
    rw [f] at hb
    cases hb
  · rw [e] at z
    exact absurd (nI_lt (b := 64) hs (by omega)) z
theorem rSeatE {R C : Nat} {p : Int32} {Q : Int32 → rI0 → rJ0 → Prop} (hR : R ≤ 8) (hC : C ≤ 8) (e0 : I 45 0 = nI R) (e1 : I 45 1 = nI C) (k0 : (∀ s, s < R * C → p = nI s → ¬ 0 < (I 45 (6 + s)).toInt) → Q 0 I J) (k1 : ∀ s, s < R * C → p = nI s → 0 < (I 45 (6 + s)).toInt → Q 1 I J) : wcI S (d + 1) 183 [.ref 43, .int p] x I J Q := by
  have hRC : R * C ≤ 64 := Nat.le_trans (Nat.mul_le_mul hR hC) (by omega)
  have l1 : (1 : Int32).toInt = 1 := by decide
  have l0 : (0 : Int32).toInt = 0 := by decide
  have hi : ((I 45 0) * (I 45 1) - (1 : Int32)).toInt = ((R * C : Nat) : Int) - 1 := by
    rw [e0, e1, nI_mu]
    exact i_sub (nI_toInt (by omega)) l1 (by omega)
  refine c183_43 ⟨by decide, by decide, c151 ⟨fun q => ⟨fun _ => k0 (fun s hs e => ?_), fun z => absurd rfl z⟩, fun q0 => ⟨fun q => ⟨fun _ => k0 (fun s hs e => ?_), fun z => absurd rfl z⟩, fun q1 => ⟨fun z => absurd z (by decide), fun _ => ?_⟩⟩⟩⟩
  · rw [e] at q
    exact absurd q (nI_nlt (b := 0) (by omega) (by omega))
  · have q : ((I 45 0) * (I 45 1) - (1 : Int32)).toInt < p.toInt := i_lt q
    rw [hi, e, nI_toInt (by omega)] at q
    omega
  · have q1 : p.toInt ≤ ((I 45 0) * (I 45 1) - (1 : Int32)).toInt := i_nlt q1
    have q0' := i_nlt q0
    obtain ⟨s, hs, e⟩ := lt_nat (p := p) (n := R * C) (by omega) q0 (by rw [Int32.lt_iff_toInt_lt, nI_toInt (by omega)]; omega)
    subst e
    have e6 : (6 : Int32) + nI s = nI (6 + s) := nI_add 6 s
    rw [e6, nI_clamp (by omega)]
    refine ⟨nI_in (by omega) (by omega), fun z => k1 s hs rfl ?_, fun z => k0 (fun u hu e w => ?_)⟩
    · have := i_lt z
      omega
    · have e := nI_ij (by omega) (by omega) e
      subst e
      have := i_nlt z
      omega
/-- both say the same of p -/
theorem NRw.s1 {p : Int32} {s : Nat} {Q : Int32 → rI0 → rJ0 → Prop} (h : NRw 3 I J (I' 45)) (hs : s < 64) (e : p = nI s) (hb : SB (J 4 5) s) (k : 0 < (I' 45 (6 + s)).toInt → Q 1 I' J') : wcI S (d + 1) 183 [.ref 43, .int p] x I' J' Q := by
  obtain ⟨⟨R, C, a1, a2, a3, a4, a5, a6, a7⟩, b, -⟩ := h
  have pos := (b s hs).mp hb
  have hr : s < R * C := by
    rcases Nat.lt_or_ge s (R * C) with y | y
    · exact y
    · exact absurd hb (a7 s hs y)
  exact rSeatE a1 a2 a4 a6 (fun f => absurd pos (f s hr e)) (fun _ _ _ _ => k pos)
theorem NRw.s0 {p : Int32} {Q : Int32 → rI0 → rJ0 → Prop} (h : NRw 3 I J (I' 45)) (f : ∀ s, s < 64 → p = nI s → ¬ SB (J 4 5) s) (k : Q 0 I' J') : wcI S (d + 1) 183 [.ref 43, .int p] x I' J' Q := by
  obtain ⟨⟨R, C, a1, a2, a3, a4, a5, a6, a7⟩, b, -⟩ := h
  have hRC : R * C ≤ 64 := Nat.le_trans (Nat.mul_le_mul a1 a2) (by omega)
  exact rSeatE a1 a2 a4 a6 (fun _ => k) (fun s hs e pos => absurd ((b s (by omega)).mpr pos) (f s (by omega) e))
end PN0
