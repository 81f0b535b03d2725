section
section CS
variable {S : Nat × (Nat → Int32)} {d : Nat} {x : mX} {I : rI0} {J : rJ0}
theorem t_inc {p q : Int32} (h : p < q) : (p + 1).toInt = p.toInt + 1 := by
  rw [Int32.lt_iff_toInt_lt] at h
  have h1 := Int32.toInt_lt q
  have h2 := Int32.le_toInt p
  have e : (1 : Int32).toInt = 1 := by decide
  rw [Int32.toInt_add, e]
  exact Int.bmod_eq_of_le (by omega) (by omega)
theorem leavesA_lp {R : Nat} {Q : Int32 → rI0 → rJ0 → Prop} (hR : R ≤ 8) (h4 : I 4 0 = nI R) (k : ∀ v, Q v I J) : ∀ (m c : Nat) (l1 : Int32), c + m = R → wp S (d + 1) 29 4 [some (.ref 4), some (.int l1), some (.int (nI c))] [] (wv x I J) (rI x Q) := by
  intro m
  induction m with
  | zero =>
    intro c l1 hc
    exact v29_4_4 ⟨fun q => absurd q (by rw [h4]; exact nI_nlt (by omega) (by omega)), fun _ => k _⟩
  | succ m ih =>
    intro c l1 hc
    refine v29_4_4 ⟨fun _ => ⟨nI_in (by omega) (by omega), ?_⟩, fun q => absurd (by rw [h4]; exact nI_lt (by omega) (by omega)) q⟩
    rw [← nI_succ]
    exact ih (c + 1) _ (by omega)
theorem lastLeavesA {Q : Int32 → rI0 → rJ0 → Prop} (h : RB (I 4 0) 8) (k : ∀ v, Q v I J) : wcI S (d + 1) 29 [.ref 4] x I J Q := by
  obtain ⟨R, hR, e⟩ := h
  exact c29_4 (leavesA_lp hR e k R 0 _ (by omega))
theorem lastEventA {Q : Int32 → rI0 → rJ0 → Prop} (h : RB (I 4 0) 8) (h3 : RB (I 3 4) 30) (k : ∀ v, Q v I J) : wcI S (d + 2) 17 [.ref 3] x I J Q := by
  refine c17_3 ⟨fun h0 => ⟨fun _ => lastLeavesA h (fun v => k _), fun _ => ⟨?_, lastLeavesA h (fun v => k _)⟩⟩, fun _ => lastLeavesA h (fun v => k _)⟩
  obtain ⟨c, hc, e⟩ := h3
  rw [e] at h0 ⊢
  rcases c with _ | c
  · exact absurd h0 (by decide)
  · rw [nI_pred]
    exact nI_in (by omega) (by omega)

theorem move_lpA_36 {l1 l3 l5 l7 : Int64} {Q : rI0 → rJ0 → Prop} (k : ∀ J', Off 36 I J I J' → Q I J') : ∀ (m c : Nat) (l9 l11 : Int64), c + m = 6 → wp S (d + 21) 59 27 [some (.ref 36), some (.long l1), none, some (.long l3), none, some (.long l5), none, some (.long l7), none, some (.long l9), none, some (.long l11), none, some (.int (nI c)), none, none, none, none, none] [] (wv x I J) (rV x Q) := by
  intro m
  induction m with
  | zero =>
    intro c l9 l11 hc
    have hc : c = 6 := by omega
    subst hc
    exact v59_36_27 ⟨fun q => absurd q (by decide), fun _ => k _ (Off.sj.tr Off.sj)⟩
  | succ m ih =>
    intro c l9 l11 hc
    have z : ∀ u v, wp S (d + 21) 59 27 [some (.ref 36), some (.long l1), none, some (.long l3), none, some (.long l5), none, some (.long l7), none, some (.long u), none, some (.long v), none, some (.int (nI c + 1)), none, none, none, none, none] [] (wv x I J) (rV x Q) := fun u v => by
      rw [← nI_succ]
      exact ih (c + 1) u v (by omega)
    refine v59_36_27 ⟨fun _ => ⟨nI_in (by omega) (by omega), fun _ => z _ _, fun _ => ⟨?_, joinedA_36 ?_ (fun r1 => ⟨?_, joinedA_36 ?_ (fun r2 => z _ _)⟩)⟩⟩, fun q => absurd (nI_lt (by omega) (by omega) : nI c < nI 6) q⟩
    · show ¬ mOut (nI 2 * nI c) 12
      rw [nI_mu]
      exact nI_in (by omega) (by omega)
    · show RB (nI 2 * nI c * nI 20) 100000
      rw [nI_mu, nI_mu]
      exact ⟨_, by omega, rfl⟩
    · show ¬ mOut (nI 2 * nI c + nI 1) 12
      rw [nI_mu, nI_add]
      exact nI_in (by omega) (by omega)
    · show RB ((nI 2 * nI c + nI 1) * nI 20) 100000
      rw [nI_mu, nI_add, nI_mu]
      exact ⟨_, by omega, rfl⟩
theorem moveA_36 {p1 p2 p3 : Int64} {Q : rI0 → rJ0 → Prop} (k : ∀ J', Off 36 I J I J' → Q I J') : wcV S (d + 21) 59 [.ref 36, .long p1, .long p2, .long p3] x I J Q := c59_36 (move_lpA_36 k 6 0 _ _ rfl)
theorem hold65_36 {l1 l3 l5 : Int64} {s0 : Int32} {Q : rI0 → rJ0 → Prop} (k : ∀ I' J', Off 36 I J I' J' → I' 36 3 = I 36 3 → Q I' J') : wp S d 60 65 [some (.ref 36), some (.long l1), none, some (.long l3), none, some (.long l5), none, none] [.int s0] (wv x I J) (rV x Q) := by
  have z : ∀ v, Q (mSet I 36 12 v) (mSet (mSet J 36 10 l3) 36 11 l5) := fun v => k _ _ (Off.si.tr (Off.sj.tr Off.sj)) rfl
  exact v60_36_65 ⟨fun _ => z _, fun _ => ⟨fun _ => z _, fun _ => z _⟩⟩
theorem holdSA_36 {p : Int64} {Q : rI0 → rJ0 → Prop} (k : ∀ I' J', Off 36 I J I' J' → I' 36 3 = I 36 3 → Q I' J') : wcV S d 60 [.ref 36, .long p] x I J Q :=
  c60_36 ⟨fun _ => ⟨fun _ => ⟨fun _ => hold65_36 k, fun _ => hold65_36 k⟩, fun _ => hold65_36 k⟩, fun _ => hold65_36 k⟩
theorem step127_36 {l1 : Int32} {l2 l4 l6 l8 : Int64} {Q : rI0 → rJ0 → Prop} (h : RB (I 36 3) 30) (k : ∀ I' J', Off 36 I J I' J' → RB (I' 36 3) 30 → Q I' J') : wp S (d + 22) 55 127 [some (.ref 36), some (.int l1), some (.long l2), none, some (.long l4), none, some (.long l6), none, some (.long l8), none, none] [] (wv x I J) (rV x Q) :=
  v55_36_127 (holdSA_36 (fun I1 J1 o1 e1 => k I1 J1 o1 (e1 ▸ h)))
theorem step76_36 {l1 : Int32} {l2 l4 l6 l8 : Int64} {R : Nat} {Q : rI0 → rJ0 → Prop} (hR : R ≤ 8) (h4 : I 4 0 = nI R) (h : RB (I 36 3) 30) : ∀ (m c : Nat) (J : rJ0), c + m = R → (∀ I' J', Off 36 I J I' J' → RB (I' 36 3) 30 → Q I' J') → wp S (d + 22) 55 76 [some (.ref 36), some (.int l1), some (.long l2), none, some (.long l4), none, some (.long l6), none, some (.long l8), none, some (.int (nI c))] [] (wv x I J) (rV x Q) := by
  intro m
  induction m with
  | zero =>
    intro c J hc k
    exact v55_36_76 ⟨fun q => absurd q (by rw [h4]; exact nI_nlt (by omega) (by omega)), fun _ => step127_36 h k⟩
  | succ m ih =>
    intro c J hc k
    refine v55_36_76 ⟨fun _ => rsA (fun v => moveA_36 (fun J1 o1 => ?_)), fun q => absurd (by rw [h4]; exact nI_lt (by omega) (by omega)) q⟩
    rw [← nI_succ]
    exact ih (c + 1) J1 (by omega) (fun I' J' o2 e2 => k I' J' (o1.tr o2) e2)
theorem stepA_36 {Q : rI0 → rJ0 → Prop} (h4 : RB (I 4 0) 8) (h : RB (I 36 3) 30) (k : ∀ I' J', Off 36 I J I' J' → RB (I' 36 3) 30 → Q I' J') : wcV S (d + 22) 55 [.ref 36] x I J Q := by
  refine c55_36 (doCuesA_36 h (fun r I1 J1 hr o1 n1 => seeRowsA_36 ?_ (fun J2 o2 => standingA_36 (fun v => ?_))))
  · rw [o1.1 4 (by decide)]
    exact h4
  have r4 : RB (I1 4 0) 8 := by rw [o1.1 4 (by decide)]; exact h4
  have o12 : Off 36 I J I1 J2 := (Off.si.tr o1).tr o2
  have z : ∀ s0 : Int64, wp S (d + 22) 55 49 [some (.ref 36), some (.int r), some (.long v), none, none, none, none, none, none, none, none] [.long s0] (wv x I1 J2) (rV x Q) := by
    intro s0
    refine v55_36_49 ⟨fun _ => moveA_36 (fun J3 o3 => step127_36 n1 (fun I' J' o4 e4 => k I' J' (o12.tr (o3.tr o4)) e4)), fun _ => ?_⟩
    obtain ⟨R, hR, e⟩ := r4
    exact step76_36 hR e n1 R 0 J2 (by omega) (fun I' J' o4 e4 => k I' J' (o12.tr o4) e4)
  exact ⟨fun _ => z _, fun _ => z _⟩
theorem beginA_36 {p q : Int64} {Q : rI0 → rJ0 → Prop} (h4 : RB (I 4 0) 8) (h3 : RB (I 3 4) 30) (k : ∀ I' J', Off 36 I J I' J' → RB (I' 36 3) 30 → Q I' J') : wcV S (d + 3) 52 [.ref 36, .long p, .long q] x I J Q := by
  have z : ∀ (I1 : rI0) (J1 : rJ0), Off 36 I J I1 J1 → RB (I1 36 3) 30 → wp S (d + 3) 52 72 [some (.ref 36), some (.long p), none, some (.long q), none] [] (wv x I1 J1) (rV x Q) := by
    intro I1 J1 o1 n1
    have r4 : RB (I1 4 0) 8 := by rw [o1.1 4 (by decide)]; exact h4
    refine v52_36_72 (doCuesA_36 n1 (fun r I2 J2 hr o2 n2 => seeRowsA_36 ?_ (fun J3 o3 => standingA_36 (fun v => ?_))))
    · rw [o2.1 4 (by decide)]
      exact r4
    · exact k _ _ ((o1.tr o2).tr (o3.tr (Off.sj.tr (Off.sj.tr (Off.sj.tr Off.sj))))) n2
  refine c52_36 (lastEventA h4 h3 (fun v => ⟨fun _ => z _ _ ?_ ⟨0, by omega, rfl⟩, fun _ => z _ _ ?_ ⟨0, by omega, rfl⟩⟩))
  · exact ⟨mSet_off (mSet_off (mSet_off (mSet_off (mSet_off (fun b _ => rfl))))), mSet_off (mSet_off (mSet_off (fun b _ => rfl)))⟩
  · exact ⟨mSet_off (mSet_off (mSet_off (mSet_off (fun b _ => rfl)))), mSet_off (mSet_off (mSet_off (fun b _ => rfl)))⟩

theorem move_lpA_41 {l1 l3 l5 l7 : Int64} {Q : rI0 → rJ0 → Prop} (k : ∀ J', Off 41 I J I J' → Q I J') : ∀ (m c : Nat) (l9 l11 : Int64), c + m = 6 → wp S (d + 21) 59 27 [some (.ref 41), some (.long l1), none, some (.long l3), none, some (.long l5), none, some (.long l7), none, some (.long l9), none, some (.long l11), none, some (.int (nI c)), none, none, none, none, none] [] (wv x I J) (rV x Q) := by
  intro m
  induction m with
  | zero =>
    intro c l9 l11 hc
    have hc : c = 6 := by omega
    subst hc
    exact v59_41_27 ⟨fun q => absurd q (by decide), fun _ => k _ (Off.sj.tr Off.sj)⟩
  | succ m ih =>
    intro c l9 l11 hc
    have z : ∀ u v, wp S (d + 21) 59 27 [some (.ref 41), some (.long l1), none, some (.long l3), none, some (.long l5), none, some (.long l7), none, some (.long u), none, some (.long v), none, some (.int (nI c + 1)), none, none, none, none, none] [] (wv x I J) (rV x Q) := fun u v => by
      rw [← nI_succ]
      exact ih (c + 1) u v (by omega)
    refine v59_41_27 ⟨fun _ => ⟨nI_in (by omega) (by omega), fun _ => z _ _, fun _ => ⟨?_, joinedA_41 ?_ (fun r1 => ⟨?_, joinedA_41 ?_ (fun r2 => z _ _)⟩)⟩⟩, fun q => absurd (nI_lt (by omega) (by omega) : nI c < nI 6) q⟩
    · show ¬ mOut (nI 2 * nI c) 12
      rw [nI_mu]
      exact nI_in (by omega) (by omega)
    · show RB (nI 2 * nI c * nI 20) 100000
      rw [nI_mu, nI_mu]
      exact ⟨_, by omega, rfl⟩
    · show ¬ mOut (nI 2 * nI c + nI 1) 12
      rw [nI_mu, nI_add]
      exact nI_in (by omega) (by omega)
    · show RB ((nI 2 * nI c + nI 1) * nI 20) 100000
      rw [nI_mu, nI_add, nI_mu]
      exact ⟨_, by omega, rfl⟩
theorem moveA_41 {p1 p2 p3 : Int64} {Q : rI0 → rJ0 → Prop} (k : ∀ J', Off 41 I J I J' → Q I J') : wcV S (d + 21) 59 [.ref 41, .long p1, .long p2, .long p3] x I J Q := c59_41 (move_lpA_41 k 6 0 _ _ rfl)
theorem hold65_41 {l1 l3 l5 : Int64} {s0 : Int32} {Q : rI0 → rJ0 → Prop} (k : ∀ I' J', Off 41 I J I' J' → I' 41 3 = I 41 3 → Q I' J') : wp S d 60 65 [some (.ref 41), some (.long l1), none, some (.long l3), none, some (.long l5), none, none] [.int s0] (wv x I J) (rV x Q) := by
  have z : ∀ v, Q (mSet I 41 12 v) (mSet (mSet J 41 10 l3) 41 11 l5) := fun v => k _ _ (Off.si.tr (Off.sj.tr Off.sj)) rfl
  exact v60_41_65 ⟨fun _ => z _, fun _ => ⟨fun _ => z _, fun _ => z _⟩⟩
theorem holdSA_41 {p : Int64} {Q : rI0 → rJ0 → Prop} (k : ∀ I' J', Off 41 I J I' J' → I' 41 3 = I 41 3 → Q I' J') : wcV S d 60 [.ref 41, .long p] x I J Q :=
  c60_41 ⟨fun _ => ⟨fun _ => ⟨fun _ => hold65_41 k, fun _ => hold65_41 k⟩, fun _ => hold65_41 k⟩, fun _ => hold65_41 k⟩
theorem step127_41 {l1 : Int32} {l2 l4 l6 l8 : Int64} {Q : rI0 → rJ0 → Prop} (h : RB (I 41 3) 30) (k : ∀ I' J', Off 41 I J I' J' → RB (I' 41 3) 30 → Q I' J') : wp S (d + 22) 55 127 [some (.ref 41), some (.int l1), some (.long l2), none, some (.long l4), none, some (.long l6), none, some (.long l8), none, none] [] (wv x I J) (rV x Q) :=
  v55_41_127 (holdSA_41 (fun I1 J1 o1 e1 => k I1 J1 o1 (e1 ▸ h)))
theorem step76_41 {l1 : Int32} {l2 l4 l6 l8 : Int64} {R : Nat} {Q : rI0 → rJ0 → Prop} (hR : R ≤ 8) (h4 : I 4 0 = nI R) (h : RB (I 41 3) 30) : ∀ (m c : Nat) (J : rJ0), c + m = R → (∀ I' J', Off 41 I J I' J' → RB (I' 41 3) 30 → Q I' J') → wp S (d + 22) 55 76 [some (.ref 41), some (.int l1), some (.long l2), none, some (.long l4), none, some (.long l6), none, some (.long l8), none, some (.int (nI c))] [] (wv x I J) (rV x Q) := by
  intro m
  induction m with
  | zero =>
    intro c J hc k
    exact v55_41_76 ⟨fun q => absurd q (by rw [h4]; exact nI_nlt (by omega) (by omega)), fun _ => step127_41 h k⟩
  | succ m ih =>
    intro c J hc k
    refine v55_41_76 ⟨fun _ => rsA (fun v => moveA_41 (fun J1 o1 => ?_)), fun q => absurd (by rw [h4]; exact nI_lt (by omega) (by omega)) q⟩
    rw [← nI_succ]
    exact ih (c + 1) J1 (by omega) (fun I' J' o2 e2 => k I' J' (o1.tr o2) e2)
theorem stepA_41 {Q : rI0 → rJ0 → Prop} (h4 : RB (I 4 0) 8) (h : RB (I 41 3) 30) (k : ∀ I' J', Off 41 I J I' J' → RB (I' 41 3) 30 → Q I' J') : wcV S (d + 22) 55 [.ref 41] x I J Q := by
  refine c55_41 (doCuesA_41 h (fun r I1 J1 hr o1 n1 => seeRowsA_41 ?_ (fun J2 o2 => standingA_41 (fun v => ?_))))
  · rw [o1.1 4 (by decide)]
    exact h4
  have r4 : RB (I1 4 0) 8 := by rw [o1.1 4 (by decide)]; exact h4
  have o12 : Off 41 I J I1 J2 := (Off.si.tr o1).tr o2
  have z : ∀ s0 : Int64, wp S (d + 22) 55 49 [some (.ref 41), some (.int r), some (.long v), none, none, none, none, none, none, none, none] [.long s0] (wv x I1 J2) (rV x Q) := by
    intro s0
    refine v55_41_49 ⟨fun _ => moveA_41 (fun J3 o3 => step127_41 n1 (fun I' J' o4 e4 => k I' J' (o12.tr (o3.tr o4)) e4)), fun _ => ?_⟩
    obtain ⟨R, hR, e⟩ := r4
    exact step76_41 hR e n1 R 0 J2 (by omega) (fun I' J' o4 e4 => k I' J' (o12.tr o4) e4)
  exact ⟨fun _ => z _, fun _ => z _⟩
theorem beginA_41 {p q : Int64} {Q : rI0 → rJ0 → Prop} (h4 : RB (I 4 0) 8) (h3 : RB (I 3 4) 30) (k : ∀ I' J', Off 41 I J I' J' → RB (I' 41 3) 30 → Q I' J') : wcV S (d + 3) 52 [.ref 41, .long p, .long q] x I J Q := by
  have z : ∀ (I1 : rI0) (J1 : rJ0), Off 41 I J I1 J1 → RB (I1 41 3) 30 → wp S (d + 3) 52 72 [some (.ref 41), some (.long p), none, some (.long q), none] [] (wv x I1 J1) (rV x Q) := by
    intro I1 J1 o1 n1
    have r4 : RB (I1 4 0) 8 := by rw [o1.1 4 (by decide)]; exact h4
    refine v52_41_72 (doCuesA_41 n1 (fun r I2 J2 hr o2 n2 => seeRowsA_41 ?_ (fun J3 o3 => standingA_41 (fun v => ?_))))
    · rw [o2.1 4 (by decide)]
      exact r4
    · exact k _ _ ((o1.tr o2).tr (o3.tr (Off.sj.tr (Off.sj.tr (Off.sj.tr Off.sj))))) n2
  refine c52_41 (lastEventA h4 h3 (fun v => ⟨fun _ => z _ _ ?_ ⟨0, by omega, rfl⟩, fun _ => z _ _ ?_ ⟨0, by omega, rfl⟩⟩))
  · exact ⟨mSet_off (mSet_off (mSet_off (mSet_off (mSet_off (fun b _ => rfl))))), mSet_off (mSet_off (mSet_off (fun b _ => rfl)))⟩
  · exact ⟨mSet_off (mSet_off (mSet_off (mSet_off (fun b _ => rfl)))), mSet_off (mSet_off (mSet_off (fun b _ => rfl)))⟩

theorem move_lpA_42 {l1 l3 l5 l7 : Int64} {Q : rI0 → rJ0 → Prop} (k : ∀ J', Off 42 I J I J' → Q I J') : ∀ (m c : Nat) (l9 l11 : Int64), c + m = 6 → wp S (d + 21) 59 27 [some (.ref 42), some (.long l1), none, some (.long l3), none, some (.long l5), none, some (.long l7), none, some (.long l9), none, some (.long l11), none, some (.int (nI c)), none, none, none, none, none] [] (wv x I J) (rV x Q) := by
  intro m
  induction m with
  | zero =>
    intro c l9 l11 hc
    have hc : c = 6 := by omega
    subst hc
    exact v59_42_27 ⟨fun q => absurd q (by decide), fun _ => k _ (Off.sj.tr Off.sj)⟩
  | succ m ih =>
    intro c l9 l11 hc
    have z : ∀ u v, wp S (d + 21) 59 27 [some (.ref 42), some (.long l1), none, some (.long l3), none, some (.long l5), none, some (.long l7), none, some (.long u), none, some (.long v), none, some (.int (nI c + 1)), none, none, none, none, none] [] (wv x I J) (rV x Q) := fun u v => by
      rw [← nI_succ]
      exact ih (c + 1) u v (by omega)
    refine v59_42_27 ⟨fun _ => ⟨nI_in (by omega) (by omega), fun _ => z _ _, fun _ => ⟨?_, joinedA_42 ?_ (fun r1 => ⟨?_, joinedA_42 ?_ (fun r2 => z _ _)⟩)⟩⟩, fun q => absurd (nI_lt (by omega) (by omega) : nI c < nI 6) q⟩
    · show ¬ mOut (nI 2 * nI c) 12
      rw [nI_mu]
      exact nI_in (by omega) (by omega)
    · show RB (nI 2 * nI c * nI 20) 100000
      rw [nI_mu, nI_mu]
      exact ⟨_, by omega, rfl⟩
    · show ¬ mOut (nI 2 * nI c + nI 1) 12
      rw [nI_mu, nI_add]
      exact nI_in (by omega) (by omega)
    · show RB ((nI 2 * nI c + nI 1) * nI 20) 100000
      rw [nI_mu, nI_add, nI_mu]
      exact ⟨_, by omega, rfl⟩
theorem moveA_42 {p1 p2 p3 : Int64} {Q : rI0 → rJ0 → Prop} (k : ∀ J', Off 42 I J I J' → Q I J') : wcV S (d + 21) 59 [.ref 42, .long p1, .long p2, .long p3] x I J Q := c59_42 (move_lpA_42 k 6 0 _ _ rfl)
theorem hold65_42 {l1 l3 l5 : Int64} {s0 : Int32} {Q : rI0 → rJ0 → Prop} (k : ∀ I' J', Off 42 I J I' J' → I' 42 3 = I 42 3 → Q I' J') : wp S d 60 65 [some (.ref 42), some (.long l1), none, some (.long l3), none, some (.long l5), none, none] [.int s0] (wv x I J) (rV x Q) := by
  have z : ∀ v, Q (mSet I 42 12 v) (mSet (mSet J 42 10 l3) 42 11 l5) := fun v => k _ _ (Off.si.tr (Off.sj.tr Off.sj)) rfl
  exact v60_42_65 ⟨fun _ => z _, fun _ => ⟨fun _ => z _, fun _ => z _⟩⟩
theorem holdSA_42 {p : Int64} {Q : rI0 → rJ0 → Prop} (k : ∀ I' J', Off 42 I J I' J' → I' 42 3 = I 42 3 → Q I' J') : wcV S d 60 [.ref 42, .long p] x I J Q :=
  c60_42 ⟨fun _ => ⟨fun _ => ⟨fun _ => hold65_42 k, fun _ => hold65_42 k⟩, fun _ => hold65_42 k⟩, fun _ => hold65_42 k⟩
theorem step127_42 {l1 : Int32} {l2 l4 l6 l8 : Int64} {Q : rI0 → rJ0 → Prop} (h : RB (I 42 3) 30) (k : ∀ I' J', Off 42 I J I' J' → RB (I' 42 3) 30 → Q I' J') : wp S (d + 22) 55 127 [some (.ref 42), some (.int l1), some (.long l2), none, some (.long l4), none, some (.long l6), none, some (.long l8), none, none] [] (wv x I J) (rV x Q) :=
  v55_42_127 (holdSA_42 (fun I1 J1 o1 e1 => k I1 J1 o1 (e1 ▸ h)))
theorem step76_42 {l1 : Int32} {l2 l4 l6 l8 : Int64} {R : Nat} {Q : rI0 → rJ0 → Prop} (hR : R ≤ 8) (h4 : I 4 0 = nI R) (h : RB (I 42 3) 30) : ∀ (m c : Nat) (J : rJ0), c + m = R → (∀ I' J', Off 42 I J I' J' → RB (I' 42 3) 30 → Q I' J') → wp S (d + 22) 55 76 [some (.ref 42), some (.int l1), some (.long l2), none, some (.long l4), none, some (.long l6), none, some (.long l8), none, some (.int (nI c))] [] (wv x I J) (rV x Q) := by
  intro m
  induction m with
  | zero =>
    intro c J hc k
    exact v55_42_76 ⟨fun q => absurd q (by rw [h4]; exact nI_nlt (by omega) (by omega)), fun _ => step127_42 h k⟩
  | succ m ih =>
    intro c J hc k
    refine v55_42_76 ⟨fun _ => rsA (fun v => moveA_42 (fun J1 o1 => ?_)), fun q => absurd (by rw [h4]; exact nI_lt (by omega) (by omega)) q⟩
    rw [← nI_succ]
    exact ih (c + 1) J1 (by omega) (fun I' J' o2 e2 => k I' J' (o1.tr o2) e2)
theorem stepA_42 {Q : rI0 → rJ0 → Prop} (h4 : RB (I 4 0) 8) (h : RB (I 42 3) 30) (k : ∀ I' J', Off 42 I J I' J' → RB (I' 42 3) 30 → Q I' J') : wcV S (d + 22) 55 [.ref 42] x I J Q := by
  refine c55_42 (doCuesA_42 h (fun r I1 J1 hr o1 n1 => seeRowsA_42 ?_ (fun J2 o2 => standingA_42 (fun v => ?_))))
  · rw [o1.1 4 (by decide)]
    exact h4
  have r4 : RB (I1 4 0) 8 := by rw [o1.1 4 (by decide)]; exact h4
  have o12 : Off 42 I J I1 J2 := (Off.si.tr o1).tr o2
  have z : ∀ s0 : Int64, wp S (d + 22) 55 49 [some (.ref 42), some (.int r), some (.long v), none, none, none, none, none, none, none, none] [.long s0] (wv x I1 J2) (rV x Q) := by
    intro s0
    refine v55_42_49 ⟨fun _ => moveA_42 (fun J3 o3 => step127_42 n1 (fun I' J' o4 e4 => k I' J' (o12.tr (o3.tr o4)) e4)), fun _ => ?_⟩
    obtain ⟨R, hR, e⟩ := r4
    exact step76_42 hR e n1 R 0 J2 (by omega) (fun I' J' o4 e4 => k I' J' (o12.tr o4) e4)
  exact ⟨fun _ => z _, fun _ => z _⟩
theorem beginA_42 {p q : Int64} {Q : rI0 → rJ0 → Prop} (h4 : RB (I 4 0) 8) (h3 : RB (I 3 4) 30) (k : ∀ I' J', Off 42 I J I' J' → RB (I' 42 3) 30 → Q I' J') : wcV S (d + 3) 52 [.ref 42, .long p, .long q] x I J Q := by
  have z : ∀ (I1 : rI0) (J1 : rJ0), Off 42 I J I1 J1 → RB (I1 42 3) 30 → wp S (d + 3) 52 72 [some (.ref 42), some (.long p), none, some (.long q), none] [] (wv x I1 J1) (rV x Q) := by
    intro I1 J1 o1 n1
    have r4 : RB (I1 4 0) 8 := by rw [o1.1 4 (by decide)]; exact h4
    refine v52_42_72 (doCuesA_42 n1 (fun r I2 J2 hr o2 n2 => seeRowsA_42 ?_ (fun J3 o3 => standingA_42 (fun v => ?_))))
    · rw [o2.1 4 (by decide)]
      exact r4
    · exact k _ _ ((o1.tr o2).tr (o3.tr (Off.sj.tr (Off.sj.tr (Off.sj.tr Off.sj))))) n2
  refine c52_42 (lastEventA h4 h3 (fun v => ⟨fun _ => z _ _ ?_ ⟨0, by omega, rfl⟩, fun _ => z _ _ ?_ ⟨0, by omega, rfl⟩⟩))
  · exact ⟨mSet_off (mSet_off (mSet_off (mSet_off (mSet_off (fun b _ => rfl))))), mSet_off (mSet_off (mSet_off (fun b _ => rfl)))⟩
  · exact ⟨mSet_off (mSet_off (mSet_off (mSet_off (fun b _ => rfl)))), mSet_off (mSet_off (mSet_off (fun b _ => rfl)))⟩

theorem goTo_lpA_41 {l1 : Int32} {Q : rI0 → rJ0 → Prop} : ∀ (m : Nat) (l2 : Int32) (I : rI0) (J : rJ0), l1.toInt - l2.toInt ≤ (m : Int) → RB (I 4 0) 8 → RB (I 41 3) 30 → (∀ I' J', Off 41 I J I' J' → RB (I' 41 3) 30 → Q I' J') → wp S (d + 23) 53 5 [some (.ref 41), some (.int l1), some (.int l2)] [] (wv x I J) (rV x Q) := by
  intro m
  induction m with
  | zero =>
    intro l2 I J hm h4 h k
    exact v53_41_5 ⟨fun q => absurd q (by rw [Int32.lt_iff_toInt_lt]; omega), fun _ => k I J Off.rf h⟩
  | succ m ih =>
    intro l2 I J hm h4 h k
    refine v53_41_5 ⟨fun q => ⟨fun _ => stepA_41 h4 h (fun I1 J1 o1 n1 => ?_), fun _ => k I J Off.rf h⟩, fun _ => k I J Off.rf h⟩
    exact ih (l2 + 1) I1 J1 (by rw [t_inc q]; omega) (by rw [o1.1 4 (by decide)]; exact h4) n1 (fun I' J' o2 n2 => k I' J' (o1.tr o2) n2)
theorem goToA_41 {t : Int32} {Q : rI0 → rJ0 → Prop} (h4 : RB (I 4 0) 8) (h : RB (I 41 3) 30) (k : ∀ I' J', Off 41 I J I' J' → RB (I' 41 3) 30 → Q I' J') : wcV S (d + 23) 53 [.ref 41, .int t] x I J Q :=
  c53_41 (goTo_lpA_41 (t.toInt - (I 41 2).toInt).toNat _ I J (by omega) h4 h k)

theorem goTo_lpA_42 {l1 : Int32} {Q : rI0 → rJ0 → Prop} : ∀ (m : Nat) (l2 : Int32) (I : rI0) (J : rJ0), l1.toInt - l2.toInt ≤ (m : Int) → RB (I 4 0) 8 → RB (I 42 3) 30 → (∀ I' J', Off 42 I J I' J' → RB (I' 42 3) 30 → Q I' J') → wp S (d + 23) 53 5 [some (.ref 42), some (.int l1), some (.int l2)] [] (wv x I J) (rV x Q) := by
  intro m
  induction m with
  | zero =>
    intro l2 I J hm h4 h k
    exact v53_42_5 ⟨fun q => absurd q (by rw [Int32.lt_iff_toInt_lt]; omega), fun _ => k I J Off.rf h⟩
  | succ m ih =>
    intro l2 I J hm h4 h k
    refine v53_42_5 ⟨fun q => ⟨fun _ => stepA_42 h4 h (fun I1 J1 o1 n1 => ?_), fun _ => k I J Off.rf h⟩, fun _ => k I J Off.rf h⟩
    exact ih (l2 + 1) I1 J1 (by rw [t_inc q]; omega) (by rw [o1.1 4 (by decide)]; exact h4) n1 (fun I' J' o2 n2 => k I' J' (o1.tr o2) n2)
theorem goToA_42 {t : Int32} {Q : rI0 → rJ0 → Prop} (h4 : RB (I 4 0) 8) (h : RB (I 42 3) 30) (k : ∀ I' J', Off 42 I J I' J' → RB (I' 42 3) 30 → Q I' J') : wcV S (d + 23) 53 [.ref 42, .int t] x I J Q :=
  c53_42 (goTo_lpA_42 (t.toInt - (I 42 2).toInt).toNat _ I J (by omega) h4 h k)

theorem height_lpA {l1 l3 : Int64} {l5 : Int32} {Q : Int32 → rI0 → rJ0 → Prop} : ∀ (m c : Nat) (l6 : Int32) (I : rI0) (J : rJ0), c + m = 61 → RB (I 4 0) 8 → RB (I 41 3) 30 → (∀ v I' J', Off 41 I J I' J' → RB (I' 41 3) 30 → Q v I' J') → wp S (d + 23) 54 18 [some (.ref 41), some (.long l1), none, some (.long l3), none, some (.int l5), some (.int l6), some (.int (nI c))] [] (wv x I J) (rI x Q) := by
  intro m
  induction m with
  | zero =>
    intro c l6 I J hc h4 h k
    have hc : c = 61 := by omega
    subst hc
    exact v54_41_18 ⟨fun _ => k _ I J Off.rf h, fun q => absurd (by decide) q⟩
  | succ m ih =>
    intro c l6 I J hc h4 h k
    refine v54_41_18 ⟨fun q => absurd q (nI_nlt (a := 60) (by omega) (by omega)), fun _ => ⟨fun _ => ⟨fun _ => stepA_41 h4 h (fun I1 J1 o1 n1 => bcA (fun v => ?_)), fun _ => k _ I J Off.rf h⟩, fun _ => k _ I J Off.rf h⟩⟩
    rw [← nI_succ]
    exact ih (c + 1) _ I1 J1 (by omega) (by rw [o1.1 4 (by decide)]; exact h4) n1 (fun v I' J' o2 n2 => k v I' J' (o1.tr o2) n2)
theorem heightOfA {p q : Int64} {e : Int32} {Q : Int32 → rI0 → rJ0 → Prop} (h4 : RB (I 4 0) 8) (h3 : RB (I 3 4) 30) (k : ∀ v I' J', Off 41 I J I' J' → RB (I' 41 3) 30 → Q v I' J') : wcI S (d + 23) 54 [.ref 41, .long p, .long q, .int e] x I J Q :=
  c54_41 (beginA_41 (d := d + 19) h4 h3 (fun I1 J1 o1 n1 => bcA (fun v => height_lpA 60 1 _ I1 J1 rfl (by rw [o1.1 4 (by decide)]; exact h4) n1 (fun v I' J' o2 n2 => k v I' J' (o1.tr o2) n2))))
end CS
end
section
section CD
variable {S : Nat × (Nat → Int32)} {d : Nat} {x : mX} {I : rI0} {J : rJ0}
/-- what the diary asks -/
def DB (I : rI0) : Prop := RB (I 31 6) 601 ∧ RB (I 36 3) 30 ∧ RB (I 4 0) 8 ∧ RB (I 3 4) 30
theorem keepA {K : Nat} {Q : rI0 → rJ0 → Prop} (hK : K ≤ 600) (h : I 31 6 = nI K) (k : ∀ J', OffD I J (mSet I 31 6 (nI (K + 1))) J' → J' 36 = J 36 → Q (mSet I 31 6 (nI (K + 1))) J') : wcV S d 8 [.ref 31] x I J Q := by
  have hin : ¬ mOut (I 31 6) 601 := by rw [h]; exact nI_in (by omega) (by omega)
  refine c8_31 ⟨fun q => absurd q (by rw [h]; exact nI_nlt (a := 600) (by omega) (by omega)), fun _ => ⟨hin, hin, hin, hin, ?_⟩⟩
  rw [h, ← nI_succ]
  refine k _ ⟨fun a ha => mSet_ne (by omega), fun a ha => ?_⟩ ?_
  · rw [mSet_ne (by omega), mSet_ne (by omega), mSet_ne (by omega), mSet_ne (by omega)]
  · rw [mSet_ne (by omega), mSet_ne (by omega), mSet_ne (by omega), mSet_ne (by omega)]
theorem reach_res {K : Nat} {l1 : Int32} (h1 : 1 ≤ K) (h2 : K ≤ 601) : RB (if 0 < (if (nI K - 1) < l1 then nI K - 1 else l1) then if (nI K - 1) < l1 then nI K - 1 else l1 else 0) 600 := by
  obtain ⟨c, rfl⟩ : ∃ c, K = c + 1 := ⟨K - 1, by omega⟩
  rw [nI_pred]
  by_cases h : nI c < l1
  · rw [if_pos h]
    by_cases z : (0 : Int32) < nI c
    · rw [if_pos z]
      exact ⟨c, by omega, rfl⟩
    · rw [if_neg z]
      exact ⟨0, by omega, rfl⟩
  · rw [if_neg h]
    by_cases z : (0 : Int32) < l1
    · rw [if_pos z]
      obtain ⟨u, hu, e⟩ := i_nat (l := l1) (n := c) (by omega) (fun q => by
        rw [Int32.lt_iff_toInt_lt] at q z
        omega) h
      exact ⟨u, by omega, e⟩
    · rw [if_neg z]
      exact ⟨0, by omega, rfl⟩
theorem reach_lpA {l1 : Int32} {Q : Int32 → rI0 → rJ0 → Prop} : ∀ (m K : Nat) (I : rI0) (J : rJ0), K + m = 601 → 1 ≤ K → I 31 6 = nI K → RB (I 36 3) 30 → RB (I 4 0) 8 → (∀ r I' J', RB r 600 → OffD I J I' J' → RB (I' 31 6) 601 → RB (I' 36 3) 30 → Q r I' J') → wp S (d + 23) 7 37 [some (.ref 31), some (.int l1), some (.int (nI K))] [] (wv x I J) (rI x Q) := by
  intro m
  induction m with
  | zero =>
    intro K I J hm hK h6 h3 h4 k
    have e := k _ I J (reach_res (l1 := l1) hK (by omega)) OffD.rf ⟨K, by omega, h6⟩ h3
    rw [← h6] at e
    exact v7_31_37 ⟨fun _ => e, fun _ => ⟨fun _ => e, fun q => absurd (nI_lt (a := 600) (by omega) (by omega)) q⟩⟩
  | succ m ih =>
    intro K I J hm hK h6 h3 h4 k
    have e := k _ I J (reach_res (l1 := l1) hK (by omega)) OffD.rf ⟨K, by omega, h6⟩ h3
    rw [← h6] at e
    refine v7_31_37 ⟨fun _ => e, fun _ => ⟨fun _ => e, fun _ => ⟨fun _ => stepA_36 h4 h3 (fun I1 J1 o1 n1 => ?_), fun _ => e⟩⟩⟩
    refine keepA (K := K) (by omega) ((congrFun (o1.1 31 (by decide)) 6).trans h6) (fun J2 o2 e2 => ?_)
    rw [← nI_succ]
    exact ih (K + 1) _ J2 (by omega) (by omega) rfl n1 (by show RB (I1 4 0) 8; rw [o1.1 4 (by decide)]; exact h4) (fun r I' J' hr o3 a3 b3 => k r I' J' hr ((OffD.of o1).tr (o2.tr o3)) a3 b3)
theorem reachA {t : Int32} {Q : Int32 → rI0 → rJ0 → Prop} (h : DB I) (k : ∀ r I' J', RB r 600 → OffD I J I' J' → DB I' → Q r I' J') : wcI S (d + 23) 7 [.ref 31, .int t] x I J Q := by
  obtain ⟨⟨K, hK, e6⟩, h3, h4, h5⟩ := h
  have k' : ∀ r I' J', RB r 600 → OffD I J I' J' → RB (I' 31 6) 601 → RB (I' 36 3) 30 → Q r I' J' := fun r I' J' hr ho a1 b1 => k r I' J' hr ho ⟨a1, b1, by rw [ho.1 4 (by omega)]; exact h4, by rw [ho.1 3 (by omega)]; exact h5⟩
  refine c7_31 ⟨fun h0 => beginA_36 (d := d + 19) h4 h5 (fun I1 J1 o1 n1 => ?_), fun h0 => ?_⟩
  · refine keepA (K := 0) (by omega) ((congrFun (o1.1 31 (by decide)) 6).trans h0) (fun J2 o2 e2 => ?_)
    exact reach_lpA 600 1 _ J2 rfl (by omega) rfl n1 (by show RB (I1 4 0) 8; rw [o1.1 4 (by decide)]; exact h4) (fun r I' J' hr o3 a3 b3 => k' r I' J' hr ((OffD.of o1).tr (o2.tr o3)) a3 b3)
  · rw [e6]
    refine reach_lpA (601 - K) K I J (by omega) ?_ e6 h3 h4 k'
    rcases K with _ | K
    · exact absurd e6 h0
    · omega
theorem isUpA {p : Int32} {Q : Int32 → rI0 → rJ0 → Prop} (h : RB (I 31 6) 601) (k : ∀ r, (r = 0 ∨ r = 1) → Q r I J) : wcI S (d + 1) 9 [.ref 31, .int p] x I J Q := by
  refine c9_31 ⟨fun _ => k 0 (Or.inl rfl), fun h0 => ⟨fun h1 => ⟨?_, bcA (fun v => ⟨fun _ => k 0 (Or.inl rfl), fun _ => k 1 (Or.inr rfl)⟩)⟩, fun _ => k 0 (Or.inl rfl)⟩⟩
  obtain ⟨K, hK, e⟩ := h
  rw [e] at h1
  obtain ⟨u, hu, eu⟩ := i_nat (l := p) (n := K) (by omega) h0 (fun q => by
    rw [Int32.lt_iff_toInt_lt] at q h1
    omega)
  rw [eu] at h1 ⊢
  rcases Nat.lt_or_ge u K with z | z
  · exact nI_in (by omega) (by omega)
  · exact absurd h1 (nI_nlt z (by omega))
theorem heightD_lpA {Q : Int32 → rI0 → rJ0 → Prop} : ∀ (m c : Nat) (l1 : Int32) (I : rI0) (J : rJ0), c + m = 61 → DB I → (∀ v I' J', OffD I J I' J' → DB I' → Q v I' J') → wp S (d + 24) 10 4 [some (.ref 31), some (.int l1), some (.int (nI c))] [] (wv x I J) (rI x Q) := by
  intro m
  induction m with
  | zero =>
    intro c l1 I J hc h k
    have hc : c = 61 := by omega
    subst hc
    exact v10_31_4 ⟨fun _ => k _ I J OffD.rf h, fun q => absurd (by decide) q⟩
  | succ m ih =>
    intro c l1 I J hc h k
    refine v10_31_4 ⟨fun q => absurd q (nI_nlt (a := 60) (by omega) (by omega)), fun _ => reachA h (fun r I1 J1 hr o1 d1 => ⟨hr.mo (by omega) (by omega), bcA (fun v => ?_)⟩)⟩
    rw [← nI_succ]
    exact ih (c + 1) _ I1 J1 (by omega) d1 (fun v I' J' o2 d2 => k v I' J' (o1.tr o2) d2)
theorem heightDA {Q : Int32 → rI0 → rJ0 → Prop} (h : DB I) (k : ∀ v I' J', OffD I J I' J' → DB I' → Q v I' J') : wcI S (d + 24) 10 [.ref 31] x I J Q := c10_31 (heightD_lpA 61 0 _ I J rfl h k)
theorem alikeDA {p q : Int32} {Q : Int32 → rI0 → rJ0 → Prop} (hp : RB p 600) (hq : RB q 600) (k : ∀ r, (r = 0 ∨ r = 1) → Q r I J) : wcI S d 12 [.ref 31, .int p, .int q] x I J Q := by
  have hp := hp.mo (m := 601) (by omega) (by omega)
  have hq := hq.mo (m := 601) (by omega) (by omega)
  have k0 := k 0 (Or.inl rfl)
  exact c12_31 ⟨hp, hq, fun _ => ⟨hp, hq, fun _ => ⟨hp, hq, fun _ => ⟨hp, hq, fun _ => k 1 (Or.inr rfl), fun _ => k0⟩, fun _ => k0⟩, fun _ => k0⟩, fun _ => k0⟩
theorem like_lpA {l1 l2 : Int32} {Q : Int32 → rI0 → rJ0 → Prop} (h2 : RB l2 600) : ∀ (m c : Nat) (I : rI0) (J : rJ0), c + m = 601 → DB I → (∀ v I' J', OffD I J I' J' → DB I' → Q v I' J') → wp S (d + 24) 11 10 [some (.ref 31), some (.int l1), some (.int l2), some (.int (nI c)), none] [] (wv x I J) (rI x Q) := by
  intro m
  induction m with
  | zero =>
    intro c I J hc h k
    have hc : c = 601 := by omega
    subst hc
    exact v11_31_10 ⟨fun _ => k _ I J OffD.rf h, fun q => absurd (by decide) q⟩
  | succ m ih =>
    intro c I J hc h k
    refine v11_31_10 ⟨fun q => absurd q (nI_nlt (a := 600) (by omega) (by omega)), fun _ => reachA h (fun r I1 J1 hr o1 d1 => alikeDA h2 hr (fun r2 _ => ⟨fun _ => ⟨fun _ => k _ I1 J1 o1 d1, fun _ => ?_⟩, fun _ => k _ I1 J1 o1 d1⟩))⟩
    rw [← nI_succ]
    exact ih (c + 1) I1 J1 (by omega) d1 (fun v I' J' o2 d2 => k v I' J' (o1.tr o2) d2)
theorem likeBehindA {c : Nat} {Q : Int32 → rI0 → rJ0 → Prop} (hc : c ≤ 600) (h : DB I) (k : ∀ v I' J', OffD I J I' J' → DB I' → Q v I' J') : wcI S (d + 24) 11 [.ref 31, .int (nI c)] x I J Q := by
  refine c11_31 (reachA h (fun r I1 J1 hr o1 d1 => ?_))
  rw [← nI_succ]
  exact like_lpA hr (600 - c) (c + 1) I1 J1 (by omega) d1 (fun v I' J' o2 d2 => k v I' J' (o1.tr o2) d2)
end CD
end
section
/-! ===== Int64 as a set of bits: test, set, clear ===== -/
theorem ts_nf {x : Bool} (h : ¬ x = false) : x = true := by cases x <;> first | rfl | exact absurd rfl h
theorem ts_nt {x : Bool} (h : ¬ x = true) : x = false := by cases x <;> first | rfl | exact absurd rfl h
theorem ts_bit {w : Int64} {s : UInt64} {j : Nat} (hj : j < 64) (hs : s.toNat = j) : ((w.toUInt64 >>> s).toInt64 &&& 1) = 0 ↔ w.toBitVec.getLsbD j = false := by
  have e : (w.toUInt64 >>> s).toInt64.toBitVec = w.toBitVec >>> j := by
    apply BitVec.eq_of_toNat_eq
    show (w.toUInt64 >>> s).toNat = _
    rw [UInt64.toNat_shiftRight, hs, Nat.mod_eq_of_lt hj, BitVec.toNat_ushiftRight]
    rfl
  rw [← Int64.toBitVec_inj, Int64.toBitVec_and, e]
  show w.toBitVec >>> j &&& 1#64 = 0#64 ↔ _
  constructor
  · intro h
    have t := congrArg (fun x => x.getLsbD 0) h
    simpa using t
  · intro h
    apply BitVec.eq_of_getLsbD_eq
    intro i hi
    cases i with
    | zero => simp [h]
    | succ i => simp
theorem ts_or {w m : Int64} {j : Nat} (hj : j < 64) (hm : m.toBitVec = BitVec.twoPow 64 j) : (w ||| m) = w ↔ w.toBitVec.getLsbD j = true := by
  rw [← Int64.toBitVec_inj, Int64.toBitVec_or, hm]
  constructor
  · intro h
    have t := congrArg (fun x => x.getLsbD j) h
    simp only [BitVec.getLsbD_or, BitVec.getLsbD_twoPow] at t
    simpa [hj] using t.symm
  · intro h
    apply BitVec.eq_of_getLsbD_eq
    intro i hi
    rw [BitVec.getLsbD_or, BitVec.getLsbD_twoPow]
    by_cases e : j = i
    · subst e; rw [h, Bool.true_or]
    · simp [e]
theorem ts_and {w m : Int64} {j : Nat} (hj : j < 64) (hm : m.toBitVec = BitVec.twoPow 64 j) : (w &&& (m ^^^ (-1))) = w ↔ w.toBitVec.getLsbD j = false := by
  have ha : (-1 : Int64).toBitVec = BitVec.allOnes 64 := by decide
  rw [← Int64.toBitVec_inj, Int64.toBitVec_and, Int64.toBitVec_xor, hm, ha]
  constructor
  · intro h
    have t := congrArg (fun x => x.getLsbD j) h
    simp only [BitVec.getLsbD_and, BitVec.getLsbD_xor, BitVec.getLsbD_twoPow, BitVec.getLsbD_allOnes] at t
    simpa [hj] using t.symm
  · intro h
    apply BitVec.eq_of_getLsbD_eq
    intro i hi
    rw [BitVec.getLsbD_and, BitVec.getLsbD_xor, BitVec.getLsbD_twoPow, BitVec.getLsbD_allOnes]
    by_cases e : j = i
    · subst e; rw [h, Bool.false_and]
    · simp [e, hi]
theorem wb_c : ∀ k, k < 64 → ((nI k).toInt64 &&& 63) = lN k := by decide +kernel
theorem wb_cu : ∀ k, k < 64 → ((nI k).toInt64.toUInt64 &&& Int64.toUInt64 63) = UInt64.ofNat k := by decide +kernel
section CH
variable {S : Nat × (Nat → Int32)} {d : Nat} {x : mX} {I : rI0} {J : rJ0}
theorem lg_z {v : Int64} : lg_cmp v 0 = 0 ↔ v = 0 := by
  constructor
  · intro h
    unfold lg_cmp at h
    split at h
    · exact absurd h (by decide)
    · split at h
      · assumption
      · exact absurd h (by decide)
  · rintro rfl
    decide
def SB (v : Int64) (s : Nat) : Prop := v.toBitVec.getLsbD s = true
theorem u64n {s : Nat} (h : s < 64) : (UInt64.ofNat s).toNat = s := by
  rw [UInt64.toNat_ofNat']
  exact Nat.mod_eq_of_lt (by omega)
theorem lt_nat {p : Int32} {n : Nat} (hn : n < 2 ^ 31) (h0 : ¬ p < 0) (h1 : p < nI n) : ∃ s, s < n ∧ p = nI s := by
  obtain ⟨s, hs, e⟩ := i_nat hn h0 (fun z => by
    rw [Int32.lt_iff_toInt_lt] at z h1
    omega)
  rcases Nat.lt_or_ge s n with q | q
  · exact ⟨s, q, e⟩
  · rw [e] at h1
    exact absurd h1 (nI_nlt q (by omega))

theorem isSeatA_4 {p : Int32} {Q : Int32 → rI0 → rJ0 → Prop} (k0 : Q 0 I J) (k1 : ∀ s, s < 64 → p = nI s → SB (J 4 5) s → Q 1 I J) : wcI S d 24 [.ref 4, .int p] x I J Q := by
  refine c24_4 ⟨fun _ => k0, fun h0 => ⟨fun h1 => ⟨fun _ => k0, fun hb => ?_⟩, fun _ => k0⟩⟩
  obtain ⟨s, hs, e⟩ := lt_nat (n := 64) (by omega) h0 h1
  refine k1 s hs e ?_
  rw [e, wb_cu s hs] at hb
  exact ts_nf (fun hf => hb (lg_z.mpr ((ts_bit hs (u64n hs)).mpr hf)))
theorem rowOfA_4 {p : Int32} {Q : Int32 → rI0 → rJ0 → Prop} (h0 : RB (I 4 0) 8) (h1 : RB (I 4 1) 8) (k : ∀ r, RB r 7 → Q r I J) : wcI S (d + 1) 25 [.ref 4, .int p] x I J Q := by
  have k0 : Q 0 I J := k 0 ⟨0, by omega, rfl⟩
  obtain ⟨R, hR, eR⟩ := h0
  obtain ⟨C, hC, eC⟩ := h1
  have hRC : R * C ≤ 64 := Nat.le_trans (Nat.mul_le_mul hR hC) (by omega)
  refine c25_4 ⟨fun hc => ⟨fun _ => k0, fun hp => c23_4 ⟨fun hl => ⟨?_, ?_⟩, fun _ => k0⟩⟩, fun _ => k0⟩
  · intro z
    rw [z] at hc
    exact absurd hc (by decide)
  · rw [eR, eC, nI_mu] at hl
    rw [eC] at hc ⊢
    obtain ⟨u, hu, e⟩ := lt_nat (n := R * C) (by omega) hp hl
    have h0C : 0 < C := by
      rcases C with _ | C
      · exact absurd hc (by decide)
      · omega
    rw [e, pk_div (by omega) h0C (by omega)]
    have : u / C < R := Nat.div_lt_of_lt_mul (by rw [Nat.mul_comm]; exact hu)
    exact k _ ⟨u / C, by omega, rfl⟩
theorem setKind_lp_4 {l1 l2 : Int32} {t : Nat} {Q : rI0 → rJ0 → Prop} (ht : t < 64) (e : l1 = nI t) : ∀ (m c : Nat) (J : rJ0), c + m = 6 → (∀ J', (∀ b, b ≠ 6 → J' b = J b) → Q (mSet I 5 t l2) J') → wp S (d + 1) 31 2 [some (.ref 4), some (.int l1), some (.int l2), some (.int (nI c))] [] (wv x I J) (rV x Q) := by
  intro m
  induction m with
  | zero =>
    intro c J hc k
    have hc : c = 6 := by omega
    subst hc
    refine v31_4_2 ⟨fun q => absurd q (by decide), fun _ => ?_⟩
    rw [e]
    refine ⟨nI_in ht (by omega), ?_⟩
    rw [nI_clamp (by omega)]
    exact k J (fun _ _ => rfl)
  | succ m ih =>
    intro c J hc k
    have hin : ¬ mOut (nI c) 6 := nI_in (by omega) (by omega)
    refine v31_4_2 ⟨fun _ => ⟨hin, fun _ => wbA (fun v => ⟨hin, ?_⟩), fun _ => wbA (fun v => ⟨hin, ?_⟩)⟩, fun q => absurd (nI_lt (by omega) (by omega) : nI c < nI 6) q⟩
    · rw [← nI_succ]
      exact ih (c + 1) _ (by omega) (fun J' o => k J' (fun b hb => (o b hb).trans (mSet_ne hb)))
    · rw [← nI_succ]
      exact ih (c + 1) _ (by omega) (fun J' o => k J' (fun b hb => (o b hb).trans (mSet_ne hb)))
theorem setKindA_4 {p1 p2 : Int32} {t : Nat} {Q : rI0 → rJ0 → Prop} (ht : t < 64) (e : p1 = nI t) (k : ∀ J', (∀ b, b ≠ 6 → J' b = J b) → Q (mSet I 5 t p2) J') : wcV S (d + 1) 31 [.ref 4, .int p1, .int p2] x I J Q := c31_4 (setKind_lp_4 ht e 6 0 J rfl k)

theorem isSeatA_16 {p : Int32} {Q : Int32 → rI0 → rJ0 → Prop} (k0 : Q 0 I J) (k1 : ∀ s, s < 64 → p = nI s → SB (J 16 5) s → Q 1 I J) : wcI S d 24 [.ref 16, .int p] x I J Q := by
  refine c24_16 ⟨fun _ => k0, fun h0 => ⟨fun h1 => ⟨fun _ => k0, fun hb => ?_⟩, fun _ => k0⟩⟩
  obtain ⟨s, hs, e⟩ := lt_nat (n := 64) (by omega) h0 h1
  refine k1 s hs e ?_
  rw [e, wb_cu s hs] at hb
  exact ts_nf (fun hf => hb (lg_z.mpr ((ts_bit hs (u64n hs)).mpr hf)))
theorem rowOfA_16 {p : Int32} {Q : Int32 → rI0 → rJ0 → Prop} (h0 : RB (I 16 0) 8) (h1 : RB (I 16 1) 8) (k : ∀ r, RB r 7 → Q r I J) : wcI S (d + 1) 25 [.ref 16, .int p] x I J Q := by
  have k0 : Q 0 I J := k 0 ⟨0, by omega, rfl⟩
  obtain ⟨R, hR, eR⟩ := h0
  obtain ⟨C, hC, eC⟩ := h1
  have hRC : R * C ≤ 64 := Nat.le_trans (Nat.mul_le_mul hR hC) (by omega)
  refine c25_16 ⟨fun hc => ⟨fun _ => k0, fun hp => c23_16 ⟨fun hl => ⟨?_, ?_⟩, fun _ => k0⟩⟩, fun _ => k0⟩
  · intro z
    rw [z] at hc
    exact absurd hc (by decide)
  · rw [eR, eC, nI_mu] at hl
    rw [eC] at hc ⊢
    obtain ⟨u, hu, e⟩ := lt_nat (n := R * C) (by omega) hp hl
    have h0C : 0 < C := by
      rcases C with _ | C
      · exact absurd hc (by decide)
      · omega
    rw [e, pk_div (by omega) h0C (by omega)]
    have : u / C < R := Nat.div_lt_of_lt_mul (by rw [Nat.mul_comm]; exact hu)
    exact k _ ⟨u / C, by omega, rfl⟩
theorem setKind_lp_16 {l1 l2 : Int32} {t : Nat} {Q : rI0 → rJ0 → Prop} (ht : t < 64) (e : l1 = nI t) : ∀ (m c : Nat) (J : rJ0), c + m = 6 → (∀ J', (∀ b, b ≠ 18 → J' b = J b) → Q (mSet I 17 t l2) J') → wp S (d + 1) 31 2 [some (.ref 16), some (.int l1), some (.int l2), some (.int (nI c))] [] (wv x I J) (rV x Q) := by
  intro m
  induction m with
  | zero =>
    intro c J hc k
    have hc : c = 6 := by omega
    subst hc
    refine v31_16_2 ⟨fun q => absurd q (by decide), fun _ => ?_⟩
    rw [e]
    refine ⟨nI_in ht (by omega), ?_⟩
    rw [nI_clamp (by omega)]
    exact k J (fun _ _ => rfl)
  | succ m ih =>
    intro c J hc k
    have hin : ¬ mOut (nI c) 6 := nI_in (by omega) (by omega)
    refine v31_16_2 ⟨fun _ => ⟨hin, fun _ => wbA (fun v => ⟨hin, ?_⟩), fun _ => wbA (fun v => ⟨hin, ?_⟩)⟩, fun q => absurd (nI_lt (by omega) (by omega) : nI c < nI 6) q⟩
    · rw [← nI_succ]
      exact ih (c + 1) _ (by omega) (fun J' o => k J' (fun b hb => (o b hb).trans (mSet_ne hb)))
    · rw [← nI_succ]
      exact ih (c + 1) _ (by omega) (fun J' o => k J' (fun b hb => (o b hb).trans (mSet_ne hb)))
theorem setKindA_16 {p1 p2 : Int32} {t : Nat} {Q : rI0 → rJ0 → Prop} (ht : t < 64) (e : p1 = nI t) (k : ∀ J', (∀ b, b ≠ 18 → J' b = J b) → Q (mSet I 17 t p2) J') : wcV S (d + 1) 31 [.ref 16, .int p1, .int p2] x I J Q := c31_16 (setKind_lp_16 ht e 6 0 J rfl k)

theorem priceOfA {p : Int32} {Q : Int32 → rI0 → rJ0 → Prop} (h0 : RB (I 4 0) 8) (h1 : RB (I 4 1) 8) (k : ∀ v, Q v I J) : wcI S (d + 2) 26 [.ref 4, .int p] x I J Q := c26_4 (rowOfA_4 h0 h1 (fun r hr => ⟨hr.mo (by omega) (by omega), k _⟩))
theorem leavesOfA {p : Int32} {Q : Int32 → rI0 → rJ0 → Prop} (h0 : RB (I 4 0) 8) (h1 : RB (I 4 1) 8) (k : ∀ v, Q v I J) : wcI S (d + 2) 27 [.ref 4, .int p] x I J Q := c27_4 (rowOfA_4 h0 h1 (fun r hr => ⟨hr.mo (by omega) (by omega), k _⟩))
theorem exchangeA {p1 p2 : Int32} {s t : Nat} {Q : rI0 → rJ0 → Prop} (hs : s < 64) (ht : t < 64) (e1 : p1 = nI s) (e2 : p2 = nI t) (k : ∀ J', (∀ b, b ≠ 6 → J' b = J b) → Q (mSet (mSet I 5 s (I 5 t)) 5 t (I 5 s)) J') : wcV S (d + 2) 30 [.ref 4, .int p1, .int p2] x I J Q := by
  subst e1
  subst e2
  refine c30_4 ⟨nI_in hs (by omega), nI_in ht (by omega), ?_⟩
  rw [nI_clamp (by omega), nI_clamp (by omega)]
  exact setKindA_4 hs rfl (fun J1 o1 => setKindA_4 ht rfl (fun J2 o2 => k J2 (fun b hb => (o2 b hb).trans (o1 b hb))))
end CH
end
