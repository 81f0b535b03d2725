section CS
variable {S : Nat × (Nat → Int32)} {d : Nat} {x : mX} {I : rI0} {J : rJ0}
theorem t_inc {p q : Int32} (h : p < q) : (p + 1).toInt = p.toInt + 1 := by
  rw [Int32.lt_iff_toInt_lt] at h
  have h1 := Int32.toInt_lt q
  have h2 := Int32.le_toInt p
  have e : (1 : Int32).toInt = 1 := by decide
  rw [Int32.toInt_add, e]
  exact Int.bmod_eq_of_le (by omega) (by omega)
theorem leavesA_lp {R : Nat} {Q : Int32 → rI0 → rJ0 → Prop} (hR : R ≤ 8) (h4 : I 4 0 = nI R) (k : ∀ v, Q v I J) : ∀ (m c : Nat) (l1 : Int32), c + m = R → wp S (d + 1) 29 4 [some (.ref 4), some (.int l1), some (.int (nI c))] [] (wv x I J) (rI x Q) := by
  intro m
  induction m with
  | zero =>
    intro c l1 hc
    exact v29_4_4 ⟨fun q => absurd q (by rw [h4]; exact nI_nlt (by omega) (by omega)), fun _ => k _⟩
  | succ m ih =>
    intro c l1 hc
    refine v29_4_4 ⟨fun _ => ⟨nI_in (by omega) (by omega), ?_⟩, fun q => absurd (by rw [h4]; exact nI_lt (by omega) (by omega)) q⟩
    rw [← nI_succ]
    exact ih (c + 1) _ (by omega)
theorem lastLeavesA {Q : Int32 → rI0 → rJ0 → Prop} (h : RB (I 4 0) 8) (k : ∀ v, Q v I J) : wcI S (d + 1) 29 [.ref 4] x I J Q := by
  obtain ⟨R, hR, e⟩ := h
  exact c29_4 (leavesA_lp hR e k R 0 _ (by omega))
theorem lastEventA {Q : Int32 → rI0 → rJ0 → Prop} (h : RB (I 4 0) 8) (h3 : RB (I 3 4) 30) (k : ∀ v, Q v I J) : wcI S (d + 2) 17 [.ref 3] x I J Q := by
  refine c17_3 ⟨fun h0 => ⟨fun _ => lastLeavesA h (fun v => k _), fun _ => ⟨?_, lastLeavesA h (fun v => k _)⟩⟩, fun _ => lastLeavesA h (fun v => k _)⟩
  obtain ⟨c, hc, e⟩ := h3
  rw [e] at h0 ⊢
  rcases c with _ | c
  · exact absurd h0 (by decide)
  · rw [nI_pred]
    exact nI_in (by omega) (by omega)

theorem move_lpA_36 {l1 l3 l5 l7 : Int64} {Q : rI0 → rJ0 → Prop} (k : ∀ J', Off 36 I J I J' → Q I J') : ∀ (m c : Nat) (l9 l11 : Int64), c + m = 6 → wp S (d + 21) 59 27 [some (.ref 36), some (.long l1), none, some (.long l3), none, some (.long l5), none, some (.long l7), none, some (.long l9), none, some (.long l11), none, some (.int (nI c)), none, none, none, none, none] [] (wv x I J) (rV x Q) := by
  intro m
  induction m with
  | zero =>
    intro c l9 l11 hc
    have hc : c = 6 := by omega
    subst hc
    exact v59_36_27 ⟨fun q => absurd q (by decide), fun _ => k _ (Off.sj.tr Off.sj)⟩
  | succ m ih =>
    intro c l9 l11 hc
    have z : ∀ u v, wp S (d + 21) 59 27 [some (.ref 36), some (.long l1), none, some (.long l3), none, some (.long l5), none, some (.long l7), none, some (.long u), none, some (.long v), none, some (.int (nI c + 1)), none, none, none, none, none] [] (wv x I J) (rV x Q) := fun u v => by
      rw [← nI_succ]
      exact ih (c + 1) u v (by omega)
    refine v59_36_27 ⟨fun _ => ⟨nI_in (by omega) (by omega), fun _ => z _ _, fun _ => ⟨?_, joinedA_36 ?_ (fun r1 => ⟨?_, joinedA_36 ?_ (fun r2 => z _ _)⟩)⟩⟩, fun q => absurd (nI_lt (by omega) (by omega) : nI c < nI 6) q⟩
    · show ¬ mOut (nI 2 * nI c) 12
      rw [nI_mu]
      exact nI_in (by omega) (by omega)
    · show RB (nI 2 * nI c * nI 20) 100000
      rw [nI_mu, nI_mu]
      exact ⟨_, by omega, rfl⟩
    · show ¬ mOut (nI 2 * nI c + nI 1) 12
      rw [nI_mu, nI_add]
      exact nI_in (by omega) (by omega)
    · show RB ((nI 2 * nI c + nI 1) * nI 20) 100000
      rw [nI_mu, nI_add, nI_mu]
      exact ⟨_, by omega, rfl⟩
theorem moveA_36 {p1 p2 p3 : Int64} {Q : rI0 → rJ0 → Prop} (k : ∀ J', Off 36 I J I J' → Q I J') : wcV S (d + 21) 59 [.ref 36, .long p1, .long p2, .long p3] x I J Q := c59_36 (move_lpA_36 k 6 0 _ _ rfl)
theorem hold65_36 {l1 l3 l5 : Int64} {s0 : Int32} {Q : rI0 → rJ0 → Prop} (k : ∀ I' J', Off 36 I J I' J' → I' 36 3 = I 36 3 → Q I' J') : wp S d 60 65 [some (.ref 36), some (.long l1), none, some (.long l3), none, some (.long l5), none, none] [.int s0] (wv x I J) (rV x Q) := by
  have z : ∀ v, Q (mSet I 36 12 v) (mSet (mSet J 36 10 l3) 36 11 l5) := fun v => k _ _ (Off.si.tr (Off.sj.tr Off.sj)) rfl
  exact v60_36_65 ⟨fun _ => z _, fun _ => ⟨fun _ => z _, fun _ => z _⟩⟩
theorem holdSA_36 {p : Int64} {Q : rI0 → rJ0 → Prop} (k : ∀ I' J', Off 36 I J I' J' → I' 36 3 = I 36 3 → Q I' J') : wcV S d 60 [.ref 36, .long p] x I J Q :=
  c60_36 ⟨fun _ => ⟨fun _ => ⟨fun _ => hold65_36 k, fun _ => hold65_36 k⟩, fun _ => hold65_36 k⟩, fun _ => hold65_36 k⟩
theorem step127_36 {l1 : Int32} {l2 l4 l6 l8 : Int64} {Q : rI0 → rJ0 → Prop} (h : RB (I 36 3) 30) (k : ∀ I' J', Off 36 I J I' J' → RB (I' 36 3) 30 → Q I' J') : wp S (d + 22) 55 127 [some (.ref 36), some (.int l1), some (.long l2), none, some (.long l4), none, some (.long l6), none, some (.long l8), none, none] [] (wv x I J) (rV x Q) :=
  v55_36_127 (holdSA_36 (fun I1 J1 o1 e1 => k I1 J1 o1 (e1 ▸ h)))
theorem step76_36 {l1 : Int32} {l2 l4 l6 l8 : Int64} {R : Nat} {Q : rI0 → rJ0 → Prop} (hR : R ≤ 8) (h4 : I 4 0 = nI R) (h : RB (I 36 3) 30) : ∀ (m c : Nat) (J : rJ0), c + m = R → (∀ I' J', Off 36 I J I' J' → RB (I' 36 3) 30 → Q I' J') → wp S (d + 22) 55 76 [some (.ref 36), some (.int l1), some (.long l2), none, some (.long l4), none, some (.long l6), none, some (.long l8), none, some (.int (nI c))] [] (wv x I J) (rV x Q) := by
  intro m
  induction m with
  | zero =>
    intro c J hc k
    exact v55_36_76 ⟨fun q => absurd q (by rw [h4]; exact nI_nlt (by omega) (by omega)), fun _ => step127_36 h k⟩
  | succ m ih =>
    intro c J hc k
    refine v55_36_76 ⟨fun _ => rsA (fun v => moveA_36 (fun J1 o1 => ?_)), fun q => absurd (by rw [h4]; exact nI_lt (by omega) (by omega)) q⟩
    rw [← nI_succ]
    exact ih (c + 1) J1 (by omega) (fun I' J' o2 e2 => k I' J' (o1.tr o2) e2)
theorem stepA_36 {Q : rI0 → rJ0 → Prop} (h4 : RB (I 4 0) 8) (h : RB (I 36 3) 30) (k : ∀ I' J', Off 36 I J I' J' → RB (I' 36 3) 30 → Q I' J') : wcV S (d + 22) 55 [.ref 36] x I J Q := by
  refine c55_36 (doCuesA_36 h (fun r I1 J1 hr o1 n1 => seeRowsA_36 ?_ (fun J2 o2 => standingA_36 (fun v => ?_))))
  · rw [o1.1 4 (by decide)]
    exact h4
  have r4 : RB (I1 4 0) 8 := by rw [o1.1 4 (by decide)]; exact h4
  have o12 : Off 36 I J I1 J2 := (Off.si.tr o1).tr o2
  have z : ∀ s0 : Int64, wp S (d + 22) 55 49 [some (.ref 36), some (.int r), some (.long v), none, none, none, none, none, none, none, none] [.long s0] (wv x I1 J2) (rV x Q) := by
    intro s0
    refine v55_36_49 ⟨fun _ => moveA_36 (fun J3 o3 => step127_36 n1 (fun I' J' o4 e4 => k I' J' (o12.tr (o3.tr o4)) e4)), fun _ => ?_⟩
    obtain ⟨R, hR, e⟩ := r4
    exact step76_36 hR e n1 R 0 J2 (by omega) (fun I' J' o4 e4 => k I' J' (o12.tr o4) e4)
  exact ⟨fun _ => z _, fun _ => z _⟩
theorem beginA_36 {p q : Int64} {Q : rI0 → rJ0 → Prop} (h4 : RB (I 4 0) 8) (h3 : RB (I 3 4) 30) (k : ∀ I' J', Off 36 I J I' J' → RB (I' 36 3) 30 → Q I' J') : wcV S (d + 3) 52 [.ref 36, .long p, .long q] x I J Q := by
  have z : ∀ (I1 : rI0) (J1 : rJ0), Off 36 I J I1 J1 → RB (I1 36 3) 30 → wp S (d + 3) 52 72 [some (.ref 36), some (.long p), none, some (.long q), none] [] (wv x I1 J1) (rV x Q) := by
    intro I1 J1 o1 n1
    have r4 : RB (I1 4 0) 8 := by rw [o1.1 4 (by decide)]; exact h4
    refine v52_36_72 (doCuesA_36 n1 (fun r I2 J2 hr o2 n2 => seeRowsA_36 ?_ (fun J3 o3 => standingA_36 (fun v => ?_))))
    · rw [o2.1 4 (by decide)]
      exact r4
    · exact k _ _ ((o1.tr o2).tr (o3.tr (Off.sj.tr (Off.sj.tr (Off.sj.tr Off.sj))))) n2
  refine c52_36 (lastEventA h4 h3 (fun v => ⟨fun _ => z _ _ ?_ ⟨0, by omega, rfl⟩, fun _ => z _ _ ?_ ⟨0, by omega, rfl⟩⟩))
  · exact ⟨mSet_off (mSet_off (mSet_off (mSet_off (mSet_off (fun b _ => rfl))))), mSet_off (mSet_off (mSet_off (fun b _ => rfl)))⟩
  · exact ⟨mSet_off (mSet_off (mSet_off (mSet_off (fun b _ => rfl)))), mSet_off (mSet_off (mSet_off (fun b _ => rfl)))⟩

theorem move_lpA_41 {l1 l3 l5 l7 : Int64} {Q : rI0 → rJ0 → Prop} (k : ∀ J', Off 41 I J I J' → Q I J') : ∀ (m c : Nat) (l9 l11 : Int64), c + m = 6 → wp S (d + 21) 59 27 [some (.ref 41), some (.long l1), none, some (.long l3), none, some (.long l5), none, some (.long l7), none, some (.long l9), none, some (.long l11), none, some (.int (nI c)), none, none, none, none, none] [] (wv x I J) (rV x Q) := by
  intro m
  induction m with
  | zero =>
    intro c l9 l11 hc
    have hc : c = 6 := by omega
    subst hc
    exact v59_41_27 ⟨fun q => absurd q (by decide), fun _ => k _ (Off.sj.tr Off.sj)⟩
  | succ m ih =>
    intro c l9 l11 hc
    have z : ∀ u v, wp S (d + 21) 59 27 [some (.ref 41), some (.long l1), none, some (.long l3), none, some (.long l5), none, some (.long l7), none, some (.long u), none, some (.long v), none, some (.int (nI c + 1)), none, none, none, none, none] [] (wv x I J) (rV x Q) := fun u v => by
      rw [← nI_succ]
      exact ih (c + 1) u v (by omega)
    refine v59_41_27 ⟨fun _ => ⟨nI_in (by omega) (by omega), fun _ => z _ _, fun _ => ⟨?_, joinedA_41 ?_ (fun r1 => ⟨?_, joinedA_41 ?_ (fun r2 => z _ _)⟩)⟩⟩, fun q => absurd (nI_lt (by omega) (by omega) : nI c < nI 6) q⟩
    · show ¬ mOut (nI 2 * nI c) 12
      rw [nI_mu]
      exact nI_in (by omega) (by omega)
    · show RB (nI 2 * nI c * nI 20) 100000
      rw [nI_mu, nI_mu]
      exact ⟨_, by omega, rfl⟩
    · show ¬ mOut (nI 2 * nI c + nI 1) 12
      rw [nI_mu, nI_add]
      exact nI_in (by omega) (by omega)
    · show RB ((nI 2 * nI c + nI 1) * nI 20) 100000
      rw [nI_mu, nI_add, nI_mu]
      exact ⟨_, by omega, rfl⟩
theorem moveA_41 {p1 p2 p3 : Int64} {Q : rI0 → rJ0 → Prop} (k : ∀ J', Off 41 I J I J' → Q I J') : wcV S (d + 21) 59 [.ref 41, .long p1, .long p2, .long p3] x I J Q := c59_41 (move_lpA_41 k 6 0 _ _ rfl)
theorem hold65_41 {l1 l3 l5 : Int64} {s0 : Int32} {Q : rI0 → rJ0 → Prop} (k : ∀ I' J', Off 41 I J I' J' → I' 41 3 = I 41 3 → Q I' J') : wp S d 60 65 [some (.ref 41), some (.long l1), none, some (.long l3), none, some (.long l5), none, none] [.int s0] (wv x I J) (rV x Q) := by
  have z : ∀ v, Q (mSet I 41 12 v) (mSet (mSet J 41 10 l3) 41 11 l5) := fun v => k _ _ (Off.si.tr (Off.sj.tr Off.sj)) rfl
  exact v60_41_65 ⟨fun _ => z _, fun _ => ⟨fun _ => z _, fun _ => z _⟩⟩
theorem holdSA_41 {p : Int64} {Q : rI0 → rJ0 → Prop} (k : ∀ I' J', Off 41 I J I' J' → I' 41 3 = I 41 3 → Q I' J') : wcV S d 60 [.ref 41, .long p] x I J Q :=
  c60_41 ⟨fun _ => ⟨fun _ => ⟨fun _ => hold65_41 k, fun _ => hold65_41 k⟩, fun _ => hold65_41 k⟩, fun _ => hold65_41 k⟩
theorem step127_41 {l1 : Int32} {l2 l4 l6 l8 : Int64} {Q : rI0 → rJ0 → Prop} (h : RB (I 41 3) 30) (k : ∀ I' J', Off 41 I J I' J' → RB (I' 41 3) 30 → Q I' J') : wp S (d + 22) 55 127 [some (.ref 41), some (.int l1), some (.long l2), none, some (.long l4), none, some (.long l6), none, some (.long l8), none, none] [] (wv x I J) (rV x Q) :=
  v55_41_127 (holdSA_41 (fun I1 J1 o1 e1 => k I1 J1 o1 (e1 ▸ h)))
theorem step76_41 {l1 : Int32} {l2 l4 l6 l8 : Int64} {R : Nat} {Q : rI0 → rJ0 → Prop} (hR : R ≤ 8) (h4 : I 4 0 = nI R) (h : RB (I 41 3) 30) : ∀ (m c : Nat) (J : rJ0), c + m = R → (∀ I' J', Off 41 I J I' J' → RB (I' 41 3) 30 → Q I' J') → wp S (d + 22) 55 76 [some (.ref 41), some (.int l1), some (.long l2), none, some (.long l4), none, some (.long l6), none, some (.long l8), none, some (.int (nI c))] [] (wv x I J) (rV x Q) := by
  intro m
  induction m with
  | zero =>
    intro c J hc k
    exact v55_41_76 ⟨fun q => absurd q (by rw [h4]; exact nI_nlt (by omega) (by omega)), fun _ => step127_41 h k⟩
  | succ m ih =>
    intro c J hc k
    refine v55_41_76 ⟨fun _ => rsA (fun v => moveA_41 (fun J1 o1 => ?_)), fun q => absurd (by rw [h4]; exact nI_lt (by omega) (by omega)) q⟩
    rw [← nI_succ]
    exact ih (c + 1) J1 (by omega) (fun I' J' o2 e2 => k I' J' (o1.tr o2) e2)
theorem stepA_41 {Q : rI0 → rJ0 → Prop} (h4 : RB (I 4 0) 8) (h : RB (I 41 3) 30) (k : ∀ I' J', Off 41 I J I' J' → RB (I' 41 3) 30 → Q I' J') : wcV S (d + 22) 55 [.ref 41] x I J Q := by
  refine c55_41 (doCuesA_41 h (fun r I1 J1 hr o1 n1 => seeRowsA_41 ?_ (fun J2 o2 => standingA_41 (fun v => ?_))))
  · rw [o1.1 4 (by decide)]
    exact h4
  have r4 : RB (I1 4 0) 8 := by rw [o1.1 4 (by decide)]; exact h4
  have o12 : Off 41 I J I1 J2 := (Off.si.tr o1).tr o2
  have z : ∀ s0 : Int64, wp S (d + 22) 55 49 [some (.ref 41), some (.int r), some (.long v), none, none, none, none, none, none, none, none] [.long s0] (wv x I1 J2) (rV x Q) := by
    intro s0
    refine v55_41_49 ⟨fun _ => moveA_41 (fun J3 o3 => step127_41 n1 (fun I' J' o4 e4 => k I' J' (o12.tr (o3.tr o4)) e4)), fun _ => ?_⟩
    obtain ⟨R, hR, e⟩ := r4
    exact step76_41 hR e n1 R 0 J2 (by omega) (fun I' J' o4 e4 => k I' J' (o12.tr o4) e4)
  exact ⟨fun _ => z _, fun _ => z _⟩
theorem beginA_41 {p q : Int64} {Q : rI0 → rJ0 → Prop} (h4 : RB (I 4 0) 8) (h3 : RB (I 3 4) 30) (k : ∀ I' J', Off 41 I J I' J' → RB (I' 41 3) 30 → Q I' J') : wcV S (d + 3) 52 [.ref 41, .long p, .long q] x I J Q := by
  have z : ∀ (I1 : rI0) (J1 : rJ0), Off 41 I J I1 J1 → RB (I1 41 3) 30 → wp S (d + 3) 52 72 [some (.ref 41), some (.long p), none, some (.long q), none] [] (wv x I1 J1) (rV x Q) := by
    intro I1 J1 o1 n1
    have r4 : RB (I1 4 0) 8 := by rw [o1.1 4 (by decide)]; exact h4
    refine v52_41_72 (doCuesA_41 n1 (fun r I2 J2 hr o2 n2 => seeRowsA_41 ?_ (fun J3 o3 => standingA_41 (fun v => ?_))))
    · rw [o2.1 4 (by decide)]
      exact r4
    · exact k _ _ ((o1.tr o2).tr (o3.tr (Off.sj.tr (Off.sj.tr (Off.sj.tr Off.sj))))) n2
  refine c52_41 (lastEventA h4 h3 (fun v => ⟨fun _ => z _ _ ?_ ⟨0, by omega, rfl⟩, fun _ => z _ _ ?_ ⟨0, by omega, rfl⟩⟩))
  · exact ⟨mSet_off (mSet_off (mSet_off (mSet_off (mSet_off (fun b _ => rfl))))), mSet_off (mSet_off (mSet_off (fun b _ => rfl)))⟩
  · exact ⟨mSet_off (mSet_off (mSet_off (mSet_off (fun b _ => rfl)))), mSet_off (mSet_off (mSet_off (fun b _ => rfl)))⟩

theorem move_lpA_42 {l1 l3 l5 l7 : Int64} {Q : rI0 → rJ0 → Prop} (k : ∀ J', Off 42 I J I J' → Q I J') : ∀ (m c : Nat) (l9 l11 : Int64), c + m = 6 → wp S (d + 21) 59 27 [some (.ref 42), some (.long l1), none, some (.long l3), none, some (.long l5), none, some (.long l7), none, some (.long l9), none, some (.long l11), none, some (.int (nI c)), none, none, none, none, none] [] (wv x I J) (rV x Q) := by
  intro m
  induction m with
  | zero =>
    intro c l9 l11 hc
    have hc : c = 6 := by omega
    subst hc
    exact v59_42_27 ⟨fun q => absurd q (by decide), fun _ => k _ (Off.sj.tr Off.sj)⟩
  | succ m ih =>
    intro c l9 l11 hc
    have z : ∀ u v, wp S (d + 21) 59 27 [some (.ref 42), some (.long l1), none, some (.long l3), none, some (.long l5), none, some (.long l7), none, some (.long u), none, some (.long v), none, some (.int (nI c + 1)), none, none, none, none, none] [] (wv x I J) (rV x Q) := fun u v => by
      rw [← nI_succ]
      exact ih (c + 1) u v (by omega)
    refine v59_42_27 ⟨fun _ => ⟨nI_in (by omega) (by omega), fun _ => z _ _, fun _ => ⟨?_, joinedA_42 ?_ (fun r1 => ⟨?_, joinedA_42 ?_ (fun r2 => z _ _)⟩)⟩⟩, fun q => absurd (nI_lt (by omega) (by omega) : nI c < nI 6) q⟩
    · show ¬ mOut (nI 2 * nI c) 12
      rw [nI_mu]
      exact nI_in (by omega) (by omega)
    · show RB (nI 2 * nI c * nI 20) 100000
      rw [nI_mu, nI_mu]
      exact ⟨_, by omega, rfl⟩
    · show ¬ mOut (nI 2 * nI c + nI 1) 12
      rw [nI_mu, nI_add]
      exact nI_in (by omega) (by omega)
    · show RB ((nI 2 * nI c + nI 1) * nI 20) 100000
      rw [nI_mu, nI_add, nI_mu]
      exact ⟨_, by omega, rfl⟩
theorem moveA_42 {p1 p2 p3 : Int64} {Q : rI0 → rJ0 → Prop} (k : ∀ J', Off 42 I J I J' → Q I J') : wcV S (d + 21) 59 [.ref 42, .long p1, .long p2, .long p3] x I J Q := c59_42 (move_lpA_42 k 6 0 _ _ rfl)
theorem hold65_42 {l1 l3 l5 : Int64} {s0 : Int32} {Q : rI0 → rJ0 → Prop} (k : ∀ I' J', Off 42 I J I' J' → I' 42 3 = I 42 3 → Q I' J') : wp S d 60 65 [some (.ref 42), some (.long l1), none, some (.long l3), none, some (.long l5), none, none] [.int s0] (wv x I J) (rV x Q) := by
  have z : ∀ v, Q (mSet I 42 12 v) (mSet (mSet J 42 10 l3) 42 11 l5) := fun v => k _ _ (Off.si.tr (Off.sj.tr Off.sj)) rfl
  exact v60_42_65 ⟨fun _ => z _, fun _ => ⟨fun _ => z _, fun _ => z _⟩⟩
theorem holdSA_42 {p : Int64} {Q : rI0 → rJ0 → Prop} (k : ∀ I' J', Off 42 I J I' J' → I' 42 3 = I 42 3 → Q I' J') : wcV S d 60 [.ref 42, .long p] x I J Q :=
  c60_42 ⟨fun _ => ⟨fun _ => ⟨fun _ => hold65_42 k, fun _ => hold65_42 k⟩, fun _ => hold65_42 k⟩, fun _ => hold65_42 k⟩
theorem step127_42 {l1 : Int32} {l2 l4 l6 l8 : Int64} {Q : rI0 → rJ0 → Prop} (h : RB (I 42 3) 30) (k : ∀ I' J', Off 42 I J I' J' → RB (I' 42 3) 30 → Q I' J') : wp S (d + 22) 55 127 [some (.ref 42), some (.int l1), some (.long l2), none, some (.long l4), none, some (.long l6), none, some (.long l8), none, none] [] (wv x I J) (rV x Q) :=
  v55_42_127 (holdSA_42 (fun I1 J1 o1 e1 => k I1 J1 o1 (e1 ▸ h)))
theorem step76_42 {l1 : Int32} {l2 l4 l6 l8 : Int64} {R : Nat} {Q : rI0 → rJ0 → Prop} (hR : R ≤ 8) (h4 : I 4 0 = nI R) (h : RB (I 42 3) 30) : ∀ (m c : Nat) (J : rJ0), c + m = R → (∀ I' J', Off 42 I J I' J' → RB (I' 42 3) 30 → Q I' J') → wp S (d + 22) 55 76 [some (.ref 42), some (.int l1), some (.long l2), none, some (.long l4), none, some (.long l6), none, some (.long l8), none, some (.int (nI c))] [] (wv x I J) (rV x Q) := by
  intro m
  induction m with
  | zero =>
    intro c J hc k
    exact v55_42_76 ⟨fun q => absurd q (by rw [h4]; exact nI_nlt (by omega) (by omega)), fun _ => step127_42 h k⟩
  | succ m ih =>
    intro c J hc k
    refine v55_42_76 ⟨fun _ => rsA (fun v => moveA_42 (fun J1 o1 => ?_)), fun q => absurd (by rw [h4]; exact nI_lt (by omega) (by omega)) q⟩
    rw [← nI_succ]
    exact ih (c + 1) J1 (by omega) (fun I' J' o2 e2 => k I' J' (o1.tr o2) e2)
theorem stepA_42 {Q : rI0 → rJ0 → Prop} (h4 : RB (I 4 0) 8) (h : RB (I 42 3) 30) (k : ∀ I' J', Off 42 I J I' J' → RB (I' 42 3) 30 → Q I' J') : wcV S (d + 22) 55 [.ref 42] x I J Q := by
  refine c55_42 (doCuesA_42 h (fun r I1 J1 hr o1 n1 => seeRowsA_42 ?_ (fun J2 o2 => standingA_42 (fun v => ?_))))
  · rw [o1.1 4 (by decide)]
    exact h4
  have r4 : RB (I1 4 0) 8 := by rw [o1.1 4 (by decide)]; exact h4
  have o12 : Off 42 I J I1 J2 := (Off.si.tr o1).tr o2
  have z : ∀ s0 : Int64, wp S (d + 22) 55 49 [some (.ref 42), some (.int r), some (.long v), none, none, none, none, none, none, none, none] [.long s0] (wv x I1 J2) (rV x Q) := by
    intro s0
    refine v55_42_49 ⟨fun _ => moveA_42 (fun J3 o3 => step127_42 n1 (fun I' J' o4 e4 => k I' J' (o12.tr (o3.tr o4)) e4)), fun _ => ?_⟩
    obtain ⟨R, hR, e⟩ := r4
    exact step76_42 hR e n1 R 0 J2 (by omega) (fun I' J' o4 e4 => k I' J' (o12.tr o4) e4)
  exact ⟨fun _ => z _, fun _ => z _⟩
theorem beginA_42 {p q : Int64} {Q : rI0 → rJ0 → Prop} (h4 : RB (I 4 0) 8) (h3 : RB (I 3 4) 30) (k : ∀ I' J', Off 42 I J I' J' → RB (I' 42 3) 30 → Q I' J') : wcV S (d + 3) 52 [.ref 42, .long p, .long q] x I J Q := by
  have z : ∀ (I1 : rI0) (J1 : rJ0), Off 42 I J I1 J1 → RB (I1 42 3) 30 → wp S (d + 3) 52 72 [some (.ref 42), some (.long p), none, some (.long q), none] [] (wv x I1 J1) (rV x Q) := by
    intro I1 J1 o1 n1
    have r4 : RB (I1 4 0) 8 := by rw [o1.1 4 (by decide)]; exact h4
    refine v52_42_72 (doCuesA_42 n1 (fun r I2 J2 hr o2 n2 => seeRowsA_42 ?_ (fun J3 o3 => standingA_42 (fun v => ?_))))
    · rw [o2.1 4 (by decide)]
      exact r4
    · exact k _ _ ((o1.tr o2).tr (o3.tr (Off.sj.tr (Off.sj.tr (Off.sj.tr Off.sj))))) n2
  refine c52_42 (lastEventA h4 h3 (fun v => ⟨fun _ => z _ _ ?_ ⟨0, by omega, rfl⟩, fun _ => z _ _ ?_ ⟨0, by omega, rfl⟩⟩))
  · exact ⟨mSet_off (mSet_off (mSet_off (mSet_off (mSet_off (fun b _ => rfl))))), mSet_off (mSet_off (mSet_off (fun b _ => rfl)))⟩
  · exact ⟨mSet_off (mSet_off (mSet_off (mSet_off (fun b _ => rfl)))), mSet_off (mSet_off (mSet_off (fun b _ => rfl)))⟩

theorem goTo_lpA_41 {l1 : Int32} {Q : rI0 → rJ0 → Prop} : ∀ (m : Nat) (l2 : Int32) (I : rI0) (J : rJ0), l1.toInt - l2.toInt ≤ (m : Int) → RB (I 4 0) 8 → RB (I 41 3) 30 → (∀ I' J', Off 41 I J I' J' → RB (I' 41 3) 30 → Q I' J') → wp S (d + 23) 53 5 [some (.ref 41), some (.int l1), some (.int l2)] [] (wv x I J) (rV x Q) := by
  intro m
  induction m with
  | zero =>
    intro l2 I J hm h4 h k
    exact v53_41_5 ⟨fun q => absurd q (by rw [Int32.lt_iff_toInt_lt]; omega), fun _ => k I J Off.rf h⟩
  | succ m ih =>
    intro l2 I J hm h4 h k
    refine v53_41_5 ⟨fun q => ⟨fun _ => stepA_41 h4 h (fun I1 J1 o1 n1 => ?_), fun _ => k I J Off.rf h⟩, fun _ => k I J Off.rf h⟩
    exact ih (l2 + 1) I1 J1 (by rw [t_inc q]; omega) (by rw [o1.1 4 (by decide)]; exact h4) n1 (fun I' J' o2 n2 => k I' J' (o1.tr o2) n2)
theorem goToA_41 {t : Int32} {Q : rI0 → rJ0 → Prop} (h4 : RB (I 4 0) 8) (h : RB (I 41 3) 30) (k : ∀ I' J', Off 41 I J I' J' → RB (I' 41 3) 30 → Q I' J') : wcV S (d + 23) 53 [.ref 41, .int t] x I J Q :=
  c53_41 (goTo_lpA_41 (t.toInt - (I 41 2).toInt).toNat _ I J (by omega) h4 h k)

theorem goTo_lpA_42 {l1 : Int32} {Q : rI0 → rJ0 → Prop} : ∀ (m : Nat) (l2 : Int32) (I : rI0) (J : rJ0), l1.toInt - l2.toInt ≤ (m : Int) → RB (I 4 0) 8 → RB (I 42 3) 30 → (∀ I' J', Off 42 I J I' J' → RB (I' 42 3) 30 → Q I' J') → wp S (d + 23) 53 5 [some (.ref 42), some (.int l1), some (.int l2)] [] (wv x I J) (rV x Q) := by
  intro m
  induction m with
  | zero =>
    intro l2 I J hm h4 h k
    exact v53_42_5 ⟨fun q => absurd q (by rw [Int32.lt_iff_toInt_lt]; omega), fun _ => k I J Off.rf h⟩
  | succ m ih =>
    intro l2 I J hm h4 h k
    refine v53_42_5 ⟨fun q => ⟨fun _ => stepA_42 h4 h (fun I1 J1 o1 n1 => ?_), fun _ => k I J Off.rf h⟩, fun _ => k I J Off.rf h⟩
    exact ih (l2 + 1) I1 J1 (by rw [t_inc q]; omega) (by rw [o1.1 4 (by decide)]; exact h4) n1 (fun I' J' o2 n2 => k I' J' (o1.tr o2) n2)
theorem goToA_42 {t : Int32} {Q : rI0 → rJ0 → Prop} (h4 : RB (I 4 0) 8) (h : RB (I 42 3) 30) (k : ∀ I' J', Off 42 I J I' J' → RB (I' 42 3) 30 → Q I' J') : wcV S (d + 23) 53 [.ref 42, .int t] x I J Q :=
  c53_42 (goTo_lpA_42 (t.toInt - (I 42 2).toInt).toNat _ I J (by omega) h4 h k)

theorem height_lpA {l1 l3 : Int64} {l5 : Int32} {Q : Int32 → rI0 → rJ0 → Prop} : ∀ (m c : Nat) (l6 : Int32) (I : rI0) (J : rJ0), c + m = 61 → RB (I 4 0) 8 → RB (I 41 3) 30 → (∀ v I' J', Off 41 I J I' J' → RB (I' 41 3) 30 → Q v I' J') → wp S (d + 23) 54 18 [some (.ref 41), some (.long l1), none, some (.long l3), none, some (.int l5), some (.int l6), some (.int (nI c))] [] (wv x I J) (rI x Q) := by
  intro m
  induction m with
  | zero =>
    intro c l6 I J hc h4 h k
    have hc : c = 61 := by omega
    subst hc
    exact v54_41_18 ⟨fun _ => k _ I J Off.rf h, fun q => absurd (by decide) q⟩
  | succ m ih =>
    intro c l6 I J hc h4 h k
    refine v54_41_18 ⟨fun q => absurd q (nI_nlt (a := 60) (by omega) (by omega)), fun _ => ⟨fun _ => ⟨fun _ => stepA_41 h4 h (fun I1 J1 o1 n1 => bcA (fun v => ?_)), fun _ => k _ I J Off.rf h⟩, fun _ => k _ I J Off.rf h⟩⟩
    rw [← nI_succ]
    exact ih (c + 1) _ I1 J1 (by omega) (by rw [o1.1 4 (by decide)]; exact h4) n1 (fun v I' J' o2 n2 => k v I' J' (o1.tr o2) n2)
theorem heightOfA {p q : Int64} {e : Int32} {Q : Int32 → rI0 → rJ0 → Prop} (h4 : RB (I 4 0) 8) (h3 : RB (I 3 4) 30) (k : ∀ v I' J', Off 41 I J I' J' → RB (I' 41 3) 30 → Q v I' J') : wcI S (d + 23) 54 [.ref 41, .long p, .long q, .int e] x I J Q :=
  c54_41 (beginA_41 (d := d + 19) h4 h3 (fun I1 J1 o1 n1 => bcA (fun v => height_lpA 60 1 _ I1 J1 rfl (by rw [o1.1 4 (by decide)]; exact h4) n1 (fun v I' J' o2 n2 => k v I' J' (o1.tr o2) n2))))
end CS
