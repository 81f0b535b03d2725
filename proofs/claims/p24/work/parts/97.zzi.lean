/-! parts with a closer frame; feed, end, law, count, side: what they leave as it was -/
section TRN
variable {S : Nat × (Nat → Int32)} {d : Nat} {x : mX} {I I' I1 I2 : rI0} {J J' J1 J2 : rJ0} {g b : Nat → Int32} {W : Nat → lV} {P H : Nat → Bool} {A p q : Int32}
def FV (I : rI0) (J : rJ0) (I' : rI0) (J' : rJ0) : Prop := (∀ b, b ≠ 41 → b ≠ 42 → I' b = I b) ∧ ∀ b, b ≠ 41 → b ≠ 42 → J' b = J b
theorem FV.rf : FV I J I J := ⟨fun _ _ _ => rfl, fun _ _ _ => rfl⟩
theorem FV.tr (h : FV I J I1 J1) (h2 : FV I1 J1 I2 J2) : FV I J I2 J2 := ⟨fun b h3 h4 => (h2.1 b h3 h4).trans (h.1 b h3 h4), fun b h3 h4 => (h2.2 b h3 h4).trans (h.2 b h3 h4)⟩
theorem F41.v (h : F41 I J I1 J1) : FV I J I1 J1 := ⟨fun b h3 _ => h.1 b h3, fun b h3 _ => h.2 b h3⟩
theorem F42.v (h : F42 I J I1 J1) : FV I J I1 J1 := ⟨fun b _ h3 => h.1 b h3, fun b _ h3 => h.2 b h3⟩
theorem CE.v (h : CE g W P H I J) (f : FV I J I1 J1) : CE g W P H I1 J1 := h.m3 (fun b h1 h2 => f.1 b (by omega) (by omega)) (fun b h1 h2 => f.2 b (by omega) (by omega))
theorem c96v {s1 s2 : Nat} {Q : Int32 → rI0 → rJ0 → Prop} (hC : CE g W P H I J) (hs1 : s1 < 64) (hs2 : s2 < 64) (h1 : seB g s1 = true) (h2 : seB g s2 = true) (k : ∀ I' J', FV I J I' J' → Q (fnI (dfB g W H s1 s2) 61 0) I' J') : wcI S (d + 23) 96 [.ref 37, .long ((1 : Int64) <<< ((nI s1).toInt64 &&& 63)), .long ((1 : Int64) <<< ((nI s2).toInt64 &&& 63))] x I J Q := by
  have lp : ∀ (l1 l3 : Int64) (j t v1 v2 : Nat) (I1 : rI0) (J1 : rJ0), t + j = 61 → v1 ≤ t → v2 ≤ t → FV I J I1 J1 → NO41 g W (fun u => decide (u = s1)) H v1 I1 J1 → NO42 g W (fun u => decide (u = s2)) H v2 I1 J1 → (∀ I' J', FV I J I' J' → Q (fnI (dfB g W H s1 s2) j t) I' J') → wp S (d + 23) 96 33 [some (.ref 37), some (.long l1), none, some (.long l3), none, some (.int (nI t))] [] (wv x I1 J1) (rI x Q) := by
    intro l1 l3 j
    induction j with
    | zero =>
      intro t v1 v2 I1 J1 ht hv1 hv2 f n1 n2 c
      exact v96_37_33 ⟨fun _ => c I1 J1 f, fun q => absurd (nI_lt (a := 60) (by omega) (by omega)) q⟩
    | succ j ih =>
      intro t v1 v2 I1 J1 ht hv1 hv2 f n1 n2 c
      have c : ∀ I' J', FV I J I' J' → Q (if dfB g W H s1 s2 t = true then nI t else fnI (dfB g W H s1 s2) j (t + 1)) I' J' := c
      have hC1 := hC.v f
      refine v96_37_33 (d := d + 22) ⟨fun q => absurd q (nI_nlt (a := 60) (by omega) (by omega)), fun _ => go_41 (d := d) hC1.1 (one_s h1) (by omega) hv1 hC1.2.1 n1 (fun I2 J2 w1 f2 hw1 n1b ev1 => ?_)⟩
      have hC2 := hC1.v f2.v
      have n2b : NO42 g W (fun u => decide (u = s2)) H v2 I2 J2 := n2.mv (f2.1 42 (by decide)) (f2.2 42 (by decide))
      refine go_42 (d := d) hC2.1 (one_s h2) (by omega) hv2 hC2.2.1 n2b (fun I3 J3 w2 f3 hw2 n2c ev2 => ?_)
      have n1c : NO41 g W (fun u => decide (u = s1)) H w1 I3 J3 := n1b.mv (f3.1 41 (by decide)) (f3.2 41 (by decide))
      have f4 : FV I J I3 J3 := (f.tr f2.v).tr f3.v
      have p1 := n1c.np
      have p2 : NP 42 J3 (nt g W (fun u => decide (u = s2)) H w2).1 (nt g W (fun u => decide (u = s2)) H w2).2 := n2c.2.2.2.2.2.2.1
      rw [ev1] at p1
      rw [ev2] at p2
      have l8 := lg_p (fun s hs => (p1 s hs).1) (fun s hs => (p2 s hs).1)
      have l9 := lg_p (fun s hs => (p1 s hs).2.1) (fun s hs => (p2 s hs).2.1)
      rw [l8, l9, ← nI_succ]
      have df : ∀ x y, eq6 (fun s => decide (1 ≤ (nt g W (fun u => decide (u = s1)) H t).1 s)) (fun s => decide (1 ≤ (nt g W (fun u => decide (u = s2)) H t).1 s)) = x → eq6 (fun s => decide (2 ≤ (nt g W (fun u => decide (u = s1)) H t).1 s)) (fun s => decide (2 ≤ (nt g W (fun u => decide (u = s2)) H t).1 s)) = y → dfB g W H s1 s2 t = !(x && y) := by
        intro x y hx hy
        unfold dfB
        rw [hx, hy]
      refine ⟨fun z => ⟨fun z2 => ?_, fun z2 => ?_⟩, fun z => ?_⟩
      · rw [df true true (eq6_t z) (eq6_t z2)] at c
        exact ih (t + 1) w1 w2 I3 J3 (by omega) (by omega) (by omega) f4 n1c n2c c
      · rw [df true false (eq6_t z) (eq6_f z2)] at c
        exact c I3 J3 f4
      · rw [df false _ (eq6_f z) rfl] at c
        exact c I3 J3 f4
  refine c96_37 (d := d + 22) (be_41 (d := d + 19) (P := fun u => decide (u = s1)) (H := H) hC.1 hC.2.1 (one_s h1) (fun u hu => b5_1 hs1) hC.2.2.2.2.1 (fun I1 J1 f1 n1 => ?_))
  have hC1 := hC.v f1.v
  refine be_42 (d := d + 19) (P := fun u => decide (u = s2)) (H := H) hC1.1 hC1.2.1 (one_s h2) (fun u hu => b5_1 hs2) hC1.2.2.2.2.1 (fun I2 J2 f2 n2 => ?_)
  exact lp _ _ 61 0 0 0 I2 J2 (by omega) (by omega) (by omega) (f1.v.tr f2.v) (n1.mv (f2.1 41 (by decide)) (f2.2 41 (by decide))) n2 k
theorem xPartv {p1 p2 : Int32} {Q : Int32 → rI0 → rJ0 → Prop} (hC : CE g W P H I J) (k : ∀ I' J', FV I J I' J' → Q (partsV g W H p1 p2) I' J') : wcI S (d + 24) 129 [.ref 0, .int p1, .int p2] x I J Q := by
  have no : (seI g p1 && seI g p2) = false → Q (-1) I J := by
    intro h
    have kk := k I J FV.rf
    unfold partsV at kk
    rw [h] at kk
    exact kk
  refine c129_0 (d := d + 23) (cIs hC.2.1.2.2.2.2.1 (fun s1 hs1 es1 hse1 hsi1 => ⟨fun z => absurd z (by decide), fun _ => cIs hC.2.1.2.2.2.2.1 (fun s2 hs2 es2 hse2 hsi2 => ⟨fun z => absurd z (by decide), fun _ => ?_⟩) (fun hsi => ⟨fun _ => no (by rw [hsi, Bool.and_false]), fun z => absurd rfl z⟩)⟩) (fun hsi => ⟨fun _ => no (by rw [hsi, Bool.false_and]), fun z => absurd rfl z⟩))
  subst es1
  subst es2
  refine c96v (d := d) hC hs1 hs2 hse1 hse2 (fun I' J' f => ?_)
  have kk := k I' J' f
  unfold partsV at kk
  rw [hsi1, hsi2, if_pos (show (true && true) = true from rfl), nI_tn (by omega), nI_tn (by omega)] at kk
  exact kk
theorem lawCx (h1 : 0 ≤ p.toInt ∧ p.toInt < 6 ∧ 0 ≤ q.toInt ∧ q.toInt ≤ 1 → A = I 9 ((2 : Int32) * p + q).toNatClampNeg) (h0 : ¬ (0 ≤ p.toInt ∧ p.toInt < 6 ∧ 0 ≤ q.toInt ∧ q.toInt ≤ 1) → A = -1) : wcI S d 104 [.ref 0, .int p, .int q] x I J (fun v I1 J1 => v = A ∧ I1 = I ∧ J1 = J) := by
  have l0 : (0 : Int32).toInt = 0 := by decide
  have l1 : (1 : Int32).toInt = 1 := by decide
  have l2 : (2 : Int32).toInt = 2 := by decide
  have l6 : (6 : Int32).toInt = 6 := by decide
  refine c104_0 ⟨fun z => ⟨(h0 (fun c => by have := i_lt z; omega)).symm, rfl, rfl⟩, fun z0 => ⟨fun z1 => ⟨fun y => ⟨(h0 (fun c => by have := i_lt y; omega)).symm, rfl, rfl⟩, fun y0 => ⟨fun y => ⟨(h0 (fun c => by have := i_lt y; omega)).symm, rfl, rfl⟩, fun y1 => ?_⟩⟩, fun z => ⟨(h0 (fun c => by have := i_nlt z; omega)).symm, rfl, rfl⟩⟩⟩
  have z0 := i_nlt z0
  have z1 := i_lt z1
  have y0 := i_nlt y0
  have y1 := i_nlt y1
  have m := i_mul (a := 2) (b := p) l2 rfl (by omega)
  have s := i_add (b := q) m rfl (by omega)
  exact ⟨i_in s (by omega), (h1 ⟨by omega, by omega, by omega, by omega⟩).symm, rfl, rfl⟩
theorem lawRf {p q : Int32} : wcI S (d + 1) 189 [.ref 43, .int p, .int q] x I' J' (fun _ I2 J2 => I2 = mSet I' 43 0 0 ∧ J2 = J') := by
  have l0 : (0 : Int32).toInt = 0 := by decide
  have l1 : (1 : Int32).toInt = 1 := by decide
  have l2 : (2 : Int32).toInt = 2 := by decide
  have l5 : (5 : Int32).toInt = 5 := by decide
  have l42 : (42 : Int32).toInt = 42 := by decide
  have l86 : (86 : Int32).toInt = 86 := by decide
  refine c189_43 (c151 ⟨fun z => ⟨fun _ => ⟨rfl, rfl⟩, fun z => absurd rfl z⟩, fun z0 => ⟨fun z => ⟨fun _ => ⟨rfl, rfl⟩, fun z => absurd rfl z⟩, fun z1 => ⟨fun z => absurd z (by decide), fun _ => c151 ⟨fun z => ⟨fun _ => ⟨rfl, rfl⟩, fun z => absurd rfl z⟩, fun y0 => ⟨fun z => ⟨fun _ => ⟨rfl, rfl⟩, fun z => absurd rfl z⟩, fun y1 => ⟨fun z => absurd z (by decide), fun _ => ?_⟩⟩⟩⟩⟩⟩)
  have z0 := i_nlt z0
  have z1 := i_nlt z1
  have y0 := i_nlt y0
  have y1 := i_nlt y1
  have m := i_mul (a := 2) (b := p) l2 rfl (by omega)
  have s := i_add (b := q) m rfl (by omega)
  have m2 := i_mul (a := 42) l42 s (by omega)
  have s2 := i_add (a := 86) l86 m2 (by omega)
  exact ⟨i_in s2 (by omega), fun _ => ⟨rfl, rfl⟩, fun _ => ⟨rfl, rfl⟩⟩
/-- what feed of the reference leaves as it was -/
def FF (I : rI0) (I' : rI0) : Prop := (∀ b, b ≠ 43 → b ≠ 44 → I' b = I b) ∧ ∀ q, q ≠ 0 → q ≠ 2 → I' 43 q = I 43 q
theorem FF.tr (h : FF I I1) (h2 : FF I1 I2) : FF I I2 := ⟨fun b h3 h4 => (h2.1 b h3 h4).trans (h.1 b h3 h4), fun q h3 h4 => (h2.2 q h3 h4).trans (h.2 q h3 h4)⟩
theorem FF.s {a c : Nat} {v w : Int32} (hc : c = 2 ∨ c = 0) : FF I (mSet (mSet I 44 a v) 43 c w) := ⟨fun b h1 h2 => by rw [mSet_ne h1, mSet_ne h2], fun q h1 h2 => by rw [mS_nk (by omega), mSet_ne (by decide)]⟩
theorem f148 {l1 l2 : Int32} {n : Nat} {Q : rI0 → rJ0 → Prop} (hl : ¬ l2 < 0) (hn : n < 940) (e : I 43 2 = nI n) (k : ∀ I', FF I I' → I' 43 2 = nI (n + 1) → wp S d 148 3 [some (.ref 43), some (.int l1), some (.int (l2 + -8))] [] (wv x I' J) (rV x Q)) : wp S d 148 3 [some (.ref 43), some (.int l1), some (.int l2)] [] (wv x I J) (rV x Q) :=
  v148_43_3 ⟨fun q => absurd q hl, fun _ => ⟨by rw [e]; exact nI_in hn (by omega), k _ (FF.s (Or.inl rfl)) (by rw [mSet_at, e, nI_succ])⟩⟩
theorem f4 {p1 : Int32} {n : Nat} {Q : rI0 → rJ0 → Prop} (hn : n + 4 ≤ 940) (e : I 43 2 = nI n) (k : ∀ I', FF I I' → I' 43 2 = nI (n + 4) → Q I' J) : wcV S d 148 [.ref 43, .int p1] x I J Q :=
  c148_43 (f148 (by decide) (by omega) e (fun I1 h1 e1 => f148 (by decide) (by omega) e1 (fun I2 h2 e2 => f148 (by decide) (by omega) e2 (fun I3 h3 e3 => f148 (by decide) (by omega) e3 (fun I4 h4 e4 => v148_43_3 ⟨fun _ => k _ (((h1.tr h2).tr h3).tr h4) e4, fun q => absurd (by decide) q⟩)))))
theorem yFeedF {p1 p2 p3 p4 p5 : Int32} {n : Nat} (e : I 43 2 = nI n) (hn : n ≤ 940) : wcI S (d + 1) 147 [.ref 43, .int p1, .int p2, .int p3, .int p4, .int p5] x I J (fun _ I2 J2 => FF I I2 ∧ J2 = J) := by
  have l9 : (940 : Int32).toInt = 940 := by decide
  have f0 : FF I (mSet I 43 0 0) := ⟨fun b h1 _ => mSet_ne h1, fun q h1 _ => mS_nk h1⟩
  have e0 : mSet I 43 0 0 43 2 = nI n := by rw [mS_nk (by decide)]; exact e
  refine c147_43 ⟨fun _ => ⟨f0, rfl⟩, fun q => ?_⟩
  have q := i_nlt q
  rw [e, show (20 : Int32) = nI 20 from rfl, nI_add, nI_toInt (by omega), l9] at q
  exact f4 (by omega) e0 (fun I1 h1 e1 => f4 (by omega) e1 (fun I2 h2 e2 => f4 (by omega) e2 (fun I3 h3 e3 => f4 (by omega) e3 (fun I4 h4 e4 => f4 (by omega) e4 (fun I5 h5 _ => ⟨((((f0.tr h1).tr h2).tr h3).tr h4).tr h5, rfl⟩)))))
/-! count -/
def cntR (I : rI0) (J : rJ0) (p V : Int32) : Prop := ((p.toInt < 0 ∨ 9 < p.toInt) → V = -1) ∧ (p.toInt = 0 → V = I 4 0) ∧ (p.toInt = 1 → V = I 4 1) ∧ (p.toInt = 2 → V = nI (pc (J 4 5))) ∧ (p.toInt = 3 → V = I 4 2) ∧ (p.toInt = 4 → V = I 4 3) ∧ (p.toInt = 5 → V = if I 4 4 = 0 then 0 else 1) ∧ (p.toInt = 6 → V = nI (pc (J 3 5))) ∧ (p.toInt = 7 → V = nI (pc (J 3 6))) ∧ (p.toInt = 8 → V = I 1 1) ∧ (p.toInt = 9 → V = I 3 4)
theorem cnt_x (p : Int32) : ∃ V, cntR I J p V := by
  by_cases c0 : p.toInt = 0
  · exact ⟨I 4 0, by unfold cntR; refine ⟨fun _ => ?_, fun _ => ?_, fun _ => ?_, fun _ => ?_, fun _ => ?_, fun _ => ?_, fun _ => ?_, fun _ => ?_, fun _ => ?_, fun _ => ?_, fun _ => ?_⟩ <;> first | rfl | omega⟩
  by_cases c1 : p.toInt = 1
  · exact ⟨I 4 1, by unfold cntR; refine ⟨fun _ => ?_, fun _ => ?_, fun _ => ?_, fun _ => ?_, fun _ => ?_, fun _ => ?_, fun _ => ?_, fun _ => ?_, fun _ => ?_, fun _ => ?_, fun _ => ?_⟩ <;> first | rfl | omega⟩
  by_cases c2 : p.toInt = 2
  · exact ⟨nI (pc (J 4 5)), by unfold cntR; refine ⟨fun _ => ?_, fun _ => ?_, fun _ => ?_, fun _ => ?_, fun _ => ?_, fun _ => ?_, fun _ => ?_, fun _ => ?_, fun _ => ?_, fun _ => ?_, fun _ => ?_⟩ <;> first | rfl | omega⟩
  by_cases c3 : p.toInt = 3
  · exact ⟨I 4 2, by unfold cntR; refine ⟨fun _ => ?_, fun _ => ?_, fun _ => ?_, fun _ => ?_, fun _ => ?_, fun _ => ?_, fun _ => ?_, fun _ => ?_, fun _ => ?_, fun _ => ?_, fun _ => ?_⟩ <;> first | rfl | omega⟩
  by_cases c4 : p.toInt = 4
  · exact ⟨I 4 3, by unfold cntR; refine ⟨fun _ => ?_, fun _ => ?_, fun _ => ?_, fun _ => ?_, fun _ => ?_, fun _ => ?_, fun _ => ?_, fun _ => ?_, fun _ => ?_, fun _ => ?_, fun _ => ?_⟩ <;> first | rfl | omega⟩
  by_cases c5 : p.toInt = 5
  · exact ⟨if I 4 4 = 0 then 0 else 1, by unfold cntR; refine ⟨fun _ => ?_, fun _ => ?_, fun _ => ?_, fun _ => ?_, fun _ => ?_, fun _ => ?_, fun _ => ?_, fun _ => ?_, fun _ => ?_, fun _ => ?_, fun _ => ?_⟩ <;> first | rfl | omega⟩
  by_cases c6 : p.toInt = 6
  · exact ⟨nI (pc (J 3 5)), by unfold cntR; refine ⟨fun _ => ?_, fun _ => ?_, fun _ => ?_, fun _ => ?_, fun _ => ?_, fun _ => ?_, fun _ => ?_, fun _ => ?_, fun _ => ?_, fun _ => ?_, fun _ => ?_⟩ <;> first | rfl | omega⟩
  by_cases c7 : p.toInt = 7
  · exact ⟨nI (pc (J 3 6)), by unfold cntR; refine ⟨fun _ => ?_, fun _ => ?_, fun _ => ?_, fun _ => ?_, fun _ => ?_, fun _ => ?_, fun _ => ?_, fun _ => ?_, fun _ => ?_, fun _ => ?_, fun _ => ?_⟩ <;> first | rfl | omega⟩
  by_cases c8 : p.toInt = 8
  · exact ⟨I 1 1, by unfold cntR; refine ⟨fun _ => ?_, fun _ => ?_, fun _ => ?_, fun _ => ?_, fun _ => ?_, fun _ => ?_, fun _ => ?_, fun _ => ?_, fun _ => ?_, fun _ => ?_, fun _ => ?_⟩ <;> first | rfl | omega⟩
  by_cases c9 : p.toInt = 9
  · exact ⟨I 3 4, by unfold cntR; refine ⟨fun _ => ?_, fun _ => ?_, fun _ => ?_, fun _ => ?_, fun _ => ?_, fun _ => ?_, fun _ => ?_, fun _ => ?_, fun _ => ?_, fun _ => ?_, fun _ => ?_⟩ <;> first | rfl | omega⟩
  · exact ⟨-1, by unfold cntR; refine ⟨fun _ => ?_, fun _ => ?_, fun _ => ?_, fun _ => ?_, fun _ => ?_, fun _ => ?_, fun _ => ?_, fun _ => ?_, fun _ => ?_, fun _ => ?_, fun _ => ?_⟩ <;> first | rfl | omega⟩
theorem xCount {p V : Int32} (h : cntR I J p V) : wcI S (d + 1) 139 [.ref 0, .int p] x I J (fun v I1 J1 => v = V ∧ I1 = I ∧ J1 = J) := by
  obtain ⟨h10, h0, h1, h2, h3, h4, h5, h6, h7, h8, h9⟩ := h
  refine c139_0 ⟨fun z => ⟨(h10 z).symm, rfl, rfl⟩, fun z => ⟨(h0 z).symm, rfl, rfl⟩, fun z => ⟨(h1 z).symm, rfl, rfl⟩, fun z => bcX ⟨(h2 z).symm, rfl, rfl⟩, fun z => ⟨(h3 z).symm, rfl, rfl⟩, fun z => ⟨(h4 z).symm, rfl, rfl⟩, fun z => ⟨fun y => ⟨?_, rfl, rfl⟩, fun y => ⟨?_, rfl, rfl⟩⟩, fun z => bcX ⟨(h6 z).symm, rfl, rfl⟩, fun z => bcX ⟨(h7 z).symm, rfl, rfl⟩, fun z => ⟨(h8 z).symm, rfl, rfl⟩, fun z => ⟨(h9 z).symm, rfl, rfl⟩, trivial⟩
  · rw [h5 z, if_pos y]
  · rw [h5 z, if_neg y]
theorem yCount {n : Nat} {p V : Int32} (hR : RH g W I' J') (hM : HM g W I J) (e2 : I 4 2 = nI (gN g 3)) (e45 : I 45 = I' 45) (j5 : J 3 5 = J' 43 16) (j6 : J 3 6 = J' 43 17) (et : I 1 1 = I' 43 2) (h : cntR I J p V) : wcI S (d + 1) 245 [.ref 43, .int p] x I' J' (fun v I1 J1 => v = V ∧ I1 = mSet I' 43 0 0 ∧ J1 = J') := by
  obtain ⟨h10, h0, h1, h2, h3, h4, h5, h6, h7, h8, h9⟩ := h
  have hI := hR.2.1
  have eg := hR.2.2.2.2.1
  have z590 : (590 : Int32).toNatClampNeg = 590 := by decide
  have l : (0 : Int32).toInt = 0 ∧ (5 : Int32).toInt = 5 := by decide
  have n6 : nI 6 = (6 : Int32) ∧ nI 7 = (7 : Int32) ∧ nI 8 = (8 : Int32) ∧ nI 9 = (9 : Int32) := by decide
  have ne : ∀ {k : Nat}, k < 100 → ¬ p.toInt = (k : Int) → ¬ p = nI k := fun hk z y => z (by rw [y, nI_toInt (by omega)])
  have ye : ∀ {k : Nat}, k < 100 → p = nI k → p.toInt = (k : Int) := fun hk y => by rw [y, nI_toInt (by omega)]
  refine c245_43 (c151 ⟨fun z => ⟨fun _ => ?_, fun y => absurd rfl y⟩, fun z0 => ⟨fun z => ⟨fun _ => ?_, fun y => absurd rfl y⟩, fun z1 => ⟨fun y => absurd y (by decide), fun _ => ?_⟩⟩⟩)
  · have z := i_lt z
    rw [l.1] at z
    exact ⟨fun y => absurd (ye (k := 6) (by omega) y) (by omega), fun _ => ⟨fun y => absurd (ye (k := 7) (by omega) y) (by omega), fun _ => ⟨fun y => absurd (ye (k := 8) (by omega) y) (by omega), fun _ => ⟨fun y => absurd (ye (k := 9) (by omega) y) (by omega), fun _ => ⟨(h10 (Or.inl z)).symm, rfl, rfl⟩⟩⟩⟩⟩
  · have z := i_lt z
    rw [l.2] at z
    refine ⟨fun y => rbX ⟨?_, rfl, rfl⟩, fun y6 => ⟨fun y => rbX ⟨?_, rfl, rfl⟩, fun y7 => ⟨fun y => ⟨?_, rfl, rfl⟩, fun y8 => ⟨fun y => ⟨by decide, ?_, rfl, rfl⟩, fun y9 => ⟨?_, rfl, rfl⟩⟩⟩⟩⟩
    · rw [h6 (ye (k := 6) (by omega) y), j5]
    · rw [h7 (ye (k := 7) (by omega) y), j6]
    · rw [h8 (ye (k := 8) (by omega) y), mS_nk (by decide), et]
    · rw [h9 (ye (k := 9) (by omega) y), mSet_ne (by decide), z590, eg, hI.2.2.2.1]
      exact hM.2.2.2.2.2.2.2.2.2.1.symm
    · have m6 : p.toInt ≠ 6 := fun w => y6 (p_eq (n := 6) (by omega) w)
      have m7 : p.toInt ≠ 7 := fun w => y7 (p_eq (n := 7) (by omega) w)
      have m8 : p.toInt ≠ 8 := fun w => y8 (p_eq (n := 8) (by omega) w)
      have m9 : p.toInt ≠ 9 := fun w => y9 (p_eq (n := 9) (by omega) w)
      exact (h10 (Or.inr (by omega))).symm
  · have z0 := i_nlt z0
    have z1 := i_nlt z1
    rw [l.1] at z0
    rw [l.2] at z1
    obtain ⟨k, hk, ek⟩ : ∃ k : Nat, k ≤ 5 ∧ p = nI k := ⟨p.toInt.toNat, by omega, p_eq (by omega) (by omega)⟩
    have pk := ye (k := k) (by omega) ek
    subst ek
    refine ⟨nI_in (by omega) (by omega), ?_, rfl, rfl⟩
    rw [nI_clamp (by omega), mSet_ne (by decide), eg, hI.1 k hk]
    rcases (show k = 0 ∨ k = 1 ∨ k = 2 ∨ k = 3 ∨ k = 4 ∨ k = 5 by omega) with z | z | z | z | z | z <;> subst z
    · rw [h0 pk, hM.1]
    · rw [h1 pk, hM.2.1]
    · rw [h2 pk, pc_se hM.2.2.2.2.1, ← hI.1 2 (by omega), g2_n hR.2.2.1]
    · rw [h3 pk, e2]
    · rw [h4 pk, hM.2.2.1]
    · rw [h5 pk, hM.2.2.2.1]
      have := hR.1.2.2.2.1
      rcases (show gN g 5 = 0 ∨ gN g 5 = 1 by omega) with z | z <;> rw [z] <;> decide
end TRN
