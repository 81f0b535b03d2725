section CR
variable {S : Nat × (Nat → Int32)} {d : Nat} {x : mX} {I : rI0} {J : rJ0}
theorem readRowX {Q : Int32 → rI0 → rJ0 → Prop} (h : HI I) (k : ∀ r I', (r = 0 ∨ r = 1) → OX I I' → HI I' → Q r I' J) : wcI S (d + 1) 38 [.ref 29] x I J Q := by
  refine c38_29 ⟨fun h8 => readX h (fun I1 o1 h1 f1 => ⟨fun _ => ?_, fun _ => failX h1 (fun r I' hr o2 h2 => k r I' hr (o1.tr o2) h2)⟩), fun _ => failX h k⟩
  obtain ⟨R, hR, eR⟩ := h.2.1.lt (m := 8) (by omega) (by omega) h8
  have eR1 : I1 16 0 = nI R := by rw [f1 16 (by decide)]; exact eR
  obtain ⟨ln, ed, st, pl, t1, t2, t3, t4, e1, e2, e5, e4⟩ := h1.1
  have hk : ∀ r I', (r = 0 ∨ r = 1) → OX I1 I' → HI I' → Q r I' J := fun r I' hr o2 h2 => k r I' hr (o1.tr o2) h2
  refine c71_28 ?_
  have es : I1 28 5 - I1 28 4 = nI (st - pl) := by
    rw [e5, e4, ← Int32.toInt_inj, Int32.toInt_sub, nI_toInt (by omega), nI_toInt (by omega), nI_toInt (by omega)]
    rw [Int.bmod_eq_of_le (by omega) (by omega)]
    omega
  rw [es]
  refine ⟨fun _ => failX h1 hk, fun h8c => ?_⟩
  have hc : st - pl ≤ 8 := by
    rcases Nat.lt_or_ge 8 (st - pl) with y | y
    · exact absurd (nI_lt (a := 8) y (by omega)) h8c
    · exact y
  have h2 : HI (mSet I1 16 1 (nI (st - pl))) := by
    obtain ⟨a0, a1, a2, a3, a4, a5⟩ := h1
    exact ⟨a0, a1, ⟨st - pl, hc, rfl⟩, a3, a4, a5⟩
  have g : wp S (d + 1) 38 102 [some (.ref 29), some (.int (nI (st - pl))), some (.int 0), none] [] (wv x (mSet I1 16 1 (nI (st - pl))) J) (rI x Q) := row102 (by omega) hc (st - pl) 0 _ (by omega) h2 eR1 (fun r I' hr o3 h3 => hk r I' hr ((OX.s (by omega)).tr o3) h3)
  exact ⟨fun _ => ⟨fun _ => g, fun _ => failX h1 hk⟩, fun _ => g⟩
theorem kind_nat {v : Int32} (h1 : ¬ v < 97) (h2 : v < 103) : ∃ u, u ≤ 5 ∧ v - 97 = nI u := by
  rw [Int32.lt_iff_toInt_lt] at h1 h2
  have e1 : (97 : Int32).toInt = 97 := by decide
  have e2 : (103 : Int32).toInt = 103 := by decide
  have es : (v - 97).toInt = v.toInt - 97 := by
    rw [Int32.toInt_sub, e1]
    exact Int.bmod_eq_of_le (by omega) (by omega)
  obtain ⟨u, hu, eu⟩ := i_nat (l := v - 97) (n := 5) (by omega) (by
    rw [Int32.lt_iff_toInt_lt, es]
    have e0 : (0 : Int32).toInt = 0 := by decide
    omega) (by
    rw [Int32.lt_iff_toInt_lt, es]
    have e0 : (nI 5).toInt = 5 := by decide
    omega)
  exact ⟨u, hu, eu⟩
theorem readLawX {w : Nat} {Q : Int32 → rI0 → rJ0 → Prop} (hw : w ≤ 1) (h : HI I) (k : ∀ r I', (r = 0 ∨ r = 1) → OX I I' → HI I' → Q r I' J) : wcI S (d + 28) 40 [.ref 29, .int (nI w)] x I J Q := by
  refine c40_29 (readX h (fun I1 o1 h1 f1 => ⟨fun _ => c71_28 ⟨fun _ => ?_, fun _ => failX h1 (fun r I' hr o2 h2 => k r I' hr (o1.tr o2) h2)⟩, fun _ => failX h1 (fun r I' hr o2 h2 => k r I' hr (o1.tr o2) h2)⟩))
  have hk : ∀ r I', (r = 0 ∨ r = 1) → OX I1 I' → HI I' → Q r I' J := fun r I' hr o2 h2 => k r I' hr (o1.tr o2) h2
  refine signF (c := 0) (by omega) h1.1 (c39 ⟨fun _ => ⟨fun _ => failX h1 hk, fun z => absurd rfl z⟩, fun z1 => ⟨fun z2 => ⟨fun z => absurd z (by decide), fun _ => signF (c := 0) (by omega) h1.1 ?_⟩, fun _ => ⟨fun _ => failX h1 hk, fun z => absurd rfl z⟩⟩⟩)
  obtain ⟨u, hu, eu⟩ := kind_nat z1 z2
  have ei : (2 : Int32) * (sg I1 (nI 0) - 97) + nI w = nI (2 * u + w) := by
    rw [eu]
    show nI 2 * nI u + nI w = _
    rw [nI_mu, nI_add]
  rw [ei]
  have hin : ¬ mOut (nI (2 * u + w)) 12 := nI_in (by omega) (by omega)
  refine ⟨hin, fun _ => readX h1 (fun I7 o7 h7 _ => ?_), fun _ => failX h1 hk⟩
  have h7' : HI (mSet I7 29 2 0) := by
    obtain ⟨a0, a1, a2, a3, a4, a5⟩ := h7
    exact ⟨a0, a1, a2, a3, a4, 0, by omega, rfl⟩
  have e20 : nI (2 * u + w) * 20 = nI ((2 * u + w) * 20) := nI_mu _ 20
  rw [e20]
  exact joinedX (by omega) h7' (fun r8 I8 hr8 o8 h8 => ⟨fun _ => hk 0 I8 (Or.inl rfl) ((o7.tr (OX.s (by omega))).tr o8) h8, fun _ => ⟨hin, hk 1 _ (Or.inr rfl) (((o7.tr (OX.s (by omega))).tr o8).tr (OX.s (by omega))) (h8.sA (by omega))⟩⟩)
theorem row_nat {v R : Int32} (hR : RB R 8) (h0 : ¬ v < 0) (h1 : ¬ (R - 1) < v) : RB v 7 := by
  obtain ⟨c, hc, rfl⟩ := hR
  have e1 : (1 : Int32).toInt = 1 := by decide
  have es : (nI c - 1).toInt = (c : Int) - 1 := by
    rw [Int32.toInt_sub, nI_toInt (by omega), e1]
    exact Int.bmod_eq_of_le (by omega) (by omega)
  obtain ⟨u, hu, eu⟩ := i_nat (l := v) (n := 7) (by omega) h0 (by
    rw [Int32.lt_iff_toInt_lt] at h1 ⊢
    have e7 : (nI 7).toInt = 7 := by decide
    omega)
  exact ⟨u, hu, eu⟩
theorem withinX {p q : Int32} {Q : Int32 → rI0 → rJ0 → Prop} (h : HI I) (k0 : ∀ I', OX I I' → HI I' → Q 0 I' J) (k1 : ¬ I 28 6 < p → ¬ q < I 28 6 → Q 1 I J) : wcI S d 76 [.ref 28, .int p, .int q] x I J Q := withinA h.1 (fun I' o1 t1 => k0 I' (OX.o o1) (h.o o1 t1)) k1
theorem readPriceX {Q : Int32 → rI0 → rJ0 → Prop} (h : HI I) (k : ∀ r I', (r = 0 ∨ r = 1) → OX I I' → HI I' → Q r I' J) : wcI S (d + 2) 44 [.ref 29] x I J Q := by
  refine c44_29 (readX h (fun I1 o1 h1 f1 => withinX h1 (fun I2 o2 h2 => ⟨fun _ => k 0 I2 (Or.inl rfl) (o1.tr o2) h2, fun z => absurd rfl z⟩) (fun b1 b2 => ⟨fun z => absurd z (by decide), fun _ => ⟨fun _ => ?_, fun _ => failX h1 (fun r I' hr o2 h2 => k r I' hr (o1.tr o2) h2)⟩⟩)))
  have hr : RB (I1 28 6) 7 := row_nat h1.2.1 b1 b2
  exact readX (h1.s29 (by decide)) (fun I3 o3 h3 _ => takeNumX h3 (fun I4 o4 h4 => ⟨fun _ => k 0 I4 (Or.inl rfl) (((o1.tr (OX.s (by omega))).tr o3).tr o4) h4, fun z => absurd rfl z⟩) (fun I4 o4 h4 => ⟨fun z => absurd z (by decide), fun _ => ⟨hr.mo (by omega) (by omega), k 1 _ (Or.inr rfl) ((((o1.tr (OX.s (by omega))).tr o3).tr o4).tr (OX.s (by omega))) (h4.sA (by omega))⟩⟩))
theorem readLeavesX {Q : Int32 → rI0 → rJ0 → Prop} (h : HI I) (k : ∀ r I', (r = 0 ∨ r = 1) → OX I I' → HI I' → Q r I' J) : wcI S (d + 2) 45 [.ref 29] x I J Q := by
  refine c45_29 (readX h (fun I1 o1 h1 f1 => withinX h1 (fun I2 o2 h2 => ⟨fun _ => k 0 I2 (Or.inl rfl) (o1.tr o2) h2, fun z => absurd rfl z⟩) (fun b1 b2 => ⟨fun z => absurd z (by decide), fun _ => ?_⟩)))
  have hr : RB (I1 28 6) 7 := row_nat h1.2.1 b1 b2
  have hin := hr.mo (m := 8) (by omega) (by omega)
  exact ⟨hin, fun _ => readX h1 (fun I3 o3 h3 _ => takeNumX h3 (fun I4 o4 h4 => ⟨fun _ => k 0 I4 (Or.inl rfl) ((o1.tr o3).tr o4) h4, fun z => absurd rfl z⟩) (fun I4 o4 h4 => ⟨fun z => absurd z (by decide), fun _ => ⟨hin, k 1 _ (Or.inr rfl) (((o1.tr o3).tr o4).tr (OX.s (by omega))) (h4.sA (by omega))⟩⟩)), fun _ => failX h1 (fun r I' hr o2 h2 => k r I' hr (o1.tr o2) h2)⟩
theorem readCarryX {Q : Int32 → rI0 → rJ0 → Prop} (h : HI I) (k : ∀ r I', (r = 0 ∨ r = 1) → OX I I' → HI I' → Q r I' J) : wcI S (d + 2) 46 [.ref 29] x I J Q :=
  c46_29 ⟨fun _ => readX (h.s29 (by decide)) (fun I1 o1 h1 _ => takeNumX h1 (fun I2 o2 h2 => ⟨fun _ => k 0 I2 (Or.inl rfl) (((OX.s (by omega)).tr o1).tr o2) h2, fun z => absurd rfl z⟩) (fun I2 o2 h2 => ⟨fun z => absurd z (by decide), fun _ => k 1 _ (Or.inr rfl) ((((OX.s (by omega)).tr o1).tr o2).tr (OX.s (by omega))) (h2.s16 (by omega))⟩)), fun _ => failX h k⟩
theorem readPaidX {Q : Int32 → rI0 → rJ0 → Prop} (h : HI I) (k : ∀ r I', (r = 0 ∨ r = 1) → OX I I' → HI I' → Q r I' J) : wcI S (d + 2) 47 [.ref 29] x I J Q :=
  c47_29 ⟨fun _ => readX (h.s29 (by decide)) (fun I1 o1 h1 _ => takeNumX h1 (fun I2 o2 h2 => ⟨fun _ => k 0 I2 (Or.inl rfl) (((OX.s (by omega)).tr o1).tr o2) h2, fun z => absurd rfl z⟩) (fun I2 o2 h2 => ⟨fun z => absurd z (by decide), fun _ => k 1 _ (Or.inr rfl) ((((OX.s (by omega)).tr o1).tr o2).tr (OX.s (by omega))) (h2.s16 (by omega))⟩)), fun _ => failX h k⟩
theorem readByRowX {Q : Int32 → rI0 → rJ0 → Prop} (h : HI I) (k : ∀ r I', (r = 0 ∨ r = 1) → OX I I' → HI I' → Q r I' J) : wcI S (d + 1) 48 [.ref 29] x I J Q := by
  refine c48_29 ⟨fun _ => ?_, fun _ => failX h k⟩
  have h' : HI (mSet I 16 4 1) := by
    obtain ⟨a0, a1, a2, a3, a4, a5⟩ := h
    exact ⟨a0, a1, a2, Or.inr rfl, a4, a5⟩
  exact readX h' (fun I1 o1 h1 _ => k 1 I1 (Or.inr rfl) ((OX.s (by omega)).tr o1) h1)
theorem semiX {Q : Int32 → rI0 → rJ0 → Prop} {r : Int32} (h : HI I) (k : ∀ r I', (r = 0 ∨ r = 1) → OX I I' → HI I' → Q r I' J) : (r = (0 : Int32) → Q (0 : Int32) I J) ∧ (¬ r = (0 : Int32) → (wcI S (d + 1) 78 [.ref 28, .int (59 : Int32)] x I J (fun r3 I3 J3 => ((r3 = (0 : Int32) → Q (0 : Int32) I3 J3) ∧ (¬ r3 = (0 : Int32) → Q (1 : Int32) I3 J3))))) :=
  ⟨fun _ => k 0 I (Or.inl rfl) OX.rf h, fun _ => passA h.1 (fun r2 I2 hr o2 t2 => ⟨fun _ => k 0 I2 (Or.inl rfl) (OX.o o2) (h.o o2 t2), fun _ => k 1 I2 (Or.inr rfl) (OX.o o2) (h.o o2 t2)⟩)⟩
theorem readLineX {Q : Int32 → rI0 → rJ0 → Prop} (h : HI I) (k : ∀ r I', (r = 0 ∨ r = 1) → OX I I' → HI I' → Q r I' J) : wcI S (d + 29) 37 [.ref 29] x I J Q := by
  have g : ∀ {I1 : rI0} (r : Int32), OX I I1 → HI I1 → (r = (0 : Int32) → Q (0 : Int32) I1 J) ∧ (¬ r = (0 : Int32) → (wcI S (d + 28) 78 [.ref 28, .int (59 : Int32)] x I1 J (fun r3 I3 J3 => ((r3 = (0 : Int32) → Q (0 : Int32) I3 J3) ∧ (¬ r3 = (0 : Int32) → Q (1 : Int32) I3 J3))))) := fun r o1 h1 => semiX h1 (fun r I' hr o2 h2 => k r I' hr (o1.tr o2) h2)
  refine c37_29 (amongA_1000001 (d := d + 20) h.1 (fun r1 _ => ⟨fun _ => failA h.1 (fun I' o1 t1 => g _ (OX.o o1) (h.o o1 t1)), fun _ => readRowX h (fun r I' hr o1 h1 => g r o1 h1), fun _ => readLawX (w := 0) (by omega) h (fun r I' hr o1 h1 => g r o1 h1), fun _ => readLawX (w := 1) (by omega) h (fun r I' hr o1 h1 => g r o1 h1), fun _ => readPriceX h (fun r I' hr o1 h1 => g r o1 h1), fun _ => readLeavesX h (fun r I' hr o1 h1 => g r o1 h1), fun _ => readCarryX h (fun r I' hr o1 h1 => g r o1 h1), fun _ => readPaidX h (fun r I' hr o1 h1 => g r o1 h1), fun _ => readByRowX h (fun r I' hr o1 h1 => g r o1 h1), trivial⟩))
end CR
