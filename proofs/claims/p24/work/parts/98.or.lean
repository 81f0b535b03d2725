/-! everything alike: the relation, and what makes it -/
section OR0
variable {S : Nat × (Nat → Int32)} {d n : Nat} {x : mX} {I I' I1 I2 : rI0} {J J' J1 J2 : rJ0} {g : Nat → Int32} {W : Nat → lV}
theorem b5_ge {p : Int64} {s : Nat} (h : 64 ≤ s) : bits5 p s = false := BitVec.getLsbD_of_ge _ _ h
/-- the evening at t -/
def EV (t : Nat) (I : rI0) (J : rJ0) (g : Nat → Int32) (p h : Int64) : Prop := NX t I J g ∧ CG g ∧ J t 5 = p ∧ J t 6 = h ∧ ∀ s, bits5 p s = true → seB g s = true
/-- the kept evenings -/
def KP (x : mX) (I : rI0) (J : rJ0) : Prop := ∀ k a, k < 2 → x.2.1 27 k = some a → EV a I J (fun i => I 63 (681 * k + i)) (J 64 k) (J 65 k)
/-- what other calls told last -/
def TRs (I : rI0) (J : rJ0) : Prop := I 37 8 = I 43 48 ∧ (∃ n a, WR n a I J) ∧ ((I 43 55 = 0 ∧ I 37 9 = -1 ∧ I 37 10 = -1 ∧ I 37 11 = -1) ∨ (¬ I 43 55 = 0 ∧ I 60 0 = I 37 9 ∧ I 60 1 = I 37 10 ∧ I 60 2 = I 37 11)) ∧ I 0 10 = I 43 63
def NTw (W : Nat → lV) (x : mX) (I : rI0) (J : rJ0) : Prop := EV 3 I J (I 45) (J 43 16) (J 43 17) ∧ KP x I J ∧ TRs I J ∧ (I 43 30 = 0 → AR (I 45) J) ∧ HM (I 45) W I J ∧ LR (I 45) W ∧ DI (I 45) W (bits5 (J 3 5)) (bits5 (J 3 6)) I J
def RX (x : mX) (I : rI0) (J : rJ0) : Prop := RLx x I J ∧ ∃ W, NTw W x I J
theorem gn_i {k m : Nat} (h : g k = nI m) (hm : m < 2 ^ 31) : gN g k = m := by
  unfold gN
  rw [h, nI_tn hm]
/-! the house's numbers -/
theorem nr_n {t : Nat} (h : NRw t I J g) : (∃ R C, R ≤ 8 ∧ C ≤ 8 ∧ I (t + 1) 0 = nI R ∧ I (t + 1) 1 = nI C ∧ gN g 0 = R ∧ gN g 1 = C ∧ g 0 = nI R ∧ g 1 = nI C ∧ ∀ s, s < 64 → R * C ≤ s → ¬ SB (J (t + 1) 5) s) ∧ (∃ v, 1 ≤ v ∧ v ≤ 64 ∧ I (t + 1) 2 = nI v ∧ gN g 3 = v ∧ g 3 = nI v) ∧ (∃ v, v ≤ 600 ∧ I (t + 1) 3 = nI v ∧ gN g 4 = v ∧ g 4 = nI v) ∧ (∃ v, v ≤ 1 ∧ I (t + 1) 4 = nI v ∧ gN g 5 = v ∧ g 5 = nI v) := by
  obtain ⟨⟨R, C, hR, hC, a1, a2, a3, a4, a5⟩, -, -, -, ⟨e1, e2, ⟨v, v1, v2, v3, v4⟩, ⟨w, w1, w2, w3⟩⟩, -⟩ := h
  refine ⟨⟨R, C, hR, hC, a1, a3, gn_i a2 (by omega), gn_i a4 (by omega), a2, a4, a5⟩, ⟨v, v1, v2, v3, gn_i v4 (by omega), v4⟩, ⟨w, w1, w2, gn_i w3 (by omega), w3⟩, ?_⟩
  rcases e1 with e1 | e1
  · exact ⟨0, by omega, e1, gn_i (m := 0) (e2.trans e1) (by omega), e2.trans e1⟩
  · exact ⟨1, by omega, e1, gn_i (m := 1) (e2.trans e1) (by omega), e2.trans e1⟩
theorem nr_s {t : Nat} (h : NRw t I J g) : ∀ s, s < 64 → bits5 (J (t + 1) 5) s = seB g s := by
  intro s hs
  have k := h.2.1 s hs
  unfold seB
  rw [decide_eq_true hs, Bool.true_and]
  by_cases z : 0 < (g (6 + s)).toInt
  · rw [decide_eq_true z]
    exact k.mpr z
  · rw [decide_eq_false z]
    exact Bool.eq_false_iff.mpr (fun y => z (k.mp y))
theorem mk_ga {t : Nat} (h : NRw t I J g) (hx : NX t I J g) (hc : CG g) : GA g := by
  obtain ⟨⟨R, C, hR, hC, -, -, e0, e1, -, -, no⟩, -, ⟨w, hw, -, e4, -⟩, ⟨u, hu, -, e5, -⟩⟩ := nr_n h
  obtain ⟨c1, c2, c3⟩ := hc
  refine ⟨by omega, by omega, by omega, by omega, fun s hs => ⟨?_, (hx.1 s hs).1⟩, c1, fun i hi => ?_, fun i j hij hj => ?_⟩
  · have hl := seB_l hs
    rw [e0, e1]
    have b := nr_s h s hl
    rw [hs] at b
    exact Nat.lt_of_not_le (fun z => no s hl z b)
  · obtain ⟨⟨-, a1⟩, ⟨-, a2⟩, a3, -⟩ := c3 i hi
    exact ⟨a1, a2, fun z => (a3 z).2⟩
  · by_cases z : i = j
    · rw [z]
      exact Nat.le_refl _
    · exact (c3 j hj).2.2.2 i (by omega)
theorem mk_gi {t : Nat} (h : NRw t I J g) (hw : HW g) (hc : CG g) : GI g := by
  obtain ⟨⟨R, C, hR, hC, -, -, e0, e1, g0, g1, -⟩, ⟨v, -, -, -, e3, g3⟩, ⟨w, -, -, e4, g4⟩, ⟨u, -, -, e5, g5⟩⟩ := nr_n h
  obtain ⟨-, -, pr, lv, -, -⟩ := h
  refine ⟨fun k hk => ?_, fun s hs => ?_, fun r hr => ?_, hc.2.1, fun i hi => ?_⟩
  · rcases (show k = 0 ∨ k = 1 ∨ k = 2 ∨ k = 3 ∨ k = 4 ∨ k = 5 by omega) with z | z | z | z | z | z <;> subst z
    · rw [e0]; exact g0
    · rw [e1]; exact g1
    · have a := g2_n hw
      have n64 := nb_le (p := seB g) 64
      rw [gn_i a (by omega)]
      exact a
    · rw [e3]; exact g3
    · rw [e4]; exact g4
    · rw [e5]; exact g5
  · have a := hw.2.2.1 s hs
    have e : g (6 + s) = nI (gN g (6 + s)) := by
      rw [← Int32.toInt_inj, nI_toInt (by unfold gN; omega)]
      unfold gN
      omega
    exact ⟨e, by unfold gN; omega⟩
  · obtain ⟨⟨m, hm, em⟩, ep⟩ := pr r hr
    obtain ⟨el, eg⟩ := lv r hr
    have e1 : g (70 + r) = nI m := ep.trans em
    have e2 : ∃ q, q ≤ 601 ∧ g (78 + r) = nI q := by
      rcases el with el | ⟨q, hq, eq⟩
      · exact ⟨0, by omega, eg.trans (by rw [el]; decide)⟩
      · exact ⟨q + 1, by omega, eg.trans (by rw [eq, nI_succ])⟩
    obtain ⟨q, hq, e2⟩ := e2
    rw [gn_i e1 (by omega), gn_i e2 (by omega)]
    exact ⟨e1, hm, e2, hq⟩
  · obtain ⟨⟨a1, -⟩, ⟨a2, -⟩, a3, -⟩ := hc.2.2 i hi
    exact ⟨a1, a2, fun z => (a3 z).1⟩
theorem mk_hm (h : NRw 3 I J g) (hu : NCu 3 I g) (hx : NX 3 I J g) (hc : CG g) : ∃ W, HM g W I J ∧ LR g W := by
  obtain ⟨⟨R, C, hR, hC, c0, c1, e0, e1, -, -, -⟩, -, ⟨w, hw, c3, e4, -⟩, ⟨u, hu1, c4, e5, -⟩⟩ := nr_n h
  have se := nr_s h
  obtain ⟨-, -, -, lv, -, lw⟩ := h
  have ex : ∀ l : Nat, ∃ V : lV, l < 12 → tlB g l = true → ∃ sz, 1 ≤ sz ∧ sz ≤ 20 ∧ I 9 l = nI sz ∧ lJ (lO (I 10) 8) (20 * l) sz V ∧ ∃ Rw : List Int32, Rw.length ≤ 40 ∧ g (87 + 42 * l) = nI Rw.length ∧ arr (fun i => g (88 + 42 * l + i)) Rw ∧ rOk Rw V := by
    intro l
    by_cases hl : l < 12
    · rcases lw l hl with ⟨a, c⟩ | ⟨sz, a, c, q1, q2, V, Rw, q3, q4, q5, q6, q7⟩
      · refine ⟨fun _ => false, fun _ ht => ?_⟩
        unfold tlB at ht
        rw [c] at ht
        exact absurd ht (by decide)
      · exact ⟨V, fun _ _ => ⟨sz, q1, q2, a, q3, Rw, q5, q6, q7, q4⟩⟩
    · exact ⟨fun _ => false, fun z => absurd z hl⟩
  obtain ⟨W, hW⟩ := Classical.axiomOfChoice ex
  obtain ⟨n, hn, n1, n2, n3⟩ := hu
  have en : gN g 590 = n := gn_i n2 (by omega)
  refine ⟨W, ⟨?_, ?_, ?_, ?_, se, hx.2.1, fun r hr => ?_, fun l hl => ?_, hx.2.2, ?_, fun i hi => ?_⟩, fun l hl ht => ?_⟩
  · rw [e0]; exact c0
  · rw [e1]; exact c1
  · rw [e4]; exact c3
  · rw [e5]; exact c4
  · obtain ⟨el, eg⟩ := lv r hr
    rcases el with el | ⟨q, hq, eq⟩
    · exact Or.inl ⟨el, gn_i (m := 0) (eg.trans (by rw [el]; decide)) (by omega)⟩
    · exact Or.inr ⟨q, hq, eq, gn_i (m := q + 1) (eg.trans (by rw [eq, nI_succ])) (by omega)⟩
  · rcases lw l hl with ⟨a, c⟩ | ⟨sz, a, c, q⟩
    · refine Or.inl ⟨a, ?_⟩
      unfold tlB
      rw [c]
      decide
    · have t : tlB g l = true := by
        unfold tlB
        have := q.1
        have := q.2.1
        rw [c, nI_toInt (by omega)]
        exact decide_eq_true (by omega)
      obtain ⟨s2, a1, a2, a3, a4, -⟩ := hW l hl t
      exact Or.inr ⟨s2, a1, a2, a3, t, a4⟩
  · rw [en]; exact n1
  · rw [en] at hi
    obtain ⟨m1, m2, m3⟩ := n3 i hi
    obtain ⟨⟨a1, -⟩, ⟨a2, -⟩, a3, -⟩ := hc.2.2 i (by omega)
    exact ⟨m1.trans a1, m2.trans a2, fun z => m3.trans (a3 z).1⟩
  · obtain ⟨sz, -, -, -, -, Rw, q5, q6, q7, q4⟩ := hW l hl ht
    exact ⟨Rw, q5, q6, q7, q4⟩
/-! out of the relation -/
theorem NTw.ce (h : NTw W x I J) (rl : RLx x I J) : CE (I 45) W (bits5 (J 3 5)) (bits5 (J 3 6)) I J := by
  obtain ⟨ev, -, -, -, hm, -, -⟩ := h
  obtain ⟨-, ⟨v, -, v2, v3, v4, -⟩, -, -⟩ := nr_n rl.2.1.1
  exact ⟨mk_ga rl.2.1.1 ev.1 ev.2.1, hm, by rw [ev.2.2.1]; exact ev.2.2.2.2, fun _ _ => rfl, fun _ _ => rfl, by rw [v4]; exact v3, by omega⟩
theorem NTw.rh (h : NTw W x I J) (rl : RLx x I J) (hv : MV I J) : RH (I 45) W I J := ⟨mk_ga rl.2.1.1 h.1.1 h.1.2.1, mk_gi rl.2.1.1 hv.2.1.1 h.1.2.1, hv.2.1.1, h.2.2.2.2.2.1, rfl, h.2.2.2.1⟩
theorem NTw.kd (h : NTw W x I J) : KDs (I 45) I := h.1.1.1
theorem NTw.e6 (h : NTw W x I J) : ∀ s, s < 64 → bits5 (J 43 16) s = bits5 (J 3 5) s := fun s _ => by rw [h.1.2.2.1]
theorem NTw.e7 (h : NTw W x I J) : ∀ s, s < 64 → bits5 (J 43 17) s = bits5 (J 3 6) s := fun s _ => by rw [h.1.2.2.2.1]
theorem NTw.pr (rl : RLx x I J) : ∀ r, r < 8 → I 7 r = nI (gN (I 45) (70 + r)) ∧ gN (I 45) (70 + r) ≤ 999 := fun r hr => by
  obtain ⟨⟨m, hm, em⟩, ep⟩ := rl.2.1.1.2.2.1 r hr
  rw [gn_i (ep.trans em) (by omega)]
  exact ⟨em, hm⟩
theorem NTw.tl (rl : RLx x I J) : ∀ l, l < 12 → 0 ≤ (I 45 (86 + 42 * l)).toInt := fun l hl => by
  rcases rl.2.1.1.2.2.2.2.2 l hl with ⟨-, c⟩ | ⟨sz, -, c, q⟩
  · rw [c]
    decide
  · have := q.2.1
    rw [c, nI_toInt (by omega)]
    omega
/-- the reference's side, where its own rows are as they were -/
theorem RH.mv (h : RH g W I J) (e45 : I1 45 = I 45) (e43 : I1 43 30 = I 43 30) (j : J1 51 = J 51) : RH g W I1 J1 := ⟨h.1, h.2.1, h.2.2.1, h.2.2.2.1, e45.trans h.2.2.2.2.1, fun z => by
  have a := h.2.2.2.2.2 (e43.symm.trans z)
  unfold AR at a ⊢
  rw [j]
  exact a⟩
/-! into the relation -/
theorem EV.mv {t : Nat} {p h : Int64} (v : EV t I J g p h) (hi : I1 (t + 2) = I (t + 2)) (hj : ∀ b, b = t ∨ b = t + 3 ∨ b = t + 8 → J1 b = J b) : EV t I1 J1 g p h := by
  obtain ⟨⟨n1, n2, n3⟩, c, a, b, s⟩ := v
  refine ⟨⟨?_, ?_, ?_⟩, c, ?_, ?_, s⟩
  · rw [hi]; exact n1
  · rw [hj (t + 3) (by omega)]; exact n2
  · rw [hj (t + 8) (by omega)]; exact n3
  · rw [hj t (by omega)]; exact a
  · rw [hj t (by omega)]; exact b
theorem KP.mv (h : KP x I J) (hk : ∀ k a, k < 2 → x.2.1 27 k = some a → 68 ≤ a) (hi : ∀ b, b = 63 ∨ 68 ≤ b → I1 b = I b) (hj : ∀ b, b = 64 ∨ b = 65 ∨ 68 ≤ b → J1 b = J b) : KP x I1 J1 := by
  intro k a h2 e
  have h68 := hk k a h2 e
  rw [hi 63 (Or.inl rfl), hj 64 (Or.inl rfl), hj 65 (Or.inr (Or.inl rfl))]
  exact (h k a h2 e).mv (hi _ (by omega)) (fun b hb => hj b (by omega))
theorem TRs.mv (h : TRs I J) (e37 : ∀ q, 7 ≤ q → q ≤ 11 → I1 37 q = I 37 q) (e40 : I1 40 = I 40) (e43 : ∀ q, q = 48 ∨ q = 52 ∨ q = 55 ∨ q = 63 → I1 43 q = I 43 q) (e60 : I1 60 = I 60) (e59 : J1 59 = J 59) (e53 : J1 43 53 = J 43 53) (e10 : I1 0 10 = I 0 10) : TRs I1 J1 := by
  unfold TRs WR at *
  rw [e37 8 (by omega) (by omega), e37 7 (by omega) (by omega), e37 9 (by omega) (by omega), e37 10 (by omega) (by omega), e37 11 (by omega) (by omega), e40, e43 48 (by omega), e43 52 (by omega), e43 55 (by omega), e43 63 (by omega), e60, e59, e53, e10]
  exact h
theorem NTw.go (h : NTw W x I J) (rl : RLx x I J) (e45 : I2 45 = I 45) (hM : HM (I 45) W I2 J2) (e5 : I2 5 = I 5) (j3 : J2 3 = J 3) (j16 : J2 43 16 = J 43 16) (j17 : J2 43 17 = J 43 17) (kp : ∀ b, b = 63 ∨ 68 ≤ b → I2 b = I b) (kj : ∀ b, b = 64 ∨ b = 65 ∨ 68 ≤ b → J2 b = J b) (tr : TRs I2 J2) (ar : I2 43 30 = 0 → AR (I 45) J2) (di : DI (I 45) W (bits5 (J 3 5)) (bits5 (J 3 6)) I2 J2) : NTw W x I2 J2 := by
  obtain ⟨⟨⟨n1, -, -⟩, c, a, b, s⟩, k, -, -, -, lr, -⟩ := h
  unfold NTw
  rw [e45, j16, j17, j3]
  refine ⟨⟨⟨?_, hM.2.2.2.2.2.1, hM.2.2.2.2.2.2.2.2.1⟩, c, ?_, ?_, s⟩, k.mv (fun k a hk e => (rl.2.2.1.1 k a hk e).1) kp kj, tr, ar, hM, lr, di⟩
  · show ∀ s, seB (I 45) s = true → kdN (I 45) s < 6 ∧ I2 5 s = nI (kdN (I 45) s)
    rw [e5]
    exact n1
  · rw [j3]; exact a
  · rw [j3]; exact b
/-- what the class's asking leaves as it was -/
def AKc (W : Nat → lV) (I : rI0) (J : rJ0) (I' : rI0) (J' : rJ0) : Prop := (∀ b, ¬ ((31 ≤ b ∧ b ≤ 36) ∨ b = 41 ∨ b = 42) → I' b = I b) ∧ (∀ b, ¬ ((31 ≤ b ∧ b ≤ 36) ∨ b = 41 ∨ b = 42) → b ≠ 6 → J' b = J b) ∧ HM (I 45) W I' J' ∧ DI (I 45) W (bits5 (J 3 5)) (bits5 (J 3 6)) I' J'
theorem AKc.fa (h : NTw W x I J) (rl : RLx x I J) (f : FA I J I1 J1) (di : DI (I 45) W (bits5 (J 3 5)) (bits5 (J 3 6)) I1 J1) : AKc W I J I1 J1 := ⟨f.1, fun b hb _ => f.2 b hb, ((h.ce rl).a f).2.1, di⟩
theorem AKc.fv (h : NTw W x I J) (rl : RLx x I J) (f : FV I J I1 J1) : AKc W I J I1 J1 := ⟨fun b hb => f.1 b (by omega) (by omega), fun b hb _ => f.2 b (by omega) (by omega), ((h.ce rl).v f).2.1, h.2.2.2.2.2.2.mv (fun b hb => f.1 b (by omega) (by omega)) (fun b hb => f.2 b (by omega) (by omega))⟩
theorem AKc.fx {P H : Nat → Bool} (e1 : P = bits5 (J 3 5)) (e2 : H = bits5 (J 3 6)) (f : FX (I 45) W P H I J I1 J1) : AKc W I J I1 J1 := by
  subst e1 e2
  exact ⟨fun b hb => f.1 b (by omega), fun b hb h6 => f.2.1 b (by omega) h6, f.2.2.1, f.2.2.2⟩
theorem NTw.ask (h : NTw W x I J) (rl : RLx x I J) (c : AKc W I J I1 J1) (f : FP I1 J1 I2 J2) (r : RH (I 45) W I2 J2) : NTw W x I2 J2 := by
  have f1 : ∀ b, b ≠ 43 → b ≠ 50 → ¬ ((31 ≤ b ∧ b ≤ 36) ∨ b = 41 ∨ b = 42) → I2 b = I b := fun b h1 h2 h3 => (f.1 b h1 h2).trans (c.1 b h3)
  have f3 : ∀ q, q ≠ 0 → q ≠ 30 → ¬ (42 ≤ q ∧ q ≤ 45) → I2 43 q = I 43 q := fun q h1 h2 h3 => (f.2.1 q h1 h2 h3).trans (by rw [c.1 43 (by omega)])
  have j1 : ∀ b, b ≠ 43 → ¬ (51 ≤ b ∧ b ≤ 55) → ¬ (61 ≤ b ∧ b ≤ 62) → ¬ ((31 ≤ b ∧ b ≤ 36) ∨ b = 41 ∨ b = 42) → b ≠ 6 → J2 b = J b := fun b h1 h2 h3 h4 h5 => (f.2.2.1 b h1 h2 h3).trans (c.2.1 b h4 h5)
  have j3 : ∀ q, ¬ (36 ≤ q ∧ q ≤ 41) → J2 43 q = J 43 q := fun q h1 => (f.2.2.2 q h1).trans (by rw [c.2.1 43 (by omega) (by omega)])
  refine h.go rl r.2.2.2.2.1 (c.2.2.1.m3 (fun b h1 h2 => f.1 b (by omega) (by omega)) (fun b h1 h2 => f.2.2.1 b (by omega) (by omega) (by omega))) (f1 5 (by omega) (by omega) (by omega)) (j1 3 (by omega) (by omega) (by omega) (by omega) (by omega)) (j3 16 (by omega)) (j3 17 (by omega)) (fun b hb => f1 b (by omega) (by omega) (by omega)) (fun b hb => j1 b (by omega) (by omega) (by omega) (by omega) (by omega)) ?_ r.2.2.2.2.2 (c.2.2.2.mv (fun b hb => f.1 b (by omega) (by omega)) (fun b hb => f.2.2.1 b (by omega) (by omega) (by omega)))
  exact h.2.2.1.mv (fun q _ _ => by rw [f1 37 (by omega) (by omega) (by omega)]) (f1 40 (by omega) (by omega) (by omega)) (fun q hq => f3 q (by omega) (by omega) (by omega)) (f1 60 (by omega) (by omega) (by omega)) (j1 59 (by omega) (by omega) (by omega) (by omega) (by omega)) (j3 53 (by omega)) (by rw [f1 0 (by omega) (by omega) (by omega)])
end OR0
