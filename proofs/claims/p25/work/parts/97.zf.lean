/-! cues() with what a CUE keeps to -/
section CX0
variable {S S' : Nat × (Nat → Int32)} {d d' : Nat} {x x' : mX} {I I' : rI0} {J J' : rJ0} {b : Nat → Int32} {n lim p c R C : Nat}
def CRlX (c : Nat) (I I' : rI0) : Prop := ∀ i, i < c → RB (I 24 i) 600 ∧ I 24 i = I' 47 (3 * i) ∧ I 25 i = I' 47 (3 * i + 1) ∧ I 26 i = I' 47 (3 * i + 2) ∧ (∃ dd, dd ≤ 3 ∧ I 25 i = nI dd ∧ (dd ≠ 3 → ∃ s, s < 64 ∧ I 26 i = nI s ∧ 0 < (I' 45 (6 + s)).toInt)) ∧ ∀ j, j < i → (I 24 j).toInt ≤ (I 24 i).toInt
def COutX (b : Nat → Int32) (n lim p c : Nat) (I' : rI0) (v : Int32) (I1 I2 : rI0) (J2 : rJ0) : Prop := (v = 0 ∧ ∃ f, ¬ f = 0 ∧ I1 28 8 = f ∧ I2 43 13 = f ∧ I1 28 4 = I2 43 14) ∨ (v = 1 ∧ I2 43 13 = I' 43 13 ∧ c < 30 ∧ I1 15 4 = nI (c + 1) ∧ I2 43 31 = nI (c + 1) ∧ CRlX (c + 1) I1 I2 ∧ ∃ p1, p < p1 ∧ p1 ≤ n ∧ Tck b n lim p1 I1 ∧ I1 28 8 = 0 ∧ Nck b n lim p1 I2 J2)
def RefCX (K : (Int32 → rI0 → rJ0 → Prop) → Prop) (S : Nat × (Nat → Int32)) (d : Nat) (x : mX) (b : Nat → Int32) (n lim p c : Nat) (I' : rI0) (J' : rJ0) (v : Int32) (I1 : rI0) : Prop := ∃ I2 J2, crF I' J' I2 J2 ∧ COutX b n lim p c I' v I1 I2 J2 ∧ ∀ Q' : Int32 → rI0 → rJ0 → Prop, Q' v I2 J2 → K (refQ S d x Q')
theorem RefCX.bad {K : (Int32 → rI0 → rJ0 → Prop) → Prop} {p0 : Nat} {I0 : rI0} {J0 : rJ0} {f : Int32} (hf : ¬ f = 0) (t : Tck b n lim p I) (u : Nck b n lim p I' J') (fr : crF I0 J0 I' J') (ev : ∀ Q, Q 0 (bdI I' f) J' → K Q) : RefCX K S d x b n lim p0 c I0 J0 0 (mSet I 28 8 f) := by
  refine ⟨bdI I' f, J', fr.tr crF.bd, Or.inl ⟨rfl, f, hf, rfl, rfl, ?_⟩, fun Q' q => ev _ ⟨fun _ => q, fun z => absurd rfl z⟩⟩
  show I 28 4 = I' 43 10
  rw [t.2.2.2.1, u.2.2.2.1]
theorem cuEndX {K : (Int32 → rI0 → rJ0 → Prop) → Prop} {p0 : Nat} {I0 B : rI0} {J0 : rJ0} {Q : Int32 → rI0 → rJ0 → Prop} (hc : c < 30) (hp : p0 < p) (t : Tck b n lim p I) (h8 : I 28 8 = 0) (u : Nck b n lim p I' J') (r : CRlX (c + 1) I I') (e31 : I' 43 31 = nI c) (e13 : I' 43 13 = I0 43 13) (fc : ccF B I) (fr : crF I0 J0 I' J') (ev : ∀ Q, Q 1 I' J' → K Q) (k : ∀ v I1, ccF B I1 → RefCX K S' d' x' b n lim p0 c I0 J0 v I1 → Q v I1 J) : wcI S (d + 1) 78 [.ref 28, .int (59 : Int32)] x (mSet I 15 4 (nI c + (1 : Int32))) J (fun r5 I5 J5 => (r5 = 0 ∨ r5 = 1) ∧ Q r5 I5 J5) := by
  have t' : Tck b n lim p (mSet I 15 4 (nI c + (1 : Int32))) := ⟨t.1, ⟨t.2.1.1, t.2.1.2.1, by rw [mSet_ne (by decide)]; exact t.2.1.2.2.1, by rw [mSet_ne (by decide)]; exact t.2.1.2.2.2⟩, by rw [mSet_ne (by decide)]; exact t.2.2⟩
  have fc' : ccF B (mSet I 15 4 (nI c + (1 : Int32))) := fc.tr (ccF.s (by omega))
  refine passS t' (by rw [mSet_ne (by decide)]; exact h8) (fun z => ⟨Or.inl rfl, k 0 _ (fc'.tr (ccF.s (by omega))) ?_⟩) (fun z I5 o5 _ e85 t5 => ⟨Or.inr rfl, k 1 I5 (fc'.tr (ccF.o o5)) ?_⟩)
  · refine ⟨bdI I' 1, J', fr.tr crF.bd, Or.inl ⟨rfl, 1, by decide, rfl, rfl, ?_⟩, fun Q' q => ev _ ⟨fun z => absurd z (by decide), fun _ => semiR (by decide) u (fun _ => ⟨fun _ => q, fun z => absurd rfl z⟩) (fun y => absurd y z)⟩⟩
    show I 28 4 = I' 43 10
    rw [t.2.2.2.1, u.2.2.2.1]
  · have sm : wcI S' (d' + 5) 165 [.ref 43, .int (59 : Int32)] x' I' J' (fun r I3 J3 => r = 1 ∧ Nf5 I' J' I3 J3 ∧ Nck b n lim (uE b n lim p) I3 J3) := semiR (by decide) u (fun y => absurd z y) (fun _ I3 J3 f3 t3 => ⟨rfl, f3, t3⟩)
    obtain ⟨r', I3, J3, ⟨rfl, f3, t3⟩, ev3⟩ := ev_of sm
    have g := uE_le (b := b) (lim := lim) t.1
    have e3 : I3 43 31 = nI c := (f3.2.1 31 (by omega)).trans e31
    refine ⟨mSet I3 43 31 (nI (c + 1)), J3, (fr.tr (crF.nx f3)).tr (crF.s (by omega)), Or.inr ⟨rfl, ?_, hc, ?_, ?_, fun i hi => ?_, uE b n lim p, by omega, g.2, t5, e85, t3.cg (mSet_ne (by decide)) (fun k hk => mSet_x (by omega))⟩, fun Q' q => ev _ ⟨fun z => absurd z (by decide), fun _ => ev3 _ ⟨fun z => absurd z (by decide), fun _ => ?_⟩⟩⟩
    · rw [mSet_x (by omega), f3.2.1 13 (by omega)]
      exact e13
    · rw [o5 15 (by decide)]
      exact (nI_succ c).symm
    · rfl
    · rw [o5 24 (by decide), o5 25 (by decide), o5 26 (by decide), mSet_ne (show 24 ≠ 15 by decide), mSet_ne (show 25 ≠ 15 by decide), mSet_ne (show 26 ≠ 15 by decide), mSet_ne (show 47 ≠ 43 by decide), f3.1 47 (by decide), mSet_ne (show 45 ≠ 43 by decide), f3.1 45 (by decide)]
      exact r i hi
    · rw [e3, ← nI_succ]
      exact q
theorem CRlX.up {I1 I2 : rI0} (r : CRlX c I I') (c1 : ∀ a, 24 ≤ a → a ≤ 26 → ∀ i, i ≠ c → I1 a i = I a i) (c2 : ∀ j, j < 3 * c → I2 47 j = I' 47 j) (c3 : I2 45 = I' 45) (w : RB (I1 24 c) 600 ∧ I1 24 c = I2 47 (3 * c) ∧ I1 25 c = I2 47 (3 * c + 1) ∧ I1 26 c = I2 47 (3 * c + 2) ∧ (∃ dd, dd ≤ 3 ∧ I1 25 c = nI dd ∧ (dd ≠ 3 → ∃ s, s < 64 ∧ I1 26 c = nI s ∧ 0 < (I2 45 (6 + s)).toInt)) ∧ ∀ j, j < c → (I1 24 j).toInt ≤ (I1 24 c).toInt) : CRlX (c + 1) I1 I2 := by
  intro i hi
  rcases (show i < c ∨ i = c by omega) with z | z
  · rw [c1 24 (by omega) (by omega) i (by omega), c1 25 (by omega) (by omega) i (by omega), c1 26 (by omega) (by omega) i (by omega), c2 (3 * i) (by omega), c2 (3 * i + 1) (by omega), c2 (3 * i + 2) (by omega), c3]
    obtain ⟨a1, a2, a3, a4, a5, a6⟩ := r i z
    exact ⟨a1, a2, a3, a4, a5, fun j hj => by rw [c1 24 (by omega) (by omega) j (by omega)]; exact a6 j hj⟩
  · subst z
    exact w
theorem cuSeatX {K : (Int32 → rI0 → rJ0 → Prop) → Prop} {p0 : Nat} {I0 B : rI0} {J0 : rJ0} {Q : Int32 → rI0 → rJ0 → Prop} (hR : R ≤ 8) (hC : C ≤ 8) (cR : I 4 0 = nI R) (cC : I 4 1 = nI C) (gC : I' 45 1 = nI C) (gR : I' 45 0 = nI R) (hs : ∀ s, s < 64 → (SB (J 4 5) s ↔ 0 < (I' 45 (6 + s)).toInt)) (hc : c < 30) (hp : p0 < p) (t : Tck b n lim p I) (h8 : I 28 8 = 0) (u : Nck b n lim p I' J') (r : CRlX c I I') (w : RB (I 24 c) 600 ∧ I 24 c = I' 47 (3 * c) ∧ I 25 c = I' 47 (3 * c + 1)) (hdd : ∃ dd, dd ≤ 3 ∧ I 25 c = nI dd) (hmo : ∀ j, j < c → (I 24 j).toInt ≤ (I 24 c).toInt) (e31 : I' 43 31 = nI c) (e13 : I' 43 13 = I0 43 13) (fc : ccF B I) (fr : crF I0 J0 I' J') (ev : ∀ Q, seatK S' d' x' R c I' J' Q → K Q) (k : ∀ v I1, ccF B I1 → RefCX K S' d' x' b n lim p0 c I0 J0 v I1 → Q v I1 J) : wcI S (d + 2) 4 [.ref 30, .int (nI c)] x I J (fun r6 I6 J6 => (r6 = 0 → Q 0 I6 J6) ∧ (¬ r6 = 0 → wcI S (d + 2) 78 [.ref 28, .int (59 : Int32)] x (mSet I6 15 4 (nI c + (1 : Int32))) J6 (fun r7 I7 J7 => (r7 = 0 ∨ r7 = 1) ∧ Q r7 I7 J7))) := by
  have l1 : (1 : Int32).toInt = 1 := by decide
  have l0 : (0 : Int32).toInt = 0 := by decide
  have hRC : R * C ≤ 64 := Nat.le_trans (Nat.mul_le_mul hR hC) (by omega)
  have tR : (nI R - (1 : Int32)).toInt = (R : Int) - 1 := i_sub (nI_toInt (by omega)) l1 (by omega)
  have tC : (nI C - (1 : Int32)).toInt = (C : Int) - 1 := i_sub (nI_toInt (by omega)) l1 (by omega)
  have i2 : nI (3 * c) + (2 : Int32) = nI (3 * c + 2) := nI_add (3 * c) 2
  have out : ∀ (f : Int32) (I1 : rI0), ccF B I1 → RefCX K S' d' x' b n lim p0 c I0 J0 0 I1 → ((0 : Int32) = 0 → Q 0 I1 J) ∧ (¬ (0 : Int32) = 0 → wcI S (d + 2) 78 [.ref 28, .int (59 : Int32)] x (mSet I1 15 4 (nI c + (1 : Int32))) J (fun r7 I7 J7 => (r7 = 0 ∨ r7 = 1) ∧ Q r7 I7 J7)) := fun f I1 f1 rc => ⟨fun _ => k 0 I1 f1 rc, fun z => absurd rfl z⟩
  refine c4_30 ?_
  rw [cR]
  refine takeS t h8 (fun z => ⟨fun _ => out 1 _ (fc.tr (ccF.s (by omega))) (RefCX.bad (by decide) t u fr (fun Q q => ev Q (takesR u (fun _ => ⟨fun _ => q, fun z => absurd rfl z⟩) (fun y => absurd y z) (fun y => absurd y z)))), fun z => absurd rfl z⟩) (fun z zr => ⟨fun _ => out 2 _ (fc.tr (ccF.s (by omega))) (RefCX.bad (by decide) t u fr (fun Q q => ev Q (takesR u (fun y => absurd z y) (fun _ _ => ⟨fun _ => q, fun z => absurd rfl z⟩) (fun _ y1 y2 => absurd zr (fun y => y.elim y1 y2))))), fun z => absurd rfl z⟩) (fun z zl zh I1 o1 e17 e18 t1 => ⟨fun y => absurd y (by decide), fun _ => ?_⟩)
  -- the row is taken on both sides
  obtain ⟨rw_, hrw, erw⟩ := uV_b (b := b) (n := n) (lim := lim) (p := p) z
  have zl' := i_nlt zl
  have zh' := i_nlt zh
  rw [tR, erw, nI_toInt (by omega)] at zh'
  have tk : wcI S' (d' + 4) 166 [.ref 43, .int (0 : Int32), .int (nI R - (1 : Int32))] x' I' J' (fun r I3 J3 => r = 1 ∧ Nf5 (mSet I' 43 18 (uV b n p)) J' I3 J3 ∧ Nck b n lim (uE b n lim p) I3 J3) := takesR u (fun y => absurd z y) (fun _ y => absurd y (fun q => q.elim zl zh)) (fun _ _ _ I3 J3 f3 t3 => ⟨rfl, f3, t3⟩)
  obtain ⟨r', I3, J3, ⟨rfl, f3, t3⟩, ev3⟩ := ev_of tk
  have fr3 : crF I0 J0 I3 J3 := fr.tr ((crF.s (by omega)).tr (crF.nx f3))
  have e318 : I3 43 18 = nI rw_ := by
    rw [f3.2.1 18 (by omega), ← erw]
    rfl
  have g45 : I3 45 = I' 45 := by rw [f3.1 45 (by decide), mSet_ne (by decide)]
  have g47 : I3 47 = I' 47 := by rw [f3.1 47 (by decide), mSet_ne (by decide)]
  have c14 : I1 4 = I 4 := o1 4 (by decide)
  rw [c14, cC]
  have fc1 : ccF B I1 := fc.tr (ccF.o o1)
  refine withinS t1 e18 (fun y => ⟨fun _ => out 1 _ (fc1.tr (ccF.s (by omega))) (RefCX.bad (by decide) t1 t3 fr3 (fun Q q => ev Q (ev3 _ ⟨fun z => absurd z (by decide), fun _ => ⟨fun z9 => absurd (tokOf_3.mp (t3.2.2.1.symm.trans z9)) y, fun _ => badR ⟨Or.inl rfl, q⟩⟩⟩))), fun z => absurd rfl z⟩) (fun y yr => ⟨fun _ => out 2 _ (fc1.tr (ccF.s (by omega))) (RefCX.bad (by decide) t1 t3 fr3 (fun Q q => ev Q (ev3 _ ⟨fun z => absurd z (by decide), fun _ => ⟨fun _ => ?_, fun z9 => absurd (t3.2.2.1.trans (tokOf_3.mpr y)) z9⟩⟩))), fun z => absurd rfl z⟩) (fun y yl yh e16 => ⟨fun z => absurd z (by decide), fun _ => ?_⟩)
  · -- out of the row
    have e312 : I3 43 12 = uV b n (uE b n lim p) := t3.2.2.2.2.2.1 y
    rw [e318, e312]
    refine c184_43 ⟨by decide, ?_⟩
    rw [show I3 45 ((0 : Int32).toNatClampNeg) = nI R from (congrFun g45 0).trans gR]
    refine c151 ⟨fun q => absurd q (nI_nlt (b := 0) (by omega) (by omega)), fun _ => ⟨fun q => absurd (i_lt q) (by rw [tR, nI_toInt (by omega)]; omega), fun _ => ⟨fun z => absurd z (by decide), fun _ => ⟨by decide, ?_⟩⟩⟩⟩
    rw [show I3 45 ((1 : Int32).toNatClampNeg) = nI C from (congrFun g45 1).trans gC]
    exact c151 ⟨fun _ => ⟨fun _ => ⟨fun _ => badR ⟨Or.inl rfl, q⟩, fun z => absurd rfl z⟩, fun z => absurd rfl z⟩, fun q0 => ⟨fun _ => ⟨fun _ => ⟨fun _ => badR ⟨Or.inl rfl, q⟩, fun z => absurd rfl z⟩, fun z => absurd rfl z⟩, fun q1 => absurd yr (fun q => q.elim q0 q1)⟩⟩
  · -- the seat
    obtain ⟨cl, hcl, ecl⟩ := uV_b (b := b) (n := n) (lim := lim) (p := uE b n lim p) y
    have e312 : I3 43 12 = nI cl := (t3.2.2.2.2.2.1 y).trans ecl
    have yh' := i_nlt yh
    rw [tC, ecl, nI_toInt (by omega)] at yh'
    have hrR : rw_ + 1 ≤ R := by omega
    have hcC : cl + 1 ≤ C := by omega
    have m1 : rw_ * C + C ≤ R * C := by
      have := Nat.mul_le_mul_right C hrR
      rw [Nat.add_mul, Nat.one_mul] at this
      exact this
    have sq : (I1 28 7) * (nI C) + (I1 28 6) = nI (rw_ * C + cl) := by rw [e17, e16, erw, ecl, nI_mu, nI_add]
    have sr : (I3 45 ((1 : Int32).toNatClampNeg)) * (I3 43 18) + (I3 43 12) = nI (rw_ * C + cl) := by rw [show I3 45 ((1 : Int32).toNatClampNeg) = nI C from (congrFun g45 1).trans gC, e318, e312, nI_mu, nI_add, Nat.mul_comm]
    rw [c14, cC, sq]
    -- the reference's seatAt
    have at1 : 0 < (I' 45 (6 + (rw_ * C + cl))).toInt → wcI S' (d' + 4) 184 [.ref 43, .int (I3 43 18), .int (I3 43 12)] x' I3 J3 (fun v A D => v = 1 ∧ A = I3 ∧ D = J3) := fun pos => by
      rw [e318, e312]
      refine c184_43 ⟨by decide, ?_⟩
      rw [show I3 45 ((0 : Int32).toNatClampNeg) = nI R from (congrFun g45 0).trans gR]
      refine c151 ⟨fun q => absurd q (nI_nlt (b := 0) (by omega) (by omega)), fun _ => ⟨fun q => absurd (i_lt q) (by rw [tR, nI_toInt (by omega)]; omega), fun _ => ⟨fun z => absurd z (by decide), fun _ => ⟨by decide, ?_⟩⟩⟩⟩
      rw [show I3 45 ((1 : Int32).toNatClampNeg) = nI C from (congrFun g45 1).trans gC]
      have ix : (6 : Int32) + nI C * nI rw_ + nI cl = nI (6 + (rw_ * C + cl)) := by
        show nI 6 + nI C * nI rw_ + nI cl = _
        rw [nI_mu, nI_add, nI_add, Nat.mul_comm C rw_, Nat.add_assoc]
      refine c151 ⟨fun q => absurd q (nI_nlt (b := 0) (by omega) (by omega)), fun _ => ⟨fun q => absurd (i_lt q) (by rw [tC, nI_toInt (by omega)]; omega), fun _ => ⟨fun z => absurd z (by decide), fun _ => ⟨by decide, ?_⟩⟩⟩⟩
      rw [show I3 45 ((1 : Int32).toNatClampNeg) = nI C from (congrFun g45 1).trans gC, ix, nI_clamp (by omega), g45]
      exact ⟨nI_in (by omega) (by omega), fun _ => ⟨rfl, rfl, rfl⟩, fun z => absurd (Int32.lt_iff_toInt_lt.mpr (by rw [l0]; exact pos)) z⟩
    have at0 : ¬ 0 < (I' 45 (6 + (rw_ * C + cl))).toInt → wcI S' (d' + 4) 184 [.ref 43, .int (I3 43 18), .int (I3 43 12)] x' I3 J3 (fun v A D => v = 0 ∧ A = I3 ∧ D = J3) := fun pos => by
      rw [e318, e312]
      refine c184_43 ⟨by decide, ?_⟩
      rw [show I3 45 ((0 : Int32).toNatClampNeg) = nI R from (congrFun g45 0).trans gR]
      refine c151 ⟨fun q => absurd q (nI_nlt (b := 0) (by omega) (by omega)), fun _ => ⟨fun q => absurd (i_lt q) (by rw [tR, nI_toInt (by omega)]; omega), fun _ => ⟨fun z => absurd z (by decide), fun _ => ⟨by decide, ?_⟩⟩⟩⟩
      rw [show I3 45 ((1 : Int32).toNatClampNeg) = nI C from (congrFun g45 1).trans gC]
      have ix : (6 : Int32) + nI C * nI rw_ + nI cl = nI (6 + (rw_ * C + cl)) := by
        show nI 6 + nI C * nI rw_ + nI cl = _
        rw [nI_mu, nI_add, nI_add, Nat.mul_comm C rw_, Nat.add_assoc]
      refine c151 ⟨fun q => absurd q (nI_nlt (b := 0) (by omega) (by omega)), fun _ => ⟨fun q => absurd (i_lt q) (by rw [tC, nI_toInt (by omega)]; omega), fun _ => ⟨fun z => absurd z (by decide), fun _ => ⟨by decide, ?_⟩⟩⟩⟩
      rw [show I3 45 ((1 : Int32).toNatClampNeg) = nI C from (congrFun g45 1).trans gC, ix, nI_clamp (by omega), g45]
      refine ⟨nI_in (by omega) (by omega), fun z => absurd ?_ pos, fun _ => ⟨rfl, rfl, rfl⟩⟩
      have := i_lt z
      rw [l0] at this
      exact this
    have n9 : I3 43 9 = 2 := t3.2.2.1.trans (tokOf_3.mpr y)
    refine isSeatE_4 (fun f => ⟨fun _ => failS ⟨Or.inl rfl, out 2 _ (fc1.tr (ccF.s (by omega))) (RefCX.bad (by decide) t1 t3 fr3 (fun Q q => ev Q (ev3 _ ⟨fun z => absurd z (by decide), fun _ => ⟨fun _ => wcI_mono (at0 ?_) (fun v A D g => ?_), fun z9 => absurd n9 z9⟩⟩)))⟩, fun z => absurd rfl z⟩) (fun s hs64 es hb => ⟨fun z => absurd z (by decide), fun _ => ⟨nI_in (by omega) (by omega), ?_⟩⟩)
    · exact fun pos => f (rw_ * C + cl) (by omega) rfl ((hs _ (by omega)).mpr pos)
    · obtain ⟨rfl, rfl, rfl⟩ := g
      exact ⟨fun _ => badR ⟨Or.inl rfl, q⟩, fun z => absurd rfl z⟩
    · have es := nI_ij (by omega) (by omega) es
      subst es
      have pos := (hs _ hs64).mp hb
      rw [nI_clamp (by omega)]
      have ts : Tst b n lim (uE b n lim (uE b n lim p)) (mSet I1 26 c (nI (rw_ * C + cl))) := ⟨t1.2.1.1, t1.2.1.2.1, by rw [mSet_ne (by decide)]; exact t1.2.1.2.2.1, by rw [mSet_ne (by decide)]; exact t1.2.1.2.2.2⟩
      refine readS ts (fun I5 o5 t5 => ⟨fun z => absurd z (by decide), fun _ => ?_⟩)
      have q5 : ∀ a, a ≠ 28 → I5 a = (mSet I1 26 c (nI (rw_ * C + cl))) a := o5.1
      have g := uE_le (b := b) (lim := lim) t.1
      have g2 := uE_le (b := b) (lim := lim) t1.1
      -- the reference's end
      have nx : wcV S' (d' + 4) 161 [.ref 43] x' (mSet I3 47 (3 * c + 2) (nI (rw_ * C + cl))) J3 (fun I6 J6 => Nf5 (mSet I3 47 (3 * c + 2) (nI (rw_ * C + cl))) J3 I6 J6 ∧ Nck b n lim (uE b n lim (uE b n lim p)) I6 J6) := nextS ⟨t3.2.1.1, t3.2.1.2.1, t3.2.1.2.2.1, by rw [mSet_ne (by decide)]; exact t3.2.1.2.2.2.1, by rw [mSet_ne (by decide)]; exact t3.2.1.2.2.2.2⟩ (fun I6 J6 f6 t6 => ⟨f6, t6⟩)
      obtain ⟨nn, oo, ww, x1, I6, J6, x2, x3, f6, t6⟩ := nx
      have fr6 : crF I0 J0 I6 J6 := fr3.tr (crF.h.tr (crF.nx f6))
      refine cuEndX (K := K) (p0 := p0) (I0 := I0) (J0 := J0) (B := B) hc (by omega) t5 ((o5.2 8 (by omega)).trans ?_) t6 ?_ ?_ ?_ ((fc1.tr (ccF.s (by omega))).tr (ccF.o q5)) fr6 (fun Q q => ev Q (ev3 _ ⟨fun z => absurd z (by decide), fun _ => ⟨fun _ => wcI_mono (at1 pos) (fun v A D g => ?_), fun z9 => absurd n9 z9⟩⟩)) k
      · rw [mSet_ne (by decide)]
        exact e18
      · refine CRlX.up (I := I) (I' := I') r (fun a h1 h2 i hi => ?_) (fun j hj => ?_) ?_ ⟨?_, ?_, ?_, ?_, ?_, fun j hj => ?_⟩
        · rw [q5 a (by omega), mSet_x (by omega), o1 a (by omega)]
        · rw [f6.1 47 (by decide), mSet_x (by omega), g47]
        · rw [f6.1 45 (by decide), mSet_ne (by decide), f3.1 45 (by decide), mSet_ne (by decide)]
        · rw [q5 24 (by decide), mSet_ne (by decide), o1 24 (by decide)]
          exact w.1
        · rw [q5 24 (by decide), mSet_ne (by decide), o1 24 (by decide), f6.1 47 (by decide), mSet_x (by omega), g47]
          exact w.2.1
        · rw [q5 25 (by decide), mSet_ne (by decide), o1 25 (by decide), f6.1 47 (by decide), mSet_x (by omega), g47]
          exact w.2.2
        · rw [q5 26 (by decide), f6.1 47 (by decide)]
          unfold mSet va_up
          rw [if_pos rfl, if_pos rfl, if_pos rfl, if_pos rfl]
        · obtain ⟨dd, d3, ed⟩ := hdd
          refine ⟨dd, d3, ?_, fun _ => ⟨rw_ * C + cl, hs64, ?_, ?_⟩⟩
          · rw [q5 25 (by decide), mSet_ne (by decide), o1 25 (by decide)]
            exact ed
          · rw [q5 26 (by decide)]
            unfold mSet va_up
            rw [if_pos rfl, if_pos rfl]
          · rw [f6.1 45 (by decide), mSet_ne (by decide), f3.1 45 (by decide), mSet_ne (by decide)]
            exact pos
        · rw [q5 24 (by decide), mSet_ne (by decide), o1 24 (by decide)]
          exact hmo j hj
      · rw [f6.2.1 31 (by omega), mSet_ne (by decide), f3.2.1 31 (by omega), mSet_x (by omega)]
        exact e31
      · rw [f6.2.1 13 (by omega), mSet_ne (by decide), f3.2.1 13 (by omega), mSet_x (by omega)]
        exact e13
      · obtain ⟨rfl, rfl, rfl⟩ := g
        refine ⟨fun z => absurd z (by decide), fun _ => ⟨by decide, by rw [i2]; exact nI_in (by omega) (by omega), ?_⟩⟩
        rw [sr, i2, nI_clamp (by omega)]
        exact ⟨nn, oo, ww, x1, I6, J6, x2, x3, q⟩
theorem dd_n {dd : Int32} (h : dd = 0 ∨ dd = 1 ∨ dd = 2 ∨ dd = 3) : ∃ k, k ≤ 3 ∧ dd = nI k := by
  rcases h with z | z | z | z
  · exact ⟨0, by omega, z⟩
  · exact ⟨1, by omega, z⟩
  · exact ⟨2, by omega, z⟩
  · exact ⟨3, by omega, z⟩
theorem cuDeedX {K : (Int32 → rI0 → rJ0 → Prop) → Prop} {p0 : Nat} {I0 B : rI0} {J0 : rJ0} {Q : Int32 → rI0 → rJ0 → Prop} {dd : Int32} (hR : R ≤ 8) (hC : C ≤ 8) (cR : I 4 0 = nI R) (cC : I 4 1 = nI C) (gC : I' 45 1 = nI C) (gR : I' 45 0 = nI R) (hs : ∀ s, s < 64 → (SB (J 4 5) s ↔ 0 < (I' 45 (6 + s)).toInt)) (hd : dd = 0 ∨ dd = 1 ∨ dd = 2 ∨ dd = 3) (hc : c < 30) (hp : p0 < p) (t : Tck b n lim p I) (h8 : I 28 8 = 0) (u : Nck b n lim p I' J') (r : CRlX c I I') (w : RB (I 24 c) 600 ∧ I 24 c = I' 47 (3 * c)) (hmo : ∀ j, j < c → (I 24 j).toInt ≤ (I 24 c).toInt) (e31 : I' 43 31 = nI c) (e13 : I' 43 13 = I0 43 13) (fc : ccF B I) (fr : crF I0 J0 I' J') (ev : ∀ Q, wp S' (d' + 5) 192 140 [some (.ref 43), some (.int (nI (3 * c))), none, none] [.int dd] (wv x' I' J') (rI x' Q) → K Q) (k : ∀ v I1, ccF B I1 → RefCX K S' d' x' b n lim p0 c I0 J0 v I1 → Q v I1 J) : wcV S (d + 8) 70 [.ref 28] x (mSet (mSet I 25 c dd) 26 c (-1 : Int32)) J (fun I4 J4 => ((dd = (3 : Int32) → wcI S (d + 8) 78 [.ref 28, .int (59 : Int32)] x (mSet I4 15 4 (nI c + (1 : Int32))) J4 (fun r7 I7 J7 => (r7 = 0 ∨ r7 = 1) ∧ Q r7 I7 J7)) ∧ (¬ dd = (3 : Int32) → wcI S (d + 8) 4 [.ref 30, .int (nI c)] x I4 J4 (fun r6 I6 J6 => (r6 = 0 → Q 0 I6 J6) ∧ (¬ r6 = 0 → wcI S (d + 8) 78 [.ref 28, .int (59 : Int32)] x (mSet I6 15 4 (nI c + (1 : Int32))) J6 (fun r7 I7 J7 => (r7 = 0 ∨ r7 = 1) ∧ Q r7 I7 J7)))))) := by
  have g := uE_le (b := b) (lim := lim) t.1
  have i1 : nI (3 * c) + (1 : Int32) = nI (3 * c + 1) := nI_add (3 * c) 1
  have i2 : nI (3 * c) + (2 : Int32) = nI (3 * c + 2) := nI_add (3 * c) 2
  have nx : wcV S' (d' + 4) 161 [.ref 43] x' (mSet (mSet I' 47 (3 * c + 1) dd) 47 (3 * c + 2) (-1 : Int32)) J' (fun I6 J6 => Nf5 (mSet (mSet I' 47 (3 * c + 1) dd) 47 (3 * c + 2) (-1 : Int32)) J' I6 J6 ∧ Nck b n lim (uE b n lim p) I6 J6) := nextS (u.2.1.s47.s47) (fun I6 J6 f6 t6 => ⟨f6, t6⟩)
  obtain ⟨nn, oo, ww, x1, I6, J6, x2, x3, f6, t6⟩ := nx
  have fr6 : crF I0 J0 I6 J6 := fr.tr ((crF.h.tr crF.h).tr (crF.nx f6))
  have nd : ¬ dd < 0 := by rcases hd with z | z | z | z <;> subst z <;> decide
  have ev2 : ∀ Q, ((dd = (3 : Int32) → Q (1 : Int32) I6 J6) ∧ (¬ dd = (3 : Int32) → seatK S' d' x' R c I6 J6 Q)) → K Q := fun Q q => ev Q (v192_43_140 ⟨fun z => absurd z nd, fun _ => ⟨by rw [i1]; exact nI_in (by omega) (by omega), by rw [i2]; exact nI_in (by omega) (by omega), by
    rw [i1, i2, nI_clamp (by omega), nI_clamp (by omega)]
    refine ⟨nn, oo, ww, x1, I6, J6, x2, x3, q.1, fun z => ⟨by decide, ?_⟩⟩
    have e0 : I6 45 ((0 : Int32).toNatClampNeg) = nI R := by
      show I6 45 0 = _
      rw [f6.1 45 (by decide), mSet_ne (by decide), mSet_ne (by decide)]
      exact gR
    rw [e0]
    have q2 := q.2 z
    unfold seatK at q2
    rw [i2, nI_clamp (by omega)] at q2
    exact q2⟩⟩)
  have f47 : ∀ j, ¬ (j = 3 * c + 1 ∨ j = 3 * c + 2) → I6 47 j = I' 47 j := fun j hj => by rw [f6.1 47 (by decide), mSet_x (by omega), mSet_x (by omega)]
  have e1 : I6 47 (3 * c + 1) = dd := by
    rw [f6.1 47 (by decide), mSet_x (by omega)]
    unfold mSet va_up
    rw [if_pos rfl, if_pos rfl]
  have e2 : I6 47 (3 * c + 2) = -1 := by
    rw [f6.1 47 (by decide)]
    unfold mSet va_up
    rw [if_pos rfl, if_pos rfl]
  refine readS ((t.2.1.w (by decide) (by decide)).w (by decide) (by decide)) (fun I4 o4 t4 => ?_)
  have q4 : ∀ a, a ≠ 28 → I4 a = (mSet (mSet I 25 c dd) 26 c (-1 : Int32)) a := o4.1
  have h84 : I4 28 8 = 0 := by
    rw [o4.2 8 (by omega), mSet_ne (by decide), mSet_ne (by decide)]
    exact h8
  have f24 : I4 24 = I 24 := by rw [q4 24 (by decide), mSet_ne (by decide), mSet_ne (by decide)]
  have f4 : I4 4 = I 4 := by rw [q4 4 (by decide), mSet_ne (by decide), mSet_ne (by decide)]
  have a25 : I4 25 c = dd := by
    rw [q4 25 (by decide), mSet_ne (by decide)]
    unfold mSet va_up
    rw [if_pos rfl, if_pos rfl]
  have a26 : I4 26 c = -1 := by
    rw [q4 26 (by decide)]
    unfold mSet va_up
    rw [if_pos rfl, if_pos rfl]
  have old : ∀ a, 24 ≤ a → a ≤ 26 → ∀ i, i ≠ c → I4 a i = I a i := fun a h1 h2 i hi => by rw [q4 a (by omega), mSet_x (by omega), mSet_x (by omega)]
  have fc4 : ccF B I4 := (fc.tr ((ccF.s (by omega)).tr (ccF.s (by omega)))).tr (ccF.o q4)
  have e31' : I6 43 31 = nI c := by rw [f6.2.1 31 (by omega), mSet_ne (by decide), mSet_ne (by decide)]; exact e31
  have e13' : I6 43 13 = I0 43 13 := by rw [f6.2.1 13 (by omega), mSet_ne (by decide), mSet_ne (by decide)]; exact e13
  have g45 : I6 45 = I' 45 := by rw [f6.1 45 (by decide), mSet_ne (by decide), mSet_ne (by decide)]
  refine ⟨fun y3 => cuEndX (K := K) (p0 := p0) (I0 := I0) (J0 := J0) (B := B) hc (by omega) t4 h84 t6 (CRlX.up r old (fun j hj => f47 j (by omega)) g45 ⟨by rw [f24]; exact w.1, by rw [f24, f47 (3 * c) (by omega)]; exact w.2, by rw [a25, e1], by rw [a26, e2], ⟨3, by omega, by rw [a25]; exact y3, fun z => absurd rfl z⟩, by rw [f24]; exact hmo⟩) e31' e13' fc4 fr6 (fun Q q => ev2 Q ⟨fun _ => q, fun z => absurd y3 z⟩) k, fun n3 => cuSeatX (K := K) (p0 := p0) (I0 := I0) (J0 := J0) (B := B) hR hC (by rw [f4]; exact cR) (by rw [f4]; exact cC) (by rw [g45]; exact gC) (by rw [g45]; exact gR) (by rw [g45]; exact hs) hc (by omega) t4 h84 t6 (fun i hi => ?_) ⟨by rw [f24]; exact w.1, by rw [f24, f47 (3 * c) (by omega)]; exact w.2, by rw [a25, e1]⟩ (by rw [a25]; exact dd_n hd) (by rw [f24]; exact hmo) e31' e13' fc4 fr6 (fun Q q => ev2 Q ⟨fun z => absurd z n3, fun _ => q⟩) k⟩
  rw [old 24 (by omega) (by omega) i (by omega), old 25 (by omega) (by omega) i (by omega), old 26 (by omega) (by omega) i (by omega), f47 (3 * i) (by omega), f47 (3 * i + 1) (by omega), f47 (3 * i + 2) (by omega), f24, g45]
  exact r i hi
theorem cu71X {K : (Int32 → rI0 → rJ0 → Prop) → Prop} {p0 : Nat} {I0 B : rI0} {J0 : rJ0} {Q : Int32 → rI0 → rJ0 → Prop} {L : Int32} (hR : R ≤ 8) (hC : C ≤ 8) (cR : I 4 0 = nI R) (cC : I 4 1 = nI C) (gC : I' 45 1 = nI C) (gR : I' 45 0 = nI R) (hs : ∀ s, s < 64 → (SB (J 4 5) s ↔ 0 < (I' 45 (6 + s)).toInt)) (hc : c < 30) (hp : p0 < p) (t : Tck b n lim p I) (h8 : I 28 8 = 0) (u : Nck b n lim p I' J') (r : CRlX c I I') (hLm : ∀ j, j < c → (I 24 j).toInt ≤ L.toInt) (e31 : I' 43 31 = nI c) (e13 : I' 43 13 = I0 43 13) (fc : ccF B I) (fr : crF I0 J0 I' J') (ev : ∀ Q, wp S' (d' + 5) 192 62 [some (.ref 43), some (.int (nI (3 * c))), none, none] [.int L, .ref 43] (wv x' I' J') (rI x' Q) → K Q) (k : ∀ v I1, ccF B I1 → RefCX K S' d' x' b n lim p0 c I0 J0 v I1 → Q v I1 J) : wp S (d + 9) 3 71 [some (.ref 30), some (.int (nI c)), none, none] [.int L] (wv x I J) (rI x Q) := by
  have l600 : (600 : Int32).toInt = 600 := by decide
  refine v3_30_71 (takeS t h8 (fun z => ⟨fun _ => k 0 _ (fc.tr (ccF.s (by omega))) (RefCX.bad (by decide) t u fr (fun Q q => ev Q (v192_43_62 (takesR u (fun _ => ⟨fun _ => q, fun z => absurd rfl z⟩) (fun y => absurd y z) (fun y => absurd y z))))), fun z => absurd rfl z⟩) (fun z zr => ⟨fun _ => k 0 _ (fc.tr (ccF.s (by omega))) (RefCX.bad (by decide) t u fr (fun Q q => ev Q (v192_43_62 (takesR u (fun y => absurd z y) (fun _ _ => ⟨fun _ => q, fun z => absurd rfl z⟩) (fun _ y1 y2 => absurd zr (fun y => y.elim y1 y2)))))), fun z => absurd rfl z⟩) (fun z zl zh I1 o1 e17 e18 t1 => ⟨fun y => absurd y (by decide), fun _ => ⟨nI_in (by omega) (by omega), ?_⟩⟩))
  obtain ⟨mv, hmv, emv⟩ := uV_b (b := b) (n := n) (lim := lim) (p := p) z
  have zh' := i_nlt zh
  rw [l600, emv, nI_toInt (by omega)] at zh'
  have g := uE_le (b := b) (lim := lim) t.1
  have tk : wcI S' (d' + 4) 166 [.ref 43, .int L, .int (600 : Int32)] x' I' J' (fun r I3 J3 => r = 1 ∧ Nf5 (mSet I' 43 18 (uV b n p)) J' I3 J3 ∧ Nck b n lim (uE b n lim p) I3 J3) := takesR u (fun y => absurd z y) (fun _ y => absurd y (fun q => q.elim zl zh)) (fun _ _ _ I3 J3 f3 t3 => ⟨rfl, f3, t3⟩)
  obtain ⟨r', I3, J3, ⟨rfl, f3, t3⟩, ev3⟩ := ev_of tk
  have e318 : I3 43 18 = uV b n p := by
    rw [f3.2.1 18 (by omega)]
    rfl
  have g45 : I3 45 = I' 45 := by rw [f3.1 45 (by decide), mSet_ne (by decide)]
  have g47 : I3 47 = I' 47 := by rw [f3.1 47 (by decide), mSet_ne (by decide)]
  have u3 : Nck b n lim (uE b n lim p) (mSet I3 47 (3 * c) (uV b n p)) J3 := t3.cg (mSet_ne (by decide)) (fun k hk => by rw [mSet_ne (by decide)])
  have t1' : Tck b n lim (uE b n lim p) (mSet I1 24 c (uV b n p)) := t1.w (by decide) (by decide)
  have fr3 : crF I0 J0 (mSet I3 47 (3 * c) (uV b n p)) J3 := (fr.tr ((crF.s (by omega)).tr (crF.nx f3))).tr crF.h
  have fc1 : ccF B (mSet I1 24 c (uV b n p)) := (fc.tr (ccF.o o1)).tr (ccF.s (by omega))
  have h81 : (mSet I1 24 c (uV b n p)) 28 8 = 0 := by rw [mSet_ne (by decide)]; exact e18
  have ev4 : ∀ Q, wcI S' (d' + 4) 163 [.ref 43, .long (7364985 : Int64)] x' (mSet I3 47 (3 * c) (uV b n p)) J3 (fun r2 I2 J2 => ((r2 = (0 : Int32) → (wcI S' (d' + 4) 163 [.ref 43, .long (1751741299 : Int64)] x' I2 J2 (fun r3 I3 J3 => ((r3 = (0 : Int32) → (wcI S' (d' + 4) 163 [.ref 43, .long (1718773093 : Int64)] x' I3 J3 (fun r4 I4 J4 => ((r4 = (0 : Int32) → (wcI S' (d' + 4) 163 [.ref 43, .long (495874305132 : Int64)] x' I4 J4 (fun r5 I5 J5 => ((r5 = (0 : Int32) → wp S' (d' + 5) 192 140 [some (.ref 43), some (.int (nI (3 * c))), none, none] [.int (-1 : Int32)] (wv x' I5 J5) (rI x' Q)) ∧ (¬ r5 = (0 : Int32) → wp S' (d' + 5) 192 140 [some (.ref 43), some (.int (nI (3 * c))), none, none] [.int (3 : Int32)] (wv x' I5 J5) (rI x' Q)))))) ∧ (¬ r4 = (0 : Int32) → wp S' (d' + 5) 192 140 [some (.ref 43), some (.int (nI (3 * c))), none, none] [.int (2 : Int32)] (wv x' I4 J4) (rI x' Q)))))) ∧ (¬ r3 = (0 : Int32) → wp S' (d' + 5) 192 140 [some (.ref 43), some (.int (nI (3 * c))), none, none] [.int (1 : Int32)] (wv x' I3 J3) (rI x' Q)))))) ∧ (¬ r2 = (0 : Int32) → wp S' (d' + 5) 192 140 [some (.ref 43), some (.int (nI (3 * c))), none, none] [.int (0 : Int32)] (wv x' I2 J2) (rI x' Q)))) → K Q := fun Q q => ev Q (v192_43_62 (ev3 _ ⟨fun z => absurd z (by decide), fun _ => ⟨nI_in (by omega) (by omega), by
    rw [nI_clamp (by omega), e318]
    exact q⟩⟩))
  have evn : uW b n lim (uE b n lim p) = 7364985 ∨ (¬ uW b n lim (uE b n lim p) = 7364985) := Decidable.em _
  have hs' : ∀ s, s < 64 → (SB (J 4 5) s ↔ 0 < ((mSet I3 47 (3 * c) (uV b n p)) 45 (6 + s)).toInt) := by
    rw [mSet_ne (show 45 ≠ 47 by decide), g45]
    exact hs
  have c4 : (mSet I1 24 c (uV b n p)) 4 = I 4 := by rw [mSet_ne (by decide)]; exact o1 4 (by decide)
  have g5 : (mSet I3 47 (3 * c) (uV b n p)) 45 = I' 45 := by rw [mSet_ne (by decide)]; exact g45
  have rr : CRlX c (mSet I1 24 c (uV b n p)) (mSet I3 47 (3 * c) (uV b n p)) := fun i hi => by
    rw [mSet_x (by omega), mSet_ne (show 25 ≠ 24 by decide), mSet_ne (show 26 ≠ 24 by decide), mSet_x (by omega), mSet_x (by omega), mSet_x (by omega), o1 24 (by decide), o1 25 (by decide), o1 26 (by decide), g47, mSet_ne (show 45 ≠ 47 by decide), g45]
    obtain ⟨a1, a2, a3, a4, a5, a6⟩ := r i hi
    exact ⟨a1, a2, a3, a4, a5, fun j hj => by rw [mSet_x (by omega), o1 24 (by decide)]; exact a6 j hj⟩
  have w24 : (mSet I1 24 c (uV b n p)) 24 c = uV b n p := by
    unfold mSet va_up
    rw [if_pos rfl, if_pos rfl]
  have w47 : (mSet I3 47 (3 * c) (uV b n p)) 47 (3 * c) = uV b n p := by
    unfold mSet va_up
    rw [if_pos rfl, if_pos rfl]
  have ww : RB ((mSet I1 24 c (uV b n p)) 24 c) 600 ∧ (mSet I1 24 c (uV b n p)) 24 c = (mSet I3 47 (3 * c) (uV b n p)) 47 (3 * c) := ⟨by rw [w24]; exact ⟨mv, by omega, emv⟩, by rw [w24, w47]⟩
  have hmo : ∀ j, j < c → ((mSet I1 24 c (uV b n p)) 24 j).toInt ≤ ((mSet I1 24 c (uV b n p)) 24 c).toInt := by
    intro j hj
    rw [w24, mSet_x (by omega), o1 24 (by decide)]
    exact Int.le_trans (hLm j hj) (i_nlt zl)
  have e31' : (mSet I3 47 (3 * c) (uV b n p)) 43 31 = nI c := by rw [mSet_ne (by decide), f3.2.1 31 (by omega), mSet_x (by omega)]; exact e31
  have e13' : (mSet I3 47 (3 * c) (uV b n p)) 43 13 = I0 43 13 := by rw [mSet_ne (by decide), f3.2.1 13 (by omega), mSet_x (by omega)]; exact e13
  have deed : ∀ dd : Int32, (dd = 0 ∨ dd = 1 ∨ dd = 2 ∨ dd = 3) → (∀ Q, wp S' (d' + 5) 192 140 [some (.ref 43), some (.int (nI (3 * c))), none, none] [.int dd] (wv x' (mSet I3 47 (3 * c) (uV b n p)) J3) (rI x' Q) → K Q) → (¬ mOut (nI c) 30 ∧ (¬ mOut (nI c) 30 ∧ wcV S (d + 8) 70 [.ref 28] x (mSet (mSet (mSet I1 24 c (uV b n p)) 25 c dd) 26 c (-1 : Int32)) J (fun I4 J4 => ((dd = (3 : Int32) → wcI S (d + 8) 78 [.ref 28, .int (59 : Int32)] x (mSet I4 15 4 (nI c + (1 : Int32))) J4 (fun r7 I7 J7 => (r7 = 0 ∨ r7 = 1) ∧ Q r7 I7 J7)) ∧ (¬ dd = (3 : Int32) → wcI S (d + 8) 4 [.ref 30, .int (nI c)] x I4 J4 (fun r6 I6 J6 => (r6 = 0 → Q 0 I6 J6) ∧ (¬ r6 = 0 → wcI S (d + 8) 78 [.ref 28, .int (59 : Int32)] x (mSet I6 15 4 (nI c + (1 : Int32))) J6 (fun r7 I7 J7 => (r7 = 0 ∨ r7 = 1) ∧ Q r7 I7 J7)))))))) := fun dd hd evd => ⟨nI_in (by omega) (by omega), nI_in (by omega) (by omega), cuDeedX (K := K) (p0 := p0) (I0 := I0) (J0 := J0) (B := B) hR hC (by rw [c4]; exact cR) (by rw [c4]; exact cC) (by rw [g5]; exact gC) (by rw [g5]; exact gR) hs' hd hc (by omega) t1' h81 u3 rr ww hmo e31' e13' fc1 fr3 evd k⟩
  rw [nI_clamp (by omega), e17]
  refine amongS_5 t1' (fun y => ⟨fun q => absurd q (by decide), fun _ => deed 0 (Or.inl rfl) (fun Q q => ev4 Q (wordR (by decide) u3 (fun _ => ⟨fun z => absurd z (by decide), fun _ => q⟩) (fun z => absurd y z)))⟩) (fun y => ⟨fun q => absurd q (by decide), fun _ => deed 1 (Or.inr (Or.inl rfl)) (fun Q q => ev4 Q (wordR (by decide) u3 (fun z => absurd (y.symm.trans z) (by decide)) (fun _ => ⟨fun _ => wordR (by decide) u3 (fun _ => ⟨fun z => absurd z (by decide), fun _ => q⟩) (fun z => absurd y z), fun z => absurd rfl z⟩)))⟩) (fun y => ⟨fun q => absurd q (by decide), fun _ => deed 2 (Or.inr (Or.inr (Or.inl rfl))) (fun Q q => ev4 Q (wordR (by decide) u3 (fun z => absurd (y.symm.trans z) (by decide)) (fun _ => ⟨fun _ => wordR (by decide) u3 (fun z => absurd (y.symm.trans z) (by decide)) (fun _ => ⟨fun _ => wordR (by decide) u3 (fun _ => ⟨fun z => absurd z (by decide), fun _ => q⟩) (fun z => absurd y z), fun z => absurd rfl z⟩), fun z => absurd rfl z⟩)))⟩) (fun y => ⟨fun q => absurd q (by decide), fun _ => deed 3 (Or.inr (Or.inr (Or.inr rfl))) (fun Q q => ev4 Q (wordR (by decide) u3 (fun z => absurd (y.symm.trans z) (by decide)) (fun _ => ⟨fun _ => wordR (by decide) u3 (fun z => absurd (y.symm.trans z) (by decide)) (fun _ => ⟨fun _ => wordR (by decide) u3 (fun z => absurd (y.symm.trans z) (by decide)) (fun _ => ⟨fun _ => wordR (by decide) u3 (fun _ => ⟨fun z => absurd z (by decide), fun _ => q⟩) (fun z => absurd y z), fun z => absurd rfl z⟩), fun z => absurd rfl z⟩), fun z => absurd rfl z⟩)))⟩) (fun y0 y1 y2 y3 => ⟨fun _ => failS ⟨Or.inl rfl, k 0 _ (fc1.tr (ccF.s (by omega))) (RefCX.bad (by decide) t1' u3 fr3 (fun Q q => ev4 Q (wordR (by decide) u3 (fun z => absurd z y0) (fun _ => ⟨fun _ => wordR (by decide) u3 (fun z => absurd z y1) (fun _ => ⟨fun _ => wordR (by decide) u3 (fun z => absurd z y2) (fun _ => ⟨fun _ => wordR (by decide) u3 (fun z => absurd z y3) (fun _ => ⟨fun _ => v192_43_140 ⟨fun _ => badR ⟨Or.inl rfl, q⟩, fun z => absurd (by decide) z⟩, fun z => absurd rfl z⟩), fun z => absurd rfl z⟩), fun z => absurd rfl z⟩), fun z => absurd rfl z⟩))))⟩, fun z => absurd rfl z⟩)
theorem cueEX {Q : Int32 → rI0 → rJ0 → Prop} (hR : R ≤ 8) (hC : C ≤ 8) (cR : I 4 0 = nI R) (cC : I 4 1 = nI C) (gC : I' 45 1 = nI C) (gR : I' 45 0 = nI R) (hs : ∀ s, s < 64 → (SB (J 4 5) s ↔ 0 < (I' 45 (6 + s)).toInt)) (hc : c ≤ 30) (t : Tck b n lim p I) (h8 : I 28 8 = 0) (u : Nck b n lim p I' J') (r : CRlX c I I') (e15 : I 15 4 = nI c) (e31 : I' 43 31 = nI c) (k : ∀ v I1, ccF I I1 → RefCX (fun Q => wcI S' (d' + 5) 192 [.ref 43] x' I' J' Q) S' d' x' b n lim p c I' J' v I1 → Q v I1 J) : wcI S (d + 9) 3 [.ref 30] x I J Q := by
  have l30 : (30 : Int32).toInt = 30 := by decide
  have l3 : (3 : Int32).toInt = 3 := by decide
  have l1 : (1 : Int32).toInt = 1 := by decide
  refine c3_30 (amongS_4 t (fun z => ⟨fun y => absurd y (by decide), fun _ => ⟨fun h30 => ?_, fun h30 => failS ⟨Or.inl rfl, k 0 _ (ccF.s (by omega)) (RefCX.bad (by decide) t u crF.rf (fun Q q => ?_))⟩⟩⟩) (fun z => ⟨fun _ => failS ⟨Or.inl rfl, k 0 _ (ccF.s (by omega)) (RefCX.bad (by decide) t u crF.rf (fun Q q => c192_43 (wordR (by decide) u (fun y => absurd y z) (fun _ => ⟨fun _ => badR ⟨Or.inl rfl, q⟩, fun z => absurd rfl z⟩))))⟩, fun y => absurd rfl y⟩))
  · have hc : c < 30 := by
      rw [e15] at h30
      have := i_lt h30
      rw [nI_toInt (by omega)] at this
      omega
    have pg := (uE_gt (b := b) (n := n) (lim := lim) (p := p) (fun q => by rw [uW_n (by rw [q]; decide)] at z; exact absurd z (by decide)) (fun q => by rw [uW_n (by rw [q]; decide)] at z; exact absurd z (by decide))).1
    have nx : wcV S' (d' + 4) 161 [.ref 43] x' I' J' (fun I4 J4 => Nf5 I' J' I4 J4 ∧ Nck b n lim (uE b n lim p) I4 J4) := nextS u.2.1 (fun I4 J4 f4 t4 => ⟨f4, t4⟩)
    obtain ⟨nn, oo, ww, x1, I4, J4, x2, x3, f4, t4⟩ := nx
    have e4 : I4 43 31 = nI c := (f4.2.1 31 (by omega)).trans e31
    have e3c : (3 : Int32) * nI c = nI (3 * c) := nI_mu 3 c
    have ev1 : ∀ (L : Int32) (Q : Int32 → rI0 → rJ0 → Prop), (c = 0 → L = 0) → (∀ e, c = e + 1 → L = I' 47 (3 * e)) → wp S' (d' + 5) 192 62 [some (.ref 43), some (.int (nI (3 * c))), none, none] [.int L, .ref 43] (wv x' I4 J4) (rI x' Q) → wcI S' (d' + 5) 192 [.ref 43] x' I' J' Q := fun L Q hL0 hL1 q => by
      refine c192_43 (wordR (by decide) u (fun _ => ⟨fun z => absurd z (by decide), fun _ => ⟨fun y => ?_, fun _ => ⟨nn, oo, ww, x1, I4, J4, x2, x3, fun y => ?_, fun y => ?_⟩⟩⟩) (fun y => absurd z y))
      · rw [e31] at y
        have := nI_ij (b := 30) (by omega) (by omega) y
        omega
      · rw [e4] at y
        have c0 := nI_ij (b := 0) (by omega) (by omega) y
        rw [e4, e3c]
        rw [hL0 c0] at q
        exact q
      · have hp : ∃ e, c = e + 1 := by
          rcases (show c = 0 ∨ ∃ e, c = e + 1 by rcases c with _ | e; exact Or.inl rfl; exact Or.inr ⟨e, rfl⟩) with y0 | y0
          · rw [e4, y0] at y
            exact absurd rfl y
          · exact y0
        obtain ⟨e, he⟩ := hp
        have ix : nI (3 * c) - (3 : Int32) = nI (3 * e) := by
          rw [← Int32.toInt_inj, i_sub (nI_toInt (by omega)) l3 (by omega), nI_toInt (by omega)]
          omega
        rw [e4, e3c, ix, nI_clamp (by omega)]
        refine ⟨nI_in (by omega) (by omega), ?_⟩
        have eL := hL1 e he
        rw [← congrFun (f4.1 47 (by decide)) (3 * e)] at eL
        rw [← eL]
        exact q
    refine readS t.2.1 (fun I3 o3 t3 => ?_)
    have h83 : I3 28 8 = 0 := (o3.2 8 (by omega)).trans h8
    have c34 : I3 4 = I 4 := o3.1 4 (by decide)
    have g45 : I4 45 = I' 45 := f4.1 45 (by decide)
    have r3 : CRlX c I3 I4 := fun i hi => by
      rw [o3.1 24 (by decide), o3.1 25 (by decide), o3.1 26 (by decide), f4.1 47 (by decide), f4.1 45 (by decide)]
      exact r i hi
    have go : ∀ L : Int32, (c = 0 → L = 0) → (∀ e, c = e + 1 → L = I' 47 (3 * e)) → (∀ j, j < c → (I3 24 j).toInt ≤ L.toInt) → wp S (d + 9) 3 71 [some (.ref 30), some (.int (nI c)), none, none] [.int L] (wv x I3 J) (rI x Q) := fun L a0 a1 a2 => cu71X (S' := S') (d' := d') (x' := x') (K := fun Q => wcI S' (d' + 5) 192 [.ref 43] x' I' J' Q) (p0 := p) (I0 := I') (J0 := J') (B := I) hR hC (by rw [c34]; exact cR) (by rw [c34]; exact cC) (by rw [g45]; exact gC) (by rw [g45]; exact gR) (by rw [g45]; exact hs) hc pg t3 h83 t4 r3 a2 e4 (f4.2.1 13 (by omega)) (ccF.o o3.1) (crF.nx f4) (fun Q q => ev1 L Q a0 a1 q) k
    rw [e15]
    refine ⟨fun pos => ?_, fun npos => go 0 (fun _ => rfl) (fun e he => ?_) (fun j hj => absurd (nI_lt (a := 0) (show 0 < c by omega) (by omega)) npos)⟩
    · rcases c with _ | e
      · exact absurd pos (by decide)
      · have ix : nI (e + 1) - (1 : Int32) = nI e := by
          rw [← Int32.toInt_inj, i_sub (nI_toInt (by omega)) l1 (by omega), nI_toInt (by omega)]
          omega
        rw [ix, nI_clamp (by omega)]
        refine ⟨nI_in (by omega) (by omega), go _ (fun y => by omega) (fun e' he => ?_) (fun j hj => ?_)⟩
        · have : e' = e := by omega
          subst this
          rw [o3.1 24 (by decide)]
          exact (r e' (by omega)).2.1
        · rw [o3.1 24 (by decide)]
          by_cases y : j = e
          · rw [y]
            exact Int.le_refl _
          · exact (r e (by omega)).2.2.2.2.2 j (by omega)
    · refine absurd ?_ npos
      rw [he]
      exact nI_lt (a := 0) (by omega) (by omega)
  · have hc : c = 30 := by
      rw [e15] at h30
      have := i_nlt h30
      rw [nI_toInt (by omega)] at this
      omega
    exact c192_43 (wordR (by decide) u (fun _ => ⟨fun z => absurd z (by decide), fun _ => ⟨fun _ => badR ⟨Or.inl rfl, q⟩, fun y => absurd (by rw [e31, hc]; rfl) y⟩⟩) (fun y => absurd z y))
def CLoX (S : Nat × (Nat → Int32)) (d : Nat) (x : mX) (I' : rI0) (J' : rJ0) (I1 : rI0) : Prop := (¬ I1 28 8 = 0 ∧ ∃ I2 J2, crF I' J' I2 J2 ∧ I2 43 13 = I1 28 8 ∧ I2 43 14 = I1 28 4 ∧ ∀ Q' : Int32 → rI0 → rJ0 → Prop, Q' (-1 - I2 43 14) I2 J2 → wp S (d + 6) 193 26 [some (.ref 43), none] [] (wv x I' J') (rI x Q')) ∨ (I1 28 8 = 0 ∧ ∃ I2 J2 c, crF I' J' I2 J2 ∧ c ≤ 30 ∧ CRlX c I1 I2 ∧ I1 15 4 = nI c ∧ I2 43 31 = nI c ∧ I2 43 13 = I' 43 13 ∧ ∀ Q' : Int32 → rI0 → rJ0 → Prop, wp S (d + 6) 193 83 [some (.ref 43), some (.int (0 : Int32))] [] (wv x (mSet I2 45 590 (nI c)) J2) (rI x Q') → wp S (d + 6) 193 26 [some (.ref 43), none] [] (wv x I' J') (rI x Q'))
theorem cuLpX {Q : rI0 → rJ0 → Prop} (hR : R ≤ 8) (hC : C ≤ 8) : ∀ (m c p : Nat) (I I' : rI0) (J' : rJ0), c + m = 31 → (I 4 0 = nI R ∧ I 4 1 = nI C ∧ I' 45 1 = nI C ∧ I' 45 0 = nI R ∧ ∀ s, s < 64 → (SB (J 4 5) s ↔ 0 < (I' 45 (6 + s)).toInt)) → c ≤ 30 → Tck b n lim p I → I 28 8 = 0 → Nck b n lim p I' J' → CRlX c I I' → I 15 4 = nI c → I' 43 31 = nI c → (∀ I1, ccF I I1 → CLoX S' d' x' I' J' I1 → Q I1 J) → wp S (d + 10) 2 10 [some (.ref 30), some (.int (nI c))] [] (wv x I J) (rV x Q) := by
  intro m
  induction m with
  | zero =>
    intro c p I I' J' hm _ hc
    omega
  | succ m ih =>
    intro c p I I' J' hm hf hc t h8 u r e15 e31 k
    obtain ⟨cR, cC, gC, gR, hs⟩ := hf
    refine v2_30_10 ⟨fun _ => ⟨fun z => ?_, fun z => ?_⟩, fun q => absurd (nI_lt (b := 400) (by omega) (by omega)) q⟩
    · have z : uK b n lim p = 1 := t.2.2.1.symm.trans z
      refine k I ccF.rf (Or.inr ⟨h8, I', J', c, crF.rf, hc, r, e15, e31, rfl, fun Q' q => v193_43_26 ⟨fun _ => ⟨by decide, ?_⟩, fun y => absurd (by rw [u.2.2.1, z]; rfl) y⟩⟩)
      rw [e31]
      exact q
    · have z : ¬ uK b n lim p = 1 := fun q => z (t.2.2.1.trans q)
      have z0 : ¬ I' 43 9 = 0 := fun q => z (tokOf_1.mp (u.2.2.1.symm.trans q))
      refine cueEX (S' := S') (d' := d') (x' := x') hR hC cR cC gC gR hs hc t h8 u r e15 e31 (fun v I1 f1 rc => ?_)
      obtain ⟨I2, J2, fr, out, ev⟩ := rc
      have lift : ∀ Q' : Int32 → rI0 → rJ0 → Prop, ((v = 0 → Q' (-1 - I2 43 14) I2 J2) ∧ (v = 1 → wp S' (d' + 6) 193 26 [some (.ref 43), none] [] (wv x' I2 J2) (rI x' Q'))) → wp S' (d' + 6) 193 26 [some (.ref 43), none] [] (wv x' I' J') (rI x' Q') := fun Q' q => by
        refine v193_43_26 ⟨fun y => absurd y z0, fun _ => ?_⟩
        refine wcI_mono (ev (fun v A D => (v = 0 → Q' (-1 - A 43 14) A D) ∧ (v = 1 → wp S' (d' + 6) 193 26 [some (.ref 43), none] [] (wv x' A D) (rI x' Q'))) q) (fun r1 A D g => ⟨fun y => (g.1 y).1 rfl, fun y => wcI_mono (g.2 y) (fun r2 A2 D2 g2 => ⟨fun y2 => (g2.1 y2).1 rfl, fun y2 => (g2.2 y2).2 rfl⟩)⟩)
      rcases out with ⟨v0, f, a1, a2, a3, a4⟩ | ⟨v1, e13, hc30, a1, a2, a3, p1, b1, b2, b3, b4, b5⟩
      · subst v0
        exact ⟨fun _ => k I1 f1 (Or.inl ⟨by rw [a2]; exact a1, I2, J2, fr, by rw [a3, a2], a4.symm, fun Q' q => lift Q' ⟨fun _ => q, fun y => absurd y (by decide)⟩⟩), fun y => absurd rfl y⟩
      · subst v1
        refine ⟨fun y => absurd y (by decide), fun _ => ?_⟩
        rw [← nI_succ]
        have c4 : I1 4 = I 4 := f1 4 (by omega)
        have g45 : I2 45 = I' 45 := fr.1 45 (by omega)
        refine ih (c + 1) p1 I1 I2 J2 (by omega) ⟨by rw [c4]; exact cR, by rw [c4]; exact cC, by rw [g45]; exact gC, by rw [g45]; exact gR, by rw [g45]; exact hs⟩ (by omega) b3 b4 b5 a3 a1 a2 (fun I3 f3 lo => k I3 (f1.tr f3) ?_)
        rcases lo with ⟨w1, I4, J4, w2, w3, w4, w5⟩ | ⟨w1, I4, J4, c4', w2, w3, w4, w5, w6, w7, w8⟩
        · exact Or.inl ⟨w1, I4, J4, fr.tr w2, w3, w4, fun Q' q => lift Q' ⟨fun y => absurd y (by decide), fun _ => w5 Q' q⟩⟩
        · exact Or.inr ⟨w1, I4, J4, c4', fr.tr w2, w3, w4, w5, w6, w7.trans e13, fun Q' q => lift Q' ⟨fun y => absurd y (by decide), fun _ => w8 Q' q⟩⟩
/-- what CUES keep to -/
def CG (g : Nat → Int32) : Prop := gN g 590 ≤ 30 ∧ g 590 = nI (gN g 590) ∧ ∀ i, i < gN g 590 → (g (591 + 3 * i) = nI (gN g (591 + 3 * i)) ∧ gN g (591 + 3 * i) ≤ 600) ∧ (g (592 + 3 * i) = nI (gN g (592 + 3 * i)) ∧ gN g (592 + 3 * i) ≤ 3) ∧ (gN g (592 + 3 * i) ≠ 3 → g (593 + 3 * i) = nI (gN g (593 + 3 * i)) ∧ seB g (gN g (593 + 3 * i)) = true) ∧ ∀ j, j < i → gN g (591 + 3 * j) ≤ gN g (591 + 3 * i)
def hx1 (I : rI0) (J : rJ0) (I2 : rI0) (J2 : rJ0) : Prop := (∀ a, a ≠ 43 → I2 a = I a) ∧ (∀ k, ¬ (k = 0 ∨ (2 ≤ k ∧ k ≤ 5) ∨ (9 ≤ k ∧ k ≤ 13) ∨ k = 31) → I2 43 k = I 43 k) ∧ (∀ a, a ≠ 43 → J2 a = J a) ∧ ∀ k, k ≠ 15 → J2 43 k = J 43 k
def cxC (I : rI0) (I1 : rI0) : Prop := (∀ b, ¬ (b ≤ 1 ∨ b = 3 ∨ (12 ≤ b ∧ b ≤ 15) ∨ (24 ≤ b ∧ b ≤ 26) ∨ b = 28 ∨ b = 31) → I1 b = I b) ∧ (∀ q, q ≠ 9 → I1 0 q = I 0 q) ∧ I1 1 1 = 0
def cxR (I : rI0) (J : rJ0) (I2 : rI0) (J2 : rJ0) : Prop := (∀ b, ¬ (b = 43 ∨ b = 45 ∨ b = 47) → I2 b = I b) ∧ (∀ k, k = 30 ∨ 32 ≤ k → I2 43 k = I 43 k) ∧ (∀ a, a ≠ 43 → J2 a = J a) ∧ ∀ k, k ≠ 15 → J2 43 k = J 43 k
def CuOutX (S : Nat × (Nat → Int32)) (d : Nat) (x : mX) (I : rI0) (I' : rI0) (J' : rJ0) (v : Int32) (I1 : rI0) : Prop := ∃ I2 J2, I1 0 9 = I2 43 13 ∧ cxC I I1 ∧ cxR I' J' I2 J2 ∧ ((¬ I1 0 9 = 0 ∧ (∀ b, 3 ≤ b → b ≤ 14 → I1 b = I b) ∧ I1 31 = I 31 ∧ I2 45 = I' 45) ∨ (I1 0 9 = 0 ∧ NCu 3 I1 (I2 45) ∧ CG (I2 45) ∧ (∀ i, i < 590 → I2 45 i = I' 45 i) ∧ (∀ b, 4 ≤ b → b ≤ 11 → I1 b = I b) ∧ I1 31 6 = 0)) ∧ ∀ Q' : Int32 → rI0 → rJ0 → Prop, Q' v I2 J2 → wcI S (d + 6) 193 [.ref 43] x I' J' Q'
theorem cuesEX {Q : Int32 → rI0 → rJ0 → Prop} (hn : n ≤ 940) (e1 : I 1 1 = nI n) (e2 : I' 43 2 = nI n) (hb : ∀ i, i < 940 → I' 44 i &&& 255 = I 2 i) (hw : NRw 3 I J (I' 45)) (k : ∀ v I1, CuOutX S' d' x' I I' J' v I1 → Q v I1 J) : wcI S (d + 11) 107 [.ref 0] x I J Q := by
  obtain ⟨⟨R, C, hR, hC, cR, gR, cC, gC, ho⟩, hs, -⟩ := hw
  refine c107_0 (c67_1 ?_)
  rw [e1]
  refine openS (lim := 400) hn rfl (by omega) (fun I2 o2 _ e8 t2 => c2_30 ?_)
  have e22 : (mSet I 1 1 0) 2 = I 2 := mSet_ne (by decide)
  rw [e22] at t2
  have cI : ∀ a, ¬ (a = 1 ∨ a = 28) → I2 a = I a := fun a ha => by rw [o2 a (by omega), mSet_ne (by omega)]
  -- the reference's start
  have st : ∃ I3 J3, I3 43 13 = 0 ∧ I3 43 31 = 0 ∧ Nck (I 2) n 400 0 I3 J3 ∧ I3 45 = I' 45 ∧ hx1 I' J' I3 J3 ∧ ∀ Q' : Int32 → rI0 → rJ0 → Prop, wp S' (d' + 6) 193 26 [some (.ref 43), none] [] (wv x' I3 J3) (rI x' Q') → wcI S' (d' + 6) 193 [.ref 43] x' I' J' Q' := by
    have key : wcV S' (d' + 5) 161 [.ref 43] x' (mSet (mSet (mSet (mSet (mSet (mSet (mSet I' 43 0 0) 43 3 (nI n)) 43 2 0) 43 4 0) 43 5 400) 43 13 0) 43 31 0) J' (fun I3 J3 => Nf5 (mSet (mSet (mSet (mSet (mSet (mSet (mSet I' 43 0 0) 43 3 (nI n)) 43 2 0) 43 4 0) 43 5 400) 43 13 0) 43 31 0) J' I3 J3 ∧ Nck (I 2) n 400 0 I3 J3) := by
      refine nextS (b := I 2) (n := n) (lim := 400) (p := 0) ⟨hn, by omega, by omega, fun i hi => ?_, rfl, rfl, rfl⟩ (fun I3 J3 f3 t3 => ⟨f3, t3⟩)
      rw [mSet_ne (by decide), mSet_ne (by decide), mSet_ne (by decide), mSet_ne (by decide), mSet_ne (by decide), mSet_ne (by decide), mSet_ne (by decide)]
      exact hb i hi
    obtain ⟨nn, oo, ww, x1, I3, J3, x2, x3, f3, t3⟩ := key
    refine ⟨I3, J3, (f3.2.1 13 (by omega)).trans rfl, (f3.2.1 31 (by omega)).trans rfl, t3, ?_, ⟨fun a h1 => ?_, fun k hk => ?_, f3.2.2.1, f3.2.2.2⟩, fun Q' q => c193_43 (c150_43 ?_)⟩
    · rw [f3.1 45 (by decide), mSet_ne (by decide), mSet_ne (by decide), mSet_ne (by decide), mSet_ne (by decide), mSet_ne (by decide), mSet_ne (by decide), mSet_ne (by decide)]
    · rw [f3.1 a h1, mSet_ne h1, mSet_ne h1, mSet_ne h1, mSet_ne h1, mSet_ne h1, mSet_ne h1, mSet_ne h1]
    · rw [f3.2.1 k (by omega)]
      unfold mSet va_up
      rw [if_pos rfl, if_neg (by omega), if_pos rfl, if_neg (by omega), if_pos rfl, if_neg (by omega), if_pos rfl, if_neg (by omega), if_pos rfl, if_neg (by omega), if_pos rfl, if_neg (by omega), if_pos rfl, if_neg (by omega)]
    · have e2' : (mSet I' 43 0 0) 43 2 = nI n := e2
      rw [e2']
      exact ⟨nn, oo, ww, x1, I3, J3, x2, x3, q⟩
  obtain ⟨I3, J3, y13, y31, t3, y45, y0, ev⟩ := st
  have c4 : (mSet I2 15 4 0) 4 = I 4 := by rw [mSet_ne (by decide)]; exact cI 4 (by omega)
  refine cuLpX (S' := S') (d' := d') (x' := x') (b := I 2) (n := n) (lim := 400) hR hC 31 0 0 (mSet I2 15 4 0) I3 J3 (by omega) ⟨by rw [c4]; exact cR, by rw [c4]; exact cC, by rw [y45]; exact gC, by rw [y45]; exact gR, by rw [y45]; exact hs⟩ (by omega) (t2.w (by decide) (by decide)) (by rw [mSet_ne (by decide)]; exact e8) t3 (fun i hi => absurd hi (by omega)) rfl y31 (fun I4 f4 lo => ?_)
  have r4 : ∀ a, 3 ≤ a → a ≤ 14 → I4 a = I a := fun a h1 h2 => by rw [f4 a (by omega), mSet_ne (by omega)]; exact cI a (by omega)
  have w4 : ∀ a, ¬ (a = 1 ∨ a = 15 ∨ (24 ≤ a ∧ a ≤ 26) ∨ a = 28) → I4 a = I a := fun a ha => by rw [f4 a (by omega), mSet_ne (by omega)]; exact cI a (by omega)
  have w1 : I4 1 1 = 0 := by
    rw [f4 1 (by omega), mSet_ne (by decide), o2 1 (by omega)]
    rfl
  have wr : ∀ (I5 : rI0) (J5 : rJ0), crF I3 J3 I5 J5 → cxR I' J' I5 J5 := fun I5 J5 b2 => ⟨fun b hb => (b2.1 b (by omega)).trans (y0.1 b (by omega)), fun k hk => (b2.2.1 k (by omega)).trans (y0.2.1 k (by omega)), fun a ha => (b2.2.2.1 a ha).trans (y0.2.2.1 a ha), fun k h1 => (b2.2.2.2 k h1).trans (y0.2.2.2 k h1)⟩
  rcases lo with ⟨b1, I5, J5, b2, b3, b4, b5⟩ | ⟨b1, I5, J5, c, b2, hc, b3, b4, b5, b6, b7⟩
  · refine ⟨fun q => absurd q b1, fun _ => k _ _ ⟨I5, J5, b3.symm, ⟨fun b hb => by rw [mSet_ne (by omega)]; exact w4 b (by omega), fun q hq => by rw [show mSet I4 0 9 (I4 28 8) 0 q = I4 0 q from by unfold mSet va_up; rw [if_pos rfl, if_neg hq], w4 0 (by omega)], w1⟩, wr I5 J5 b2, Or.inl ⟨b1, fun a h1 h2 => by rw [mSet_ne (by omega)]; exact r4 a h1 h2, by rw [mSet_ne (by decide)]; exact w4 31 (by omega), (b2.1 45 (by omega)).trans y45⟩, fun Q' q => ev _ (b5 _ ?_)⟩⟩
    rw [b4]
    exact q
  · have fin : ∃ I6 J6, I6 43 13 = 0 ∧ NCu 3 (fun a => if a = 3 then I4 15 else if a = 12 then I4 24 else if a = 13 then I4 25 else I4 26) (I6 45) ∧ (CG (I6 45) ∧ cxR I' J' I6 J6 ∧ ∀ i, i < 590 → I6 45 i = I' 45 i) ∧ ∀ Q' : Int32 → rI0 → rJ0 → Prop, Q' (nI c) I6 J6 → wcI S' (d' + 6) 193 [.ref 43] x' I' J' Q' := by
      have w : wp S' (d' + 6) 193 83 [some (.ref 43), some (.int (nI 0))] [] (wv x' (mSet I5 45 590 (nI c)) J5) (rI x' (fun v I6 J6 => v = nI c ∧ I6 43 13 = 0 ∧ NCu 3 (fun a => if a = 3 then I4 15 else if a = 12 then I4 24 else if a = 13 then I4 25 else I4 26) (I6 45) ∧ (CG (I6 45) ∧ cxR I' J' I6 J6 ∧ ∀ i, i < 590 → I6 45 i = I' 45 i))) := by
        refine s83 hc (3 * c) 0 _ (by omega) (by rw [mSet_ne (by decide)]; exact b5) (fun I6 o6 f6 g6 => ⟨rfl, ?_, ⟨c, hc, b4, ?_, fun i hi => ?_⟩, ?_, ⟨fun b hb => ?_, fun k hk => ?_, fun a ha => ?_, fun k h1 => ?_⟩, fun i hi => ?_⟩)
        · rw [o6 43 (by decide), mSet_ne (by decide), b6]
          exact y13
        · rw [f6 590 (by omega)]
          unfold mSet va_up
          rw [if_pos rfl, if_pos rfl]
        · have g : ∀ j, j < 3 * c → I6 45 (591 + j) = I5 47 j := fun j hj => by rw [g6 j (by omega) hj, mSet_ne (by decide)]
          obtain ⟨-, w1, w2, w3, -, -⟩ := b3 i hi
          have h1 := g (3 * i) (by omega)
          have h2 := g (3 * i + 1) (by omega)
          have h3 := g (3 * i + 2) (by omega)
          rw [show 591 + (3 * i + 1) = 592 + 3 * i by omega] at h2
          rw [show 591 + (3 * i + 2) = 593 + 3 * i by omega] at h3
          exact ⟨w1.trans h1.symm, w2.trans h2.symm, w3.trans h3.symm⟩
        · have g : ∀ j, j < 3 * c → I6 45 (591 + j) = I5 47 j := fun j hj => by rw [g6 j (by omega) hj, mSet_ne (by decide)]
          have e590 : I6 45 590 = nI c := by
            rw [f6 590 (by omega)]
            unfold mSet va_up
            rw [if_pos rfl, if_pos rfl]
          have n590 : gN (I6 45) 590 = c := by
            unfold gN
            rw [e590, nI_toInt (by omega)]
            omega
          refine ⟨by omega, by rw [n590]; exact e590, fun i hi => ?_⟩
          rw [n590] at hi
          have v24 : ∀ j, j < c → I6 45 (591 + 3 * j) = I4 24 j := fun j hj => (g (3 * j) (by omega)).trans (b3 j hj).2.1.symm
          obtain ⟨⟨mm, m1, m2⟩, a2, a3, a4, ⟨dd, d1, d2, d3⟩, a6⟩ := b3 i hi
          have h1 := v24 i hi
          have h2 := g (3 * i + 1) (by omega)
          have h3 := g (3 * i + 2) (by omega)
          rw [show 591 + (3 * i + 1) = 592 + 3 * i by omega, ← a3, d2] at h2
          rw [show 591 + (3 * i + 2) = 593 + 3 * i by omega, ← a4] at h3
          have n1 : gN (I6 45) (591 + 3 * i) = mm := by
            unfold gN
            rw [h1, m2, nI_toInt (by omega)]
            omega
          have n2 : gN (I6 45) (592 + 3 * i) = dd := by
            unfold gN
            rw [h2, nI_toInt (by omega)]
            omega
          refine ⟨⟨by rw [n1, h1, m2], by omega⟩, ⟨by rw [n2, h2], by omega⟩, fun z => ?_, fun j hj => ?_⟩
          · rw [n2] at z
            obtain ⟨s, s1, s2, s3⟩ := d3 z
            have n3 : gN (I6 45) (593 + 3 * i) = s := by
              unfold gN
              rw [h3, s2, nI_toInt (by omega)]
              omega
            rw [n3]
            refine ⟨by rw [h3, s2], ?_⟩
            unfold seB
            rw [decide_eq_true s1, Bool.true_and, f6 (6 + s) (by omega)]
            refine decide_eq_true ?_
            rw [mSet_x (by omega)]
            exact s3
          · have q := a6 j hj
            rw [← v24 j (by omega), ← h1] at q
            unfold gN
            omega
        · rw [o6 b (by omega), mSet_ne (by omega)]
          exact (wr I5 J5 b2).1 b hb
        · rw [o6 43 (by decide), mSet_ne (by decide)]
          exact (wr I5 J5 b2).2.1 k hk
        · exact (wr I5 J5 b2).2.2.1 a ha
        · exact (wr I5 J5 b2).2.2.2 k h1
        · rw [f6 i (by omega), mSet_x (by omega), b2.1 45 (by omega), y45]
      obtain ⟨nn, oo, ww, x1, v, I6, J6, x2, x3, rfl, x5, x6, x7⟩ := w
      exact ⟨I6, J6, x5, x6, x7, fun Q' q => ev _ (b7 _ ⟨nn, oo, ww, x1, _, I6, J6, x2, x3, q⟩)⟩
    obtain ⟨I6, J6, e6, nc6, x7, ev6⟩ := fin
    refine ⟨fun _ => takeCuesE (fun I9 i9 e9 c9 => c6_31 ?_), fun q => absurd b1 q⟩
    have e34 : (mSet I9 31 6 0) 3 4 = nI c := by
      show I9 3 4 = _
      rw [e9, mSet_ne (by decide)]
      exact b4
    rw [e34]
    refine k _ _ ⟨I6, J6, ?_, ⟨fun b hb => ?_, fun q hq => ?_, ?_⟩, x7.2.1, Or.inr ⟨?_, ?_, x7.1, x7.2.2, fun b h1 h2 => ?_, rfl⟩, ev6⟩
    · rw [mSet_ne (by decide), i9 0 (by decide) (by decide) (by decide) (by decide), e6]
      exact b1
    · rw [mSet_ne (by omega), i9 b (by omega) (by omega) (by omega) (by omega), mSet_ne (by omega)]
      exact w4 b (by omega)
    · rw [mSet_ne (by decide), i9 0 (by decide) (by decide) (by decide) (by decide), show mSet I4 0 9 (I4 28 8) 0 q = I4 0 q from by unfold mSet va_up; rw [if_pos rfl, if_neg hq], w4 0 (by omega)]
    · rw [mSet_ne (by decide), i9 1 (by decide) (by decide) (by decide) (by decide), mSet_ne (by decide)]
      exact w1
    · rw [mSet_ne (by decide), i9 0 (by decide) (by decide) (by decide) (by decide)]
      exact b1
    · obtain ⟨m, m1, m2, m3, m4⟩ := nc6
      refine ⟨m, m1, ?_, m3, fun i hi => ?_⟩
      · rw [e34]
        exact b4.symm.trans m2
      · obtain ⟨q1, q2, q3⟩ := c9 i (by omega)
        obtain ⟨w1, w2, w3⟩ := m4 i hi
        refine ⟨?_, ?_, ?_⟩
        · show I9 12 i = _
          rw [q1, mSet_ne (by decide)]
          exact w1
        · show I9 13 i = _
          rw [q2, mSet_ne (by decide)]
          exact w2
        · show I9 14 i = _
          rw [q3, mSet_ne (by decide)]
          exact w3
    · rw [mSet_ne (by omega), i9 b (by omega) (by omega) (by omega) (by omega), mSet_ne (by omega)]
      exact w4 b (by omega)
end CX0
