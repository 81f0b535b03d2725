section CU1
variable {S S' : Nat × (Nat → Int32)} {d d' : Nat} {x x' : mX} {I I' : rI0} {J J' : rJ0} {b : Nat → Int32} {n lim p c R C : Nat}
/-- the reference behind a deed that has a seat -/
def seatK (S : Nat × (Nat → Int32)) (d : Nat) (x : mX) (R c : Nat) (I' : rI0) (J' : rJ0) (Q : Int32 → rI0 → rJ0 → Prop) : Prop := wcI S (d + 4) 166 [.ref 43, .int (0 : Int32), .int (nI R - (1 : Int32))] x I' J' (fun r3 I3 J3 => ((r3 = (0 : Int32) → Q (0 : Int32) I3 J3) ∧ (¬ r3 = (0 : Int32) → (((I3 43 9) = (2 : Int32) → (wcI S (d + 4) 184 [.ref 43, .int (I3 43 18), .int (I3 43 12)] x I3 J3 (fun r4 I4 J4 => ((r4 = (0 : Int32) → (wcI S (d + 4) 162 [.ref 43, .int (2 : Int32)] x I4 J4 (fun r5 I5 J5 => ((r5 = 0 ∨ r5 = 1) ∧ Q r5 I5 J5)))) ∧ (¬ r4 = (0 : Int32) → (¬ mOut (1 : Int32) 681 ∧ (¬ mOut (nI (3 * c) + (2 : Int32)) 90 ∧ (wcV S (d + 4) 161 [.ref 43] x (mSet I4 47 ((nI (3 * c) + (2 : Int32)).toNatClampNeg) (((I4 45 ((1 : Int32).toNatClampNeg)) * (I3 43 18)) + (I4 43 12))) J4 (fun I6 J6 => Q (1 : Int32) I6 J6))))))))) ∧ (¬ (I3 43 9) = (2 : Int32) → (wcI S (d + 4) 162 [.ref 43, .int (1 : Int32)] x I3 J3 (fun r7 I7 J7 => ((r7 = 0 ∨ r7 = 1) ∧ Q r7 I7 J7))))))))
theorem cuSeat {K : (Int32 → rI0 → rJ0 → Prop) → Prop} {p0 : Nat} {I0 B : rI0} {J0 : rJ0} {Q : Int32 → rI0 → rJ0 → Prop} (hR : R ≤ 8) (hC : C ≤ 8) (cR : I 4 0 = nI R) (cC : I 4 1 = nI C) (gC : I' 45 1 = nI C) (gR : I' 45 0 = nI R) (hs : ∀ s, s < 64 → (SB (J 4 5) s ↔ 0 < (I' 45 (6 + s)).toInt)) (hc : c < 30) (hp : p0 < p) (t : Tck b n lim p I) (h8 : I 28 8 = 0) (u : Nck b n lim p I' J') (r : CRl c I I') (w : RB (I 24 c) 600 ∧ I 24 c = I' 47 (3 * c) ∧ I 25 c = I' 47 (3 * c + 1)) (e31 : I' 43 31 = nI c) (e13 : I' 43 13 = I0 43 13) (fc : ccF B I) (fr : crF I0 J0 I' J') (ev : ∀ Q, seatK S' d' x' R c I' J' Q → K Q) (k : ∀ v I1, ccF B I1 → RefC K S' d' x' b n lim p0 c I0 J0 v I1 → Q v I1 J) : wcI S (d + 2) 4 [.ref 30, .int (nI c)] x I J (fun r6 I6 J6 => (r6 = 0 → Q 0 I6 J6) ∧ (¬ r6 = 0 → wcI S (d + 2) 78 [.ref 28, .int (59 : Int32)] x (mSet I6 15 4 (nI c + (1 : Int32))) J6 (fun r7 I7 J7 => (r7 = 0 ∨ r7 = 1) ∧ Q r7 I7 J7))) := by
  have l1 : (1 : Int32).toInt = 1 := by decide
  have l0 : (0 : Int32).toInt = 0 := by decide
  have hRC : R * C ≤ 64 := Nat.le_trans (Nat.mul_le_mul hR hC) (by omega)
  have tR : (nI R - (1 : Int32)).toInt = (R : Int) - 1 := i_sub (nI_toInt (by omega)) l1 (by omega)
  have tC : (nI C - (1 : Int32)).toInt = (C : Int) - 1 := i_sub (nI_toInt (by omega)) l1 (by omega)
  have i2 : nI (3 * c) + (2 : Int32) = nI (3 * c + 2) := nI_add (3 * c) 2
  have out : ∀ (f : Int32) (I1 : rI0), ccF B I1 → RefC K S' d' x' b n lim p0 c I0 J0 0 I1 → ((0 : Int32) = 0 → Q 0 I1 J) ∧ (¬ (0 : Int32) = 0 → wcI S (d + 2) 78 [.ref 28, .int (59 : Int32)] x (mSet I1 15 4 (nI c + (1 : Int32))) J (fun r7 I7 J7 => (r7 = 0 ∨ r7 = 1) ∧ Q r7 I7 J7)) := fun f I1 f1 rc => ⟨fun _ => k 0 I1 f1 rc, fun z => absurd rfl z⟩
  refine c4_30 ?_
  rw [cR]
  refine takeS t h8 (fun z => ⟨fun _ => out 1 _ (fc.tr (ccF.s (by omega))) (RefC.bad (by decide) t u fr (fun Q q => ev Q (takesR u (fun _ => ⟨fun _ => q, fun z => absurd rfl z⟩) (fun y => absurd y z) (fun y => absurd y z)))), fun z => absurd rfl z⟩) (fun z zr => ⟨fun _ => out 2 _ (fc.tr (ccF.s (by omega))) (RefC.bad (by decide) t u fr (fun Q q => ev Q (takesR u (fun y => absurd z y) (fun _ _ => ⟨fun _ => q, fun z => absurd rfl z⟩) (fun _ y1 y2 => absurd zr (fun y => y.elim y1 y2))))), fun z => absurd rfl z⟩) (fun z zl zh I1 o1 e17 e18 t1 => ⟨fun y => absurd y (by decide), fun _ => ?_⟩)
  -- the row is taken on both sides
  obtain ⟨rw_, hrw, erw⟩ := uV_b (b := b) (n := n) (lim := lim) (p := p) z
  have zl' := i_nlt zl
  have zh' := i_nlt zh
  rw [tR, erw, nI_toInt (by omega)] at zh'
  have tk : wcI S' (d' + 4) 166 [.ref 43, .int (0 : Int32), .int (nI R - (1 : Int32))] x' I' J' (fun r I3 J3 => r = 1 ∧ Nf5 (mSet I' 43 18 (uV b n p)) J' I3 J3 ∧ Nck b n lim (uE b n lim p) I3 J3) := takesR u (fun y => absurd z y) (fun _ y => absurd y (fun q => q.elim zl zh)) (fun _ _ _ I3 J3 f3 t3 => ⟨rfl, f3, t3⟩)
  obtain ⟨r', I3, J3, ⟨rfl, f3, t3⟩, ev3⟩ := ev_of tk
  have fr3 : crF I0 J0 I3 J3 := fr.tr ((crF.s (by omega)).tr (crF.nx f3))
  have e318 : I3 43 18 = nI rw_ := by
    rw [f3.2.1 18 (by omega), ← erw]
    rfl
  have g45 : I3 45 = I' 45 := by rw [f3.1 45 (by decide), mSet_ne (by decide)]
  have g47 : I3 47 = I' 47 := by rw [f3.1 47 (by decide), mSet_ne (by decide)]
  have c14 : I1 4 = I 4 := o1 4 (by decide)
  rw [c14, cC]
  have fc1 : ccF B I1 := fc.tr (ccF.o o1)
  refine withinS t1 e18 (fun y => ⟨fun _ => out 1 _ (fc1.tr (ccF.s (by omega))) (RefC.bad (by decide) t1 t3 fr3 (fun Q q => ev Q (ev3 _ ⟨fun z => absurd z (by decide), fun _ => ⟨fun z9 => absurd (tokOf_3.mp (t3.2.2.1.symm.trans z9)) y, fun _ => badR ⟨Or.inl rfl, q⟩⟩⟩))), fun z => absurd rfl z⟩) (fun y yr => ⟨fun _ => out 2 _ (fc1.tr (ccF.s (by omega))) (RefC.bad (by decide) t1 t3 fr3 (fun Q q => ev Q (ev3 _ ⟨fun z => absurd z (by decide), fun _ => ⟨fun _ => ?_, fun z9 => absurd (t3.2.2.1.trans (tokOf_3.mpr y)) z9⟩⟩))), fun z => absurd rfl z⟩) (fun y yl yh e16 => ⟨fun z => absurd z (by decide), fun _ => ?_⟩)
  · -- out of the row
    have e312 : I3 43 12 = uV b n (uE b n lim p) := t3.2.2.2.2.2.1 y
    rw [e318, e312]
    refine c184_43 ⟨by decide, ?_⟩
    rw [show I3 45 ((0 : Int32).toNatClampNeg) = nI R from (congrFun g45 0).trans gR]
    refine c151 ⟨fun q => absurd q (nI_nlt (b := 0) (by omega) (by omega)), fun _ => ⟨fun q => absurd (i_lt q) (by rw [tR, nI_toInt (by omega)]; omega), fun _ => ⟨fun z => absurd z (by decide), fun _ => ⟨by decide, ?_⟩⟩⟩⟩
    rw [show I3 45 ((1 : Int32).toNatClampNeg) = nI C from (congrFun g45 1).trans gC]
    exact c151 ⟨fun _ => ⟨fun _ => ⟨fun _ => badR ⟨Or.inl rfl, q⟩, fun z => absurd rfl z⟩, fun z => absurd rfl z⟩, fun q0 => ⟨fun _ => ⟨fun _ => ⟨fun _ => badR ⟨Or.inl rfl, q⟩, fun z => absurd rfl z⟩, fun z => absurd rfl z⟩, fun q1 => absurd yr (fun q => q.elim q0 q1)⟩⟩
  · -- the seat
    obtain ⟨cl, hcl, ecl⟩ := uV_b (b := b) (n := n) (lim := lim) (p := uE b n lim p) y
    have e312 : I3 43 12 = nI cl := (t3.2.2.2.2.2.1 y).trans ecl
    have yh' := i_nlt yh
    rw [tC, ecl, nI_toInt (by omega)] at yh'
    have hrR : rw_ + 1 ≤ R := by omega
    have hcC : cl + 1 ≤ C := by omega
    have m1 : rw_ * C + C ≤ R * C := by
      have := Nat.mul_le_mul_right C hrR
      rw [Nat.add_mul, Nat.one_mul] at this
      exact this
    have sq : (I1 28 7) * (nI C) + (I1 28 6) = nI (rw_ * C + cl) := by rw [e17, e16, erw, ecl, nI_mu, nI_add]
    have sr : (I3 45 ((1 : Int32).toNatClampNeg)) * (I3 43 18) + (I3 43 12) = nI (rw_ * C + cl) := by rw [show I3 45 ((1 : Int32).toNatClampNeg) = nI C from (congrFun g45 1).trans gC, e318, e312, nI_mu, nI_add, Nat.mul_comm]
    rw [c14, cC, sq]
    -- the reference's seatAt
    have at1 : 0 < (I' 45 (6 + (rw_ * C + cl))).toInt → wcI S' (d' + 4) 184 [.ref 43, .int (I3 43 18), .int (I3 43 12)] x' I3 J3 (fun v A D => v = 1 ∧ A = I3 ∧ D = J3) := fun pos => by
      rw [e318, e312]
      refine c184_43 ⟨by decide, ?_⟩
      rw [show I3 45 ((0 : Int32).toNatClampNeg) = nI R from (congrFun g45 0).trans gR]
      refine c151 ⟨fun q => absurd q (nI_nlt (b := 0) (by omega) (by omega)), fun _ => ⟨fun q => absurd (i_lt q) (by rw [tR, nI_toInt (by omega)]; omega), fun _ => ⟨fun z => absurd z (by decide), fun _ => ⟨by decide, ?_⟩⟩⟩⟩
      rw [show I3 45 ((1 : Int32).toNatClampNeg) = nI C from (congrFun g45 1).trans gC]
      have ix : (6 : Int32) + nI C * nI rw_ + nI cl = nI (6 + (rw_ * C + cl)) := by
        show nI 6 + nI C * nI rw_ + nI cl = _
        rw [nI_mu, nI_add, nI_add, Nat.mul_comm C rw_, Nat.add_assoc]
      refine c151 ⟨fun q => absurd q (nI_nlt (b := 0) (by omega) (by omega)), fun _ => ⟨fun q => absurd (i_lt q) (by rw [tC, nI_toInt (by omega)]; omega), fun _ => ⟨fun z => absurd z (by decide), fun _ => ⟨by decide, ?_⟩⟩⟩⟩
      rw [show I3 45 ((1 : Int32).toNatClampNeg) = nI C from (congrFun g45 1).trans gC, ix, nI_clamp (by omega), g45]
      exact ⟨nI_in (by omega) (by omega), fun _ => ⟨rfl, rfl, rfl⟩, fun z => absurd (Int32.lt_iff_toInt_lt.mpr (by rw [l0]; exact pos)) z⟩
    have at0 : ¬ 0 < (I' 45 (6 + (rw_ * C + cl))).toInt → wcI S' (d' + 4) 184 [.ref 43, .int (I3 43 18), .int (I3 43 12)] x' I3 J3 (fun v A D => v = 0 ∧ A = I3 ∧ D = J3) := fun pos => by
      rw [e318, e312]
      refine c184_43 ⟨by decide, ?_⟩
      rw [show I3 45 ((0 : Int32).toNatClampNeg) = nI R from (congrFun g45 0).trans gR]
      refine c151 ⟨fun q => absurd q (nI_nlt (b := 0) (by omega) (by omega)), fun _ => ⟨fun q => absurd (i_lt q) (by rw [tR, nI_toInt (by omega)]; omega), fun _ => ⟨fun z => absurd z (by decide), fun _ => ⟨by decide, ?_⟩⟩⟩⟩
      rw [show I3 45 ((1 : Int32).toNatClampNeg) = nI C from (congrFun g45 1).trans gC]
      have ix : (6 : Int32) + nI C * nI rw_ + nI cl = nI (6 + (rw_ * C + cl)) := by
        show nI 6 + nI C * nI rw_ + nI cl = _
        rw [nI_mu, nI_add, nI_add, Nat.mul_comm C rw_, Nat.add_assoc]
      refine c151 ⟨fun q => absurd q (nI_nlt (b := 0) (by omega) (by omega)), fun _ => ⟨fun q => absurd (i_lt q) (by rw [tC, nI_toInt (by omega)]; omega), fun _ => ⟨fun z => absurd z (by decide), fun _ => ⟨by decide, ?_⟩⟩⟩⟩
      rw [show I3 45 ((1 : Int32).toNatClampNeg) = nI C from (congrFun g45 1).trans gC, ix, nI_clamp (by omega), g45]
      refine ⟨nI_in (by omega) (by omega), fun z => absurd ?_ pos, fun _ => ⟨rfl, rfl, rfl⟩⟩
      have := i_lt z
      rw [l0] at this
      exact this
    have n9 : I3 43 9 = 2 := t3.2.2.1.trans (tokOf_3.mpr y)
    refine isSeatE_4 (fun f => ⟨fun _ => failS ⟨Or.inl rfl, out 2 _ (fc1.tr (ccF.s (by omega))) (RefC.bad (by decide) t1 t3 fr3 (fun Q q => ev Q (ev3 _ ⟨fun z => absurd z (by decide), fun _ => ⟨fun _ => wcI_mono (at0 ?_) (fun v A D g => ?_), fun z9 => absurd n9 z9⟩⟩)))⟩, fun z => absurd rfl z⟩) (fun s hs64 es hb => ⟨fun z => absurd z (by decide), fun _ => ⟨nI_in (by omega) (by omega), ?_⟩⟩)
    · exact fun pos => f (rw_ * C + cl) (by omega) rfl ((hs _ (by omega)).mpr pos)
    · obtain ⟨rfl, rfl, rfl⟩ := g
      exact ⟨fun _ => badR ⟨Or.inl rfl, q⟩, fun z => absurd rfl z⟩
    · have es := nI_ij (by omega) (by omega) es
      subst es
      have pos := (hs _ hs64).mp hb
      rw [nI_clamp (by omega)]
      have ts : Tst b n lim (uE b n lim (uE b n lim p)) (mSet I1 26 c (nI (rw_ * C + cl))) := ⟨t1.2.1.1, t1.2.1.2.1, by rw [mSet_ne (by decide)]; exact t1.2.1.2.2.1, by rw [mSet_ne (by decide)]; exact t1.2.1.2.2.2⟩
      refine readS ts (fun I5 o5 t5 => ⟨fun z => absurd z (by decide), fun _ => ?_⟩)
      have q5 : ∀ a, a ≠ 28 → I5 a = (mSet I1 26 c (nI (rw_ * C + cl))) a := o5.1
      have g := uE_le (b := b) (lim := lim) t.1
      have g2 := uE_le (b := b) (lim := lim) t1.1
      -- the reference's end
      have nx : wcV S' (d' + 4) 161 [.ref 43] x' (mSet I3 47 (3 * c + 2) (nI (rw_ * C + cl))) J3 (fun I6 J6 => Nf5 (mSet I3 47 (3 * c + 2) (nI (rw_ * C + cl))) J3 I6 J6 ∧ Nck b n lim (uE b n lim (uE b n lim p)) I6 J6) := nextS ⟨t3.2.1.1, t3.2.1.2.1, t3.2.1.2.2.1, by rw [mSet_ne (by decide)]; exact t3.2.1.2.2.2.1, by rw [mSet_ne (by decide)]; exact t3.2.1.2.2.2.2⟩ (fun I6 J6 f6 t6 => ⟨f6, t6⟩)
      obtain ⟨nn, oo, ww, x1, I6, J6, x2, x3, f6, t6⟩ := nx
      have fr6 : crF I0 J0 I6 J6 := fr3.tr (crF.h.tr (crF.nx f6))
      refine cuEnd (K := K) (p0 := p0) (I0 := I0) (J0 := J0) (B := B) hc (by omega) t5 ((o5.2 8 (by omega)).trans ?_) t6 ?_ ?_ ?_ ((fc1.tr (ccF.s (by omega))).tr (ccF.o q5)) fr6 (fun Q q => ev Q (ev3 _ ⟨fun z => absurd z (by decide), fun _ => ⟨fun _ => wcI_mono (at1 pos) (fun v A D g => ?_), fun z9 => absurd n9 z9⟩⟩)) k
      · rw [mSet_ne (by decide)]
        exact e18
      · refine CRl.up (I := I) (I' := I') r (fun a h1 h2 i hi => ?_) (fun j hj => ?_) ⟨?_, ?_, ?_, ?_⟩
        · rw [q5 a (by omega), mSet_x (by omega), o1 a (by omega)]
        · rw [f6.1 47 (by decide), mSet_x (by omega), g47]
        · rw [q5 24 (by decide), mSet_ne (by decide), o1 24 (by decide)]
          exact w.1
        · rw [q5 24 (by decide), mSet_ne (by decide), o1 24 (by decide), f6.1 47 (by decide), mSet_x (by omega), g47]
          exact w.2.1
        · rw [q5 25 (by decide), mSet_ne (by decide), o1 25 (by decide), f6.1 47 (by decide), mSet_x (by omega), g47]
          exact w.2.2
        · rw [q5 26 (by decide), f6.1 47 (by decide)]
          unfold mSet va_up
          rw [if_pos rfl, if_pos rfl, if_pos rfl, if_pos rfl]
      · rw [f6.2.1 31 (by omega), mSet_ne (by decide), f3.2.1 31 (by omega), mSet_x (by omega)]
        exact e31
      · rw [f6.2.1 13 (by omega), mSet_ne (by decide), f3.2.1 13 (by omega), mSet_x (by omega)]
        exact e13
      · obtain ⟨rfl, rfl, rfl⟩ := g
        refine ⟨fun z => absurd z (by decide), fun _ => ⟨by decide, by rw [i2]; exact nI_in (by omega) (by omega), ?_⟩⟩
        rw [sr, i2, nI_clamp (by omega)]
        exact ⟨nn, oo, ww, x1, I6, J6, x2, x3, q⟩
end CU1
