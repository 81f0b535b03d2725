section CU2
variable {S S' : Nat × (Nat → Int32)} {d d' : Nat} {x x' : mX} {I I' : rI0} {J J' : rJ0} {b : Nat → Int32} {n lim p c R C : Nat}
theorem Tst.w {a k : Nat} {v : Int32} (h : Tst b n lim p I) (h2 : 2 ≠ a) (h28 : 28 ≠ a) : Tst b n lim p (mSet I a k v) := ⟨h.1, h.2.1, by rw [mSet_ne h2]; exact h.2.2.1, by rw [mSet_ne h28]; exact h.2.2.2⟩
theorem Tck.w {a k : Nat} {v : Int32} (h : Tck b n lim p I) (h2 : 2 ≠ a) (h28 : 28 ≠ a) : Tck b n lim p (mSet I a k v) := ⟨h.1, h.2.1.w h2 h28, by rw [mSet_ne h28]; exact h.2.2⟩
theorem Nst.s47 {k : Nat} {v : Int32} (h : Nst b n lim p I) : Nst b n lim p (mSet I 47 k v) := ⟨h.1, h.2.1, h.2.2.1, by rw [mSet_ne (by decide)]; exact h.2.2.2.1, by rw [mSet_ne (by decide)]; exact h.2.2.2.2⟩
theorem cuDeed {K : (Int32 → rI0 → rJ0 → Prop) → Prop} {p0 : Nat} {I0 B : rI0} {J0 : rJ0} {Q : Int32 → rI0 → rJ0 → Prop} {dd : Int32} (hR : R ≤ 8) (hC : C ≤ 8) (cR : I 4 0 = nI R) (cC : I 4 1 = nI C) (gC : I' 45 1 = nI C) (gR : I' 45 0 = nI R) (hs : ∀ s, s < 64 → (SB (J 4 5) s ↔ 0 < (I' 45 (6 + s)).toInt)) (hd : dd = 0 ∨ dd = 1 ∨ dd = 2 ∨ dd = 3) (hc : c < 30) (hp : p0 < p) (t : Tck b n lim p I) (h8 : I 28 8 = 0) (u : Nck b n lim p I' J') (r : CRl c I I') (w : RB (I 24 c) 600 ∧ I 24 c = I' 47 (3 * c)) (e31 : I' 43 31 = nI c) (e13 : I' 43 13 = I0 43 13) (fc : ccF B I) (fr : crF I0 J0 I' J') (ev : ∀ Q, wp S' (d' + 5) 192 140 [some (.ref 43), some (.int (nI (3 * c))), none, none] [.int dd] (wv x' I' J') (rI x' Q) → K Q) (k : ∀ v I1, ccF B I1 → RefC K S' d' x' b n lim p0 c I0 J0 v I1 → Q v I1 J) : wcV S (d + 8) 70 [.ref 28] x (mSet (mSet I 25 c dd) 26 c (-1 : Int32)) J (fun I4 J4 => ((dd = (3 : Int32) → wcI S (d + 8) 78 [.ref 28, .int (59 : Int32)] x (mSet I4 15 4 (nI c + (1 : Int32))) J4 (fun r7 I7 J7 => (r7 = 0 ∨ r7 = 1) ∧ Q r7 I7 J7)) ∧ (¬ dd = (3 : Int32) → wcI S (d + 8) 4 [.ref 30, .int (nI c)] x I4 J4 (fun r6 I6 J6 => (r6 = 0 → Q 0 I6 J6) ∧ (¬ r6 = 0 → wcI S (d + 8) 78 [.ref 28, .int (59 : Int32)] x (mSet I6 15 4 (nI c + (1 : Int32))) J6 (fun r7 I7 J7 => (r7 = 0 ∨ r7 = 1) ∧ Q r7 I7 J7)))))) := by
  have g := uE_le (b := b) (lim := lim) t.1
  have i1 : nI (3 * c) + (1 : Int32) = nI (3 * c + 1) := nI_add (3 * c) 1
  have i2 : nI (3 * c) + (2 : Int32) = nI (3 * c + 2) := nI_add (3 * c) 2
  have nx : wcV S' (d' + 4) 161 [.ref 43] x' (mSet (mSet I' 47 (3 * c + 1) dd) 47 (3 * c + 2) (-1 : Int32)) J' (fun I6 J6 => Nf5 (mSet (mSet I' 47 (3 * c + 1) dd) 47 (3 * c + 2) (-1 : Int32)) J' I6 J6 ∧ Nck b n lim (uE b n lim p) I6 J6) := nextS (u.2.1.s47.s47) (fun I6 J6 f6 t6 => ⟨f6, t6⟩)
  obtain ⟨nn, oo, ww, x1, I6, J6, x2, x3, f6, t6⟩ := nx
  have fr6 : crF I0 J0 I6 J6 := fr.tr ((crF.h.tr crF.h).tr (crF.nx f6))
  have nd : ¬ dd < 0 := by rcases hd with z | z | z | z <;> subst z <;> decide
  have ev2 : ∀ Q, ((dd = (3 : Int32) → Q (1 : Int32) I6 J6) ∧ (¬ dd = (3 : Int32) → seatK S' d' x' R c I6 J6 Q)) → K Q := fun Q q => ev Q (v192_43_140 ⟨fun z => absurd z nd, fun _ => ⟨by rw [i1]; exact nI_in (by omega) (by omega), by rw [i2]; exact nI_in (by omega) (by omega), by
    rw [i1, i2, nI_clamp (by omega), nI_clamp (by omega)]
    refine ⟨nn, oo, ww, x1, I6, J6, x2, x3, q.1, fun z => ⟨by decide, ?_⟩⟩
    have e0 : I6 45 ((0 : Int32).toNatClampNeg) = nI R := by
      show I6 45 0 = _
      rw [f6.1 45 (by decide), mSet_ne (by decide), mSet_ne (by decide)]
      exact gR
    rw [e0]
    have q2 := q.2 z
    unfold seatK at q2
    rw [i2, nI_clamp (by omega)] at q2
    exact q2⟩⟩)
  have f47 : ∀ j, ¬ (j = 3 * c + 1 ∨ j = 3 * c + 2) → I6 47 j = I' 47 j := fun j hj => by rw [f6.1 47 (by decide), mSet_x (by omega), mSet_x (by omega)]
  have e1 : I6 47 (3 * c + 1) = dd := by
    rw [f6.1 47 (by decide), mSet_x (by omega)]
    unfold mSet va_up
    rw [if_pos rfl, if_pos rfl]
  have e2 : I6 47 (3 * c + 2) = -1 := by
    rw [f6.1 47 (by decide)]
    unfold mSet va_up
    rw [if_pos rfl, if_pos rfl]
  refine readS ((t.2.1.w (by decide) (by decide)).w (by decide) (by decide)) (fun I4 o4 t4 => ?_)
  have q4 : ∀ a, a ≠ 28 → I4 a = (mSet (mSet I 25 c dd) 26 c (-1 : Int32)) a := o4.1
  have h84 : I4 28 8 = 0 := by
    rw [o4.2 8 (by omega), mSet_ne (by decide), mSet_ne (by decide)]
    exact h8
  have f24 : I4 24 = I 24 := by rw [q4 24 (by decide), mSet_ne (by decide), mSet_ne (by decide)]
  have f4 : I4 4 = I 4 := by rw [q4 4 (by decide), mSet_ne (by decide), mSet_ne (by decide)]
  have a25 : I4 25 c = dd := by
    rw [q4 25 (by decide), mSet_ne (by decide)]
    unfold mSet va_up
    rw [if_pos rfl, if_pos rfl]
  have a26 : I4 26 c = -1 := by
    rw [q4 26 (by decide)]
    unfold mSet va_up
    rw [if_pos rfl, if_pos rfl]
  have old : ∀ a, 24 ≤ a → a ≤ 26 → ∀ i, i ≠ c → I4 a i = I a i := fun a h1 h2 i hi => by rw [q4 a (by omega), mSet_x (by omega), mSet_x (by omega)]
  have fc4 : ccF B I4 := (fc.tr ((ccF.s (by omega)).tr (ccF.s (by omega)))).tr (ccF.o q4)
  have e31' : I6 43 31 = nI c := by rw [f6.2.1 31 (by omega), mSet_ne (by decide), mSet_ne (by decide)]; exact e31
  have e13' : I6 43 13 = I0 43 13 := by rw [f6.2.1 13 (by omega), mSet_ne (by decide), mSet_ne (by decide)]; exact e13
  have g45 : I6 45 = I' 45 := by rw [f6.1 45 (by decide), mSet_ne (by decide), mSet_ne (by decide)]
  refine ⟨fun y3 => cuEnd (K := K) (p0 := p0) (I0 := I0) (J0 := J0) (B := B) hc (by omega) t4 h84 t6 (CRl.up r old (fun j hj => f47 j (by omega)) ⟨by rw [f24]; exact w.1, by rw [f24, f47 (3 * c) (by omega)]; exact w.2, by rw [a25, e1], by rw [a26, e2]⟩) e31' e13' fc4 fr6 (fun Q q => ev2 Q ⟨fun _ => q, fun z => absurd y3 z⟩) k, fun n3 => cuSeat (K := K) (p0 := p0) (I0 := I0) (J0 := J0) (B := B) hR hC (by rw [f4]; exact cR) (by rw [f4]; exact cC) (by rw [g45]; exact gC) (by rw [g45]; exact gR) (by rw [g45]; exact hs) hc (by omega) t4 h84 t6 (fun i hi => ?_) ⟨by rw [f24]; exact w.1, by rw [f24, f47 (3 * c) (by omega)]; exact w.2, by rw [a25, e1]⟩ e31' e13' fc4 fr6 (fun Q q => ev2 Q ⟨fun z => absurd z n3, fun _ => q⟩) k⟩
  rw [old 24 (by omega) (by omega) i (by omega), old 25 (by omega) (by omega) i (by omega), old 26 (by omega) (by omega) i (by omega), f47 (3 * i) (by omega), f47 (3 * i + 1) (by omega), f47 (3 * i + 2) (by omega)]
  exact r i hi
theorem cu71 {K : (Int32 → rI0 → rJ0 → Prop) → Prop} {p0 : Nat} {I0 B : rI0} {J0 : rJ0} {Q : Int32 → rI0 → rJ0 → Prop} {L : Int32} (hR : R ≤ 8) (hC : C ≤ 8) (cR : I 4 0 = nI R) (cC : I 4 1 = nI C) (gC : I' 45 1 = nI C) (gR : I' 45 0 = nI R) (hs : ∀ s, s < 64 → (SB (J 4 5) s ↔ 0 < (I' 45 (6 + s)).toInt)) (hc : c < 30) (hp : p0 < p) (t : Tck b n lim p I) (h8 : I 28 8 = 0) (u : Nck b n lim p I' J') (r : CRl c I I') (e31 : I' 43 31 = nI c) (e13 : I' 43 13 = I0 43 13) (fc : ccF B I) (fr : crF I0 J0 I' J') (ev : ∀ Q, wp S' (d' + 5) 192 62 [some (.ref 43), some (.int (nI (3 * c))), none, none] [.int L, .ref 43] (wv x' I' J') (rI x' Q) → K Q) (k : ∀ v I1, ccF B I1 → RefC K S' d' x' b n lim p0 c I0 J0 v I1 → Q v I1 J) : wp S (d + 9) 3 71 [some (.ref 30), some (.int (nI c)), none, none] [.int L] (wv x I J) (rI x Q) := by
  have l600 : (600 : Int32).toInt = 600 := by decide
  refine v3_30_71 (takeS t h8 (fun z => ⟨fun _ => k 0 _ (fc.tr (ccF.s (by omega))) (RefC.bad (by decide) t u fr (fun Q q => ev Q (v192_43_62 (takesR u (fun _ => ⟨fun _ => q, fun z => absurd rfl z⟩) (fun y => absurd y z) (fun y => absurd y z))))), fun z => absurd rfl z⟩) (fun z zr => ⟨fun _ => k 0 _ (fc.tr (ccF.s (by omega))) (RefC.bad (by decide) t u fr (fun Q q => ev Q (v192_43_62 (takesR u (fun y => absurd z y) (fun _ _ => ⟨fun _ => q, fun z => absurd rfl z⟩) (fun _ y1 y2 => absurd zr (fun y => y.elim y1 y2)))))), fun z => absurd rfl z⟩) (fun z zl zh I1 o1 e17 e18 t1 => ⟨fun y => absurd y (by decide), fun _ => ⟨nI_in (by omega) (by omega), ?_⟩⟩))
  obtain ⟨mv, hmv, emv⟩ := uV_b (b := b) (n := n) (lim := lim) (p := p) z
  have zh' := i_nlt zh
  rw [l600, emv, nI_toInt (by omega)] at zh'
  have g := uE_le (b := b) (lim := lim) t.1
  have tk : wcI S' (d' + 4) 166 [.ref 43, .int L, .int (600 : Int32)] x' I' J' (fun r I3 J3 => r = 1 ∧ Nf5 (mSet I' 43 18 (uV b n p)) J' I3 J3 ∧ Nck b n lim (uE b n lim p) I3 J3) := takesR u (fun y => absurd z y) (fun _ y => absurd y (fun q => q.elim zl zh)) (fun _ _ _ I3 J3 f3 t3 => ⟨rfl, f3, t3⟩)
  obtain ⟨r', I3, J3, ⟨rfl, f3, t3⟩, ev3⟩ := ev_of tk
  have e318 : I3 43 18 = uV b n p := by
    rw [f3.2.1 18 (by omega)]
    rfl
  have g45 : I3 45 = I' 45 := by rw [f3.1 45 (by decide), mSet_ne (by decide)]
  have g47 : I3 47 = I' 47 := by rw [f3.1 47 (by decide), mSet_ne (by decide)]
  have u3 : Nck b n lim (uE b n lim p) (mSet I3 47 (3 * c) (uV b n p)) J3 := t3.cg (mSet_ne (by decide)) (fun k hk => by rw [mSet_ne (by decide)])
  have t1' : Tck b n lim (uE b n lim p) (mSet I1 24 c (uV b n p)) := t1.w (by decide) (by decide)
  have fr3 : crF I0 J0 (mSet I3 47 (3 * c) (uV b n p)) J3 := (fr.tr ((crF.s (by omega)).tr (crF.nx f3))).tr crF.h
  have fc1 : ccF B (mSet I1 24 c (uV b n p)) := (fc.tr (ccF.o o1)).tr (ccF.s (by omega))
  have h81 : (mSet I1 24 c (uV b n p)) 28 8 = 0 := by rw [mSet_ne (by decide)]; exact e18
  have ev4 : ∀ Q, wcI S' (d' + 4) 163 [.ref 43, .long (7364985 : Int64)] x' (mSet I3 47 (3 * c) (uV b n p)) J3 (fun r2 I2 J2 => ((r2 = (0 : Int32) → (wcI S' (d' + 4) 163 [.ref 43, .long (1751741299 : Int64)] x' I2 J2 (fun r3 I3 J3 => ((r3 = (0 : Int32) → (wcI S' (d' + 4) 163 [.ref 43, .long (1718773093 : Int64)] x' I3 J3 (fun r4 I4 J4 => ((r4 = (0 : Int32) → (wcI S' (d' + 4) 163 [.ref 43, .long (495874305132 : Int64)] x' I4 J4 (fun r5 I5 J5 => ((r5 = (0 : Int32) → wp S' (d' + 5) 192 140 [some (.ref 43), some (.int (nI (3 * c))), none, none] [.int (-1 : Int32)] (wv x' I5 J5) (rI x' Q)) ∧ (¬ r5 = (0 : Int32) → wp S' (d' + 5) 192 140 [some (.ref 43), some (.int (nI (3 * c))), none, none] [.int (3 : Int32)] (wv x' I5 J5) (rI x' Q)))))) ∧ (¬ r4 = (0 : Int32) → wp S' (d' + 5) 192 140 [some (.ref 43), some (.int (nI (3 * c))), none, none] [.int (2 : Int32)] (wv x' I4 J4) (rI x' Q)))))) ∧ (¬ r3 = (0 : Int32) → wp S' (d' + 5) 192 140 [some (.ref 43), some (.int (nI (3 * c))), none, none] [.int (1 : Int32)] (wv x' I3 J3) (rI x' Q)))))) ∧ (¬ r2 = (0 : Int32) → wp S' (d' + 5) 192 140 [some (.ref 43), some (.int (nI (3 * c))), none, none] [.int (0 : Int32)] (wv x' I2 J2) (rI x' Q)))) → K Q := fun Q q => ev Q (v192_43_62 (ev3 _ ⟨fun z => absurd z (by decide), fun _ => ⟨nI_in (by omega) (by omega), by
    rw [nI_clamp (by omega), e318]
    exact q⟩⟩))
  have evn : uW b n lim (uE b n lim p) = 7364985 ∨ (¬ uW b n lim (uE b n lim p) = 7364985) := Decidable.em _
  have hs' : ∀ s, s < 64 → (SB (J 4 5) s ↔ 0 < ((mSet I3 47 (3 * c) (uV b n p)) 45 (6 + s)).toInt) := by
    rw [mSet_ne (show 45 ≠ 47 by decide), g45]
    exact hs
  have c4 : (mSet I1 24 c (uV b n p)) 4 = I 4 := by rw [mSet_ne (by decide)]; exact o1 4 (by decide)
  have g5 : (mSet I3 47 (3 * c) (uV b n p)) 45 = I' 45 := by rw [mSet_ne (by decide)]; exact g45
  have rr : CRl c (mSet I1 24 c (uV b n p)) (mSet I3 47 (3 * c) (uV b n p)) := fun i hi => by
    rw [mSet_x (by omega), mSet_ne (show 25 ≠ 24 by decide), mSet_ne (show 26 ≠ 24 by decide), mSet_x (by omega), mSet_x (by omega), mSet_x (by omega), o1 24 (by decide), o1 25 (by decide), o1 26 (by decide), g47]
    exact r i hi
  have w24 : (mSet I1 24 c (uV b n p)) 24 c = uV b n p := by
    unfold mSet va_up
    rw [if_pos rfl, if_pos rfl]
  have w47 : (mSet I3 47 (3 * c) (uV b n p)) 47 (3 * c) = uV b n p := by
    unfold mSet va_up
    rw [if_pos rfl, if_pos rfl]
  have ww : RB ((mSet I1 24 c (uV b n p)) 24 c) 600 ∧ (mSet I1 24 c (uV b n p)) 24 c = (mSet I3 47 (3 * c) (uV b n p)) 47 (3 * c) := ⟨by rw [w24]; exact ⟨mv, by omega, emv⟩, by rw [w24, w47]⟩
  have e31' : (mSet I3 47 (3 * c) (uV b n p)) 43 31 = nI c := by rw [mSet_ne (by decide), f3.2.1 31 (by omega), mSet_x (by omega)]; exact e31
  have e13' : (mSet I3 47 (3 * c) (uV b n p)) 43 13 = I0 43 13 := by rw [mSet_ne (by decide), f3.2.1 13 (by omega), mSet_x (by omega)]; exact e13
  have deed : ∀ dd : Int32, (dd = 0 ∨ dd = 1 ∨ dd = 2 ∨ dd = 3) → (∀ Q, wp S' (d' + 5) 192 140 [some (.ref 43), some (.int (nI (3 * c))), none, none] [.int dd] (wv x' (mSet I3 47 (3 * c) (uV b n p)) J3) (rI x' Q) → K Q) → (¬ mOut (nI c) 30 ∧ (¬ mOut (nI c) 30 ∧ wcV S (d + 8) 70 [.ref 28] x (mSet (mSet (mSet I1 24 c (uV b n p)) 25 c dd) 26 c (-1 : Int32)) J (fun I4 J4 => ((dd = (3 : Int32) → wcI S (d + 8) 78 [.ref 28, .int (59 : Int32)] x (mSet I4 15 4 (nI c + (1 : Int32))) J4 (fun r7 I7 J7 => (r7 = 0 ∨ r7 = 1) ∧ Q r7 I7 J7)) ∧ (¬ dd = (3 : Int32) → wcI S (d + 8) 4 [.ref 30, .int (nI c)] x I4 J4 (fun r6 I6 J6 => (r6 = 0 → Q 0 I6 J6) ∧ (¬ r6 = 0 → wcI S (d + 8) 78 [.ref 28, .int (59 : Int32)] x (mSet I6 15 4 (nI c + (1 : Int32))) J6 (fun r7 I7 J7 => (r7 = 0 ∨ r7 = 1) ∧ Q r7 I7 J7)))))))) := fun dd hd evd => ⟨nI_in (by omega) (by omega), nI_in (by omega) (by omega), cuDeed (K := K) (p0 := p0) (I0 := I0) (J0 := J0) (B := B) hR hC (by rw [c4]; exact cR) (by rw [c4]; exact cC) (by rw [g5]; exact gC) (by rw [g5]; exact gR) hs' hd hc (by omega) t1' h81 u3 rr ww e31' e13' fc1 fr3 evd k⟩
  rw [nI_clamp (by omega), e17]
  refine amongS_5 t1' (fun y => ⟨fun q => absurd q (by decide), fun _ => deed 0 (Or.inl rfl) (fun Q q => ev4 Q (wordR (by decide) u3 (fun _ => ⟨fun z => absurd z (by decide), fun _ => q⟩) (fun z => absurd y z)))⟩) (fun y => ⟨fun q => absurd q (by decide), fun _ => deed 1 (Or.inr (Or.inl rfl)) (fun Q q => ev4 Q (wordR (by decide) u3 (fun z => absurd (y.symm.trans z) (by decide)) (fun _ => ⟨fun _ => wordR (by decide) u3 (fun _ => ⟨fun z => absurd z (by decide), fun _ => q⟩) (fun z => absurd y z), fun z => absurd rfl z⟩)))⟩) (fun y => ⟨fun q => absurd q (by decide), fun _ => deed 2 (Or.inr (Or.inr (Or.inl rfl))) (fun Q q => ev4 Q (wordR (by decide) u3 (fun z => absurd (y.symm.trans z) (by decide)) (fun _ => ⟨fun _ => wordR (by decide) u3 (fun z => absurd (y.symm.trans z) (by decide)) (fun _ => ⟨fun _ => wordR (by decide) u3 (fun _ => ⟨fun z => absurd z (by decide), fun _ => q⟩) (fun z => absurd y z), fun z => absurd rfl z⟩), fun z => absurd rfl z⟩)))⟩) (fun y => ⟨fun q => absurd q (by decide), fun _ => deed 3 (Or.inr (Or.inr (Or.inr rfl))) (fun Q q => ev4 Q (wordR (by decide) u3 (fun z => absurd (y.symm.trans z) (by decide)) (fun _ => ⟨fun _ => wordR (by decide) u3 (fun z => absurd (y.symm.trans z) (by decide)) (fun _ => ⟨fun _ => wordR (by decide) u3 (fun z => absurd (y.symm.trans z) (by decide)) (fun _ => ⟨fun _ => wordR (by decide) u3 (fun _ => ⟨fun z => absurd z (by decide), fun _ => q⟩) (fun z => absurd y z), fun z => absurd rfl z⟩), fun z => absurd rfl z⟩), fun z => absurd rfl z⟩)))⟩) (fun y0 y1 y2 y3 => ⟨fun _ => failS ⟨Or.inl rfl, k 0 _ (fc1.tr (ccF.s (by omega))) (RefC.bad (by decide) t1' u3 fr3 (fun Q q => ev4 Q (wordR (by decide) u3 (fun z => absurd z y0) (fun _ => ⟨fun _ => wordR (by decide) u3 (fun z => absurd z y1) (fun _ => ⟨fun _ => wordR (by decide) u3 (fun z => absurd z y2) (fun _ => ⟨fun _ => wordR (by decide) u3 (fun z => absurd z y3) (fun _ => ⟨fun _ => v192_43_140 ⟨fun _ => badR ⟨Or.inl rfl, q⟩, fun z => absurd (by decide) z⟩, fun z => absurd rfl z⟩), fun z => absurd rfl z⟩), fun z => absurd rfl z⟩), fun z => absurd rfl z⟩))))⟩, fun z => absurd rfl z⟩)
end CU2
