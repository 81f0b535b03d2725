section PG0
variable {S : Nat × (Nat → Int32)} {d : Nat} {x : mX} {I I' : rI0} {J J' : rJ0} {b : Nat → Int32} {n lim p R C : Nat}
theorem m1_p {v : Nat} (hv : v ≤ 600) : ¬ nI v = -1 := by
  intro q
  have := congrArg Int32.toInt q
  rw [nI_toInt (by omega)] at this
  have e : (-1 : Int32).toInt = -1 := by decide
  omega
theorem lnLeaves {Q : Int32 → rI0 → rJ0 → Prop} (h : HRl R C I I') (t : Tck b n lim p I) (h8 : I 28 8 = 0) (u : Nck b n lim p I' J') (hw : uW b n lim p = 119182682645875) (k : ∀ v I1, hcF I I1 → RefL b n lim p I' J' v I1 → Q v I1 J) : wcI S (d + 3) 45 [.ref 29] x I J Q := by
  obtain ⟨ha, hp, hl, ho, ht⟩ := h
  have hR := ha.1
  have h460 := ha.2.2.2.2.2.1
  have g1 := uE_le (b := b) (lim := lim) t.1
  have g2 := uE_le (b := b) (lim := lim) g1.2
  have g3 := uE_le (b := b) (lim := lim) g2.2
  obtain ⟨v, hv⟩ := uV_e b n lim (uE b n lim p)
  obtain ⟨y, hy⟩ := uV_e b n lim (uE b n lim (uE b n lim p))
  have pg := (uE_gt (b := b) (n := n) (lim := lim) (p := p) (fun q => by rw [uW_n (by rw [q]; decide)] at hw; exact absurd hw (by decide)) (fun q => by rw [uW_n (by rw [q]; decide)] at hw; exact absurd hw (by decide))).1
  obtain ⟨m, hm, em', hlr⟩ := hl
  have rr : ∀ {S : Nat × (Nat → Int32)} {d : Nat} {x : mX} {Q' : Int32 → rI0 → rJ0 → Prop}, wcI S (d + 8) 169 [.ref 43, .int (nI m)] x I' J' (fun r15 I15 J15 => ((r15 = (0 : Int32) → Q' (0 : Int32) I15 J15) ∧ (¬ r15 = (0 : Int32) → (wcI S (d + 8) 166 [.ref 43, .int (0 : Int32), .int (600 : Int32)] x (mSet I15 43 21 ((I15 43 21) ||| ((1 : Int32) <<< (I15 43 18 &&& 31)))) J15 (fun r16 I16 J16 => ((r16 = (0 : Int32) → Q' (0 : Int32) I16 J16) ∧ (¬ r16 = (0 : Int32) → (¬ mOut ((78 : Int32) + (I15 43 18)) 590 ∧ Q' (1 : Int32) (mSet I16 46 (((78 : Int32) + (I15 43 18)).toNatClampNeg) ((I16 43 18) + (1 : Int32))) J16))))))) ) → wcI S (d + 9) 167 [.ref 43] x I' J' Q' := fun kk => c167_43 (wordR (by decide) u (fun q => absurd (hw.symm.trans q) (by decide)) (fun _ => ⟨fun _ => wordR (by decide) u (fun q => absurd (hw.symm.trans q) (by decide)) (fun _ => ⟨fun _ => wordR (by decide) u (fun q => absurd (hw.symm.trans q) (by decide)) (fun _ => ⟨fun _ => wordR (by decide) u (fun q => absurd (hw.symm.trans q) (by decide)) (fun _ => ⟨fun _ => wordR (by decide) u (fun _ => ⟨fun q => absurd q (by decide), fun _ => (by rw [em']; exact kk)⟩) (fun q => absurd hw q), fun q => absurd rfl q⟩), fun q => absurd rfl q⟩), fun q => absurd rfl q⟩), fun q => absurd rfl q⟩))
  refine c45_29 (readS t.2.1 (fun I1 o1 t1 => ?_))
  have e8 : I1 28 8 = 0 := (o1.2 8 (by omega)).trans h8
  have eR : I1 16 0 = nI R := by rw [o1.1 16 (by decide)]; exact ha.2.2.2.2.1
  refine rowC (R := R) hv t1 e8 hR (by rw [eR]) (fun z => ⟨fun _ => k 0 _ ((hcF.o o1.1).tr (hcF.s (by omega))) (fun S d x Q' kk => rr ?_), fun q => absurd rfl q⟩) (fun z y => ⟨fun _ => k 0 _ ((hcF.o o1.1).tr (hcF.s (by omega))) (fun S d x Q' kk => rr ?_), fun q => absurd rfl q⟩) (fun z yv e6 => ⟨fun q => absurd q (by decide), fun _ => ?_⟩)
  · exact rowR (R := R) hv u hR h460 hm (fun _ I2 J2 f2 a13 a14 => ⟨fun _ => kk I2 J2 f2 (lo0 (f := 1) (by decide) rfl a13 t1.2.2.2.1 a14), fun q => absurd rfl q⟩) (fun q => absurd q z) (fun q => absurd q z) (fun q => absurd q z)
  · exact rowR (R := R) hv u hR h460 hm (fun q => absurd z q) (fun _ _ I2 J2 f2 a13 a14 => ⟨fun _ => kk I2 J2 f2 (lo0 (f := 2) (by decide) rfl a13 t1.2.2.2.1 a14), fun q => absurd rfl q⟩) (fun _ q => absurd q y) (fun _ q => absurd q y)
  · have lv := hlr v (by omega)
    have e20 : I1 20 v = I 20 v := by rw [o1.1 20 (by decide)]
    rw [e6, nI_clamp (by omega), e20]
    refine ⟨nI_in (by omega) (by omega), fun w => ?_, fun w => ?_⟩
    · have w2 : ¬ m.testBit v = true := fun q => lv.2.2.mp q w
      have om := or_n hm (r := v) (by omega)
      refine readS t1.2.1 (fun I2 o2 t2 => ?_)
      have e82 : I2 28 8 = 0 := by rw [o2.2 8 (by omega)]; exact e8
      have f2 : hcF I I2 := (hcF.o o1.1).tr (hcF.o o2.1)
      refine numC (lo := 0) (hi := 600) hy t2 e82 (by omega) (fun z2 => ⟨fun _ => k 0 _ (f2.tr (hcF.s (by omega))) (fun S d x Q' kk => rr ?_), fun q => absurd rfl q⟩) (fun z2 yy => ⟨fun _ => k 0 _ (f2.tr (hcF.s (by omega))) (fun S d x Q' kk => rr ?_), fun q => absurd rfl q⟩) (fun z2 yy I3 o3 e7 e83 t3 => ⟨fun q => absurd q (by decide), fun _ => ⟨nI_in (by omega) (by omega), k 1 _ (f2.tr ((hcF.o o3).tr (hcF.s (by omega)))) (fun S d x Q' kk => rr ?_)⟩⟩)
      · refine rowR (R := R) hv u hR h460 hm (fun q => absurd z q) (fun _ q => absurd yv q) (fun _ _ q => absurd q w2) (fun _ _ _ I4 J4 n4 _ f4 g4 e18 => ⟨fun q => absurd q (by decide), fun _ => ?_⟩)
        exact numR (lo := 0) (hi := 600) hy (n4.cg (mSet_ne (by decide)) (fun k hk => mSet_x (by omega))) (by omega) (fun _ => ⟨fun _ => kk _ _ (f4.tr ((hrF.s (by omega)).tr hrF.bd)) (lo0 (f := 1) (by decide) rfl rfl t2.2.2.2.1 n4.2.2.2.1), fun q => absurd rfl q⟩) (fun q => absurd q z2) (fun q => absurd q z2)
      · refine rowR (R := R) hv u hR h460 hm (fun q => absurd z q) (fun _ q => absurd yv q) (fun _ _ q => absurd q w2) (fun _ _ _ I4 J4 n4 _ f4 g4 e18 => ⟨fun q => absurd q (by decide), fun _ => ?_⟩)
        exact numR (lo := 0) (hi := 600) hy (n4.cg (mSet_ne (by decide)) (fun k hk => mSet_x (by omega))) (by omega) (fun q => absurd z2 q) (fun _ _ => ⟨fun _ => kk _ _ (f4.tr ((hrF.s (by omega)).tr hrF.bd)) (lo0 (f := 2) (by decide) rfl rfl t2.2.2.2.1 n4.2.2.2.1), fun q => absurd rfl q⟩) (fun _ q => absurd q yy)
      · refine rowR (R := R) hv u hR h460 hm (fun q => absurd z q) (fun _ q => absurd yv q) (fun _ _ q => absurd q w2) (fun _ _ _ I4 J4 n4 a4 f4 g4 e18 => ⟨fun q => absurd q (by decide), fun _ => ?_⟩)
        have e21 : I4 43 21 ||| ((1 : Int32) <<< (I4 43 18 &&& 31)) = nI (m ||| 2 ^ v) := by rw [g4 21 (by omega), em', e18, om.1]
        refine numR (lo := 0) (hi := 600) hy (n4.cg (mSet_ne (by decide)) (fun k hk => mSet_x (by omega))) (by omega) (fun q => absurd z2 q) (fun _ q => absurd yy q) (fun _ _ I5 J5 f5 n5 => ⟨fun q => absurd q (by decide), fun _ => ⟨by rw [e18]; show ¬ mOut (nI 78 + nI v) 590; rw [nI_add]; exact nI_in (by omega) (by omega), ?_⟩⟩)
        have ix : ((78 : Int32) + I4 43 18).toNatClampNeg = 78 + v := by
          rw [e18]
          show (nI 78 + nI v).toNatClampNeg = _
          rw [nI_add, nI_clamp (by omega)]
        have e518 : I5 43 18 = nI y := f5.2.1 18 (by omega)
        rw [ix, e518]
        refine kk _ _ (f4.tr ((hrF.s (by omega)).tr ((hrF.s (by omega)).tr ((hrF.nx f5).tr hrF.h)))) (Or.inr ⟨rfl, (by rw [mSet_ne (by decide), f5.2.1 13 (by omega), mSet_x (by omega), mSet_x (by omega)]; exact g4 13 (by omega)), _, R, C, by omega, g3.2, t3.o (mSet_ne (by decide)) (mSet_ne (by decide)), by rw [mSet_ne (by decide)]; exact e83, n5.cg (mSet_ne (by decide)) (fun k hk => by rw [mSet_ne (by decide)]), ?_⟩)
        rw [e7]
        have r46 : ∀ k, I5 46 k = I' 46 k := fun k => by rw [f5.1 46 (by decide), mSet_ne (by decide), mSet_ne (by decide), a4 46 (by decide)]
        have r43 : ∀ k, k = 20 ∨ k = 22 → I5 43 k = I' 43 k := fun k q1 => by rw [f5.2.1 k (by omega), mSet_x (by omega), mSet_x (by omega), g4 k (by omega)]
        have c1 : ∀ a, a ≠ 28 → I3 a = I a := fun a q1 => by rw [o3 a q1, o2.1 a q1, o1.1 a q1]
        refine ⟨ha.cg ?_ ?_ ?_ ?_, hp.cg ?_ ?_ ?_ ?_, ⟨m ||| 2 ^ v, om.2, ?_, ?_⟩, ho.cg ?_ ?_ ?_ ?_, ht.cg ?_ ?_ ?_⟩
        · rw [mSet_ne (by decide), c1 16 (by decide)]
        · rw [mSet_ne (by decide), c1 16 (by decide)]
        · intro s _; rw [mSet_ne (by decide), c1 17 (by decide)]
        · intro k q1 q2; rw [mSet_x (by omega), r46]
        · rw [mSet_ne (by decide), c1 29 (by decide)]
        · rw [mSet_ne (by decide)]; exact r43 20 (by omega)
        · rw [mSet_ne (by decide), c1 19 (by decide)]
        · intro k q1 q2; rw [mSet_x (by omega), r46]
        · rw [mSet_ne (by decide), f5.2.1 21 (by omega), mSet_x (by omega)]; exact e21
        · intro r hr
          by_cases q : r = v
          · subst q
            have l1 : (mSet I3 20 r (nI y)) 20 r = nI y := by unfold mSet va_up; rw [if_pos rfl, if_pos rfl]
            have l2 : (mSet I5 46 (78 + r) (nI y + 1)) 46 (78 + r) = nI y + 1 := by unfold mSet va_up; rw [if_pos rfl, if_pos rfl]
            rw [l1, l2]
            exact ⟨Or.inr ⟨y, yy.2, rfl⟩, rfl, iff_of_true (or_t.mpr (Or.inr rfl)) (m1_p yy.2)⟩
          · rw [mSet_x (by omega), mSet_x (by omega), r46, c1 20 (by decide)]
            have g := hlr r hr
            refine ⟨g.1, g.2.1, ?_⟩
            rw [or_t, ← g.2.2]
            exact ⟨fun w => w.elim id (fun e => absurd e q), Or.inl⟩
        · intro k q; rw [mSet_ne (by decide), c1 29 (by decide)]
        · intro k q1 q2; rw [mSet_ne (by decide), c1 16 (by decide)]
        · rw [mSet_ne (by decide)]; exact r43 22 (by omega)
        · intro k q1 q2; rw [mSet_x (by omega), r46]
        · rw [mSet_ne (by decide), c1 21 (by decide)]
        · rw [mSet_ne (by decide), c1 22 (by decide)]
        · intro k q1 q2; rw [mSet_x (by omega), r46]
    · have w2 : m.testBit v = true := lv.2.2.mpr w
      refine failS ⟨Or.inl rfl, k 0 _ ((hcF.o o1.1).tr (hcF.s (by omega))) (fun S d x Q' kk => rr ?_)⟩
      exact rowR (R := R) hv u hR h460 hm (fun q => absurd z q) (fun _ q => absurd yv q) (fun _ _ _ I2 J2 f2 a13 a14 => ⟨fun _ => kk I2 J2 f2 (lo0 (f := 3) (by decide) rfl a13 t1.2.2.2.1 a14), fun q => absurd rfl q⟩) (fun _ _ q => absurd w2 q)
theorem onc : ∀ c0, c0 ≤ 1 → ∀ c1, c1 ≤ 1 → ∀ c2, c2 ≤ 1 → (((c0 + 2 * c1 + 4 * c2).testBit 0 = true ↔ c0 = 1) ∧ ((c0 + 2 * c1 + 4 * c2).testBit 1 = true ↔ c1 = 1) ∧ ((c0 + 2 * c1 + 4 * c2).testBit 2 = true ↔ c2 = 1) ∧ (c0 = 0 → (c0 + 2 * c1 + 4 * c2) ||| 2 ^ 0 = 1 + 2 * c1 + 4 * c2) ∧ (c1 = 0 → (c0 + 2 * c1 + 4 * c2) ||| 2 ^ 1 = c0 + 2 * 1 + 4 * c2) ∧ (c2 = 0 → (c0 + 2 * c1 + 4 * c2) ||| 2 ^ 2 = c0 + 2 * c1 + 4 * 1)) := by
  intro c0 h0 c1 h1 c2 h2
  rcases (show c0 = 0 ∨ c0 = 1 by omega) with a | a <;> rcases (show c1 = 0 ∨ c1 = 1 by omega) with c | c <;> rcases (show c2 = 0 ∨ c2 = 1 by omega) with e | e <;> subst a <;> subst c <;> subst e <;> decide
theorem lnCarry {Q : Int32 → rI0 → rJ0 → Prop} (h : HRl R C I I') (t : Tck b n lim p I) (h8 : I 28 8 = 0) (u : Nck b n lim p I' J') (hw : uW b n lim p = 426836652665) (k : ∀ v I1, hcF I I1 → RefL b n lim p I' J' v I1 → Q v I1 J) : wcI S (d + 3) 46 [.ref 29] x I J Q := by
  obtain ⟨ha, hp, hl, ho, ht⟩ := h
  have hR := ha.1
  have h460 := ha.2.2.2.2.2.1
  have g1 := uE_le (b := b) (lim := lim) t.1
  have g2 := uE_le (b := b) (lim := lim) g1.2
  have g3 := uE_le (b := b) (lim := lim) g2.2
  obtain ⟨v, hv⟩ := uV_e b n lim (uE b n lim p)
  obtain ⟨y, hy⟩ := uV_e b n lim (uE b n lim (uE b n lim p))
  have pg := (uE_gt (b := b) (n := n) (lim := lim) (p := p) (fun q => by rw [uW_n (by rw [q]; decide)] at hw; exact absurd hw (by decide)) (fun q => by rw [uW_n (by rw [q]; decide)] at hw; exact absurd hw (by decide))).1
  obtain ⟨c0, c1, c2, b0, b1, b2, d0, d1, d2, d3, d4, d5, d6⟩ := ho
  have oc := onc c0 b0 c1 b1 c2 b2
  have rr : ∀ {S : Nat × (Nat → Int32)} {d : Nat} {x : mX} {Q' : Int32 → rI0 → rJ0 → Prop}, wcI S (d + 8) 168 [.ref 43, .int (0 : Int32), .int (3 : Int32), .int (1 : Int32), .int (64 : Int32)] x I' J' (fun r I2 J2 => (r = 0 ∨ r = 1) ∧ Q' r I2 J2) → wcI S (d + 9) 167 [.ref 43] x I' J' Q' := fun kk => c167_43 (wordR (by decide) u (fun q => absurd (hw.symm.trans q) (by decide)) (fun _ => ⟨fun _ => wordR (by decide) u (fun q => absurd (hw.symm.trans q) (by decide)) (fun _ => ⟨fun _ => wordR (by decide) u (fun q => absurd (hw.symm.trans q) (by decide)) (fun _ => ⟨fun _ => wordR (by decide) u (fun q => absurd (hw.symm.trans q) (by decide)) (fun _ => ⟨fun _ => wordR (by decide) u (fun q => absurd (hw.symm.trans q) (by decide)) (fun _ => ⟨fun _ => wordR (by decide) u (fun _ => ⟨fun q => absurd q (by decide), fun _ => kk⟩) (fun q => absurd hw q), fun q => absurd rfl q⟩), fun q => absurd rfl q⟩), fun q => absurd rfl q⟩), fun q => absurd rfl q⟩), fun q => absurd rfl q⟩))
  refine c46_29 ⟨fun w => ?_, fun w => ?_⟩
  · have w : c0 = 0 := by
      rw [d0] at w
      exact (nI01 b0).2.mp w
    have w2 : ¬ (c0 + 2 * c1 + 4 * c2).testBit 0 = true := fun q => by have := oc.1.mp q; omega
    have om := or_n (m := c0 + 2 * c1 + 4 * c2) (r := 0) (by omega) (by omega)
    rw [oc.2.2.2.1 w] at om
    refine readS t.2.1.s29 (fun I1 o1 t1 => ?_)
    have e8 : I1 28 8 = 0 := by rw [o1.2 8 (by omega), mSet_ne (by decide)]; exact h8
    have f1 : hcF I I1 := (hcF.s (by omega)).tr (hcF.o o1.1)
    -- the reference's once(), up to its number
    have go : ∀ {S : Nat × (Nat → Int32)} {d : Nat} {x : mX} {Q' : Int32 → rI0 → rJ0 → Prop}, (∀ I2 J2, hrF I' J' I2 J2 → Nck b n lim (uE b n lim p) I2 J2 → I2 46 = I' 46 → I2 43 22 = nI (1 + 2 * c1 + 4 * c2) → (∀ k, k = 13 ∨ (20 ≤ k ∧ k ≤ 21) → I2 43 k = I' 43 k) → wcI S (d + 7) 166 [.ref 43, .int (1 : Int32), .int (64 : Int32)] x I2 J2 (fun r3 I3 J3 => ((r3 = (0 : Int32) → Q' (0 : Int32) I3 J3) ∧ (¬ r3 = (0 : Int32) → (¬ mOut (3 : Int32) 590 ∧ Q' (1 : Int32) (mSet I3 46 ((3 : Int32).toNatClampNeg) (I3 43 18)) J3))))) → wcI S (d + 9) 167 [.ref 43] x I' J' Q' := by
      intro S d x Q' kk
      refine rr (c168_43 ?_)
      rw [d3]
      refine hasR (r := 0) (by omega) (by omega) (fun q => absurd q w2) (fun _ => ⟨fun _ => ?_, fun q => absurd rfl q⟩)
      refine nextS (u.2.1.mv u.2.1.2.2.1 (mSet_ne (by decide)) rfl rfl u.2.1.2.2.2.2.2.2) (fun I2 J2 f2 t2 => wcI_mono (kk I2 J2 ((hrF.s (by omega)).tr (hrF.nx f2)) t2 (by rw [f2.1 46 (by decide), mSet_ne (by decide)]) (by rw [f2.2.1 22 (by omega)]; show I' 43 22 ||| _ = _; rw [d3]; exact om.1) (fun k q1 => by rw [f2.2.1 k (by omega), mSet_x (by omega)])) (fun r3 I3 J3 g => ⟨fun q => ⟨Or.inl rfl, g.1 q⟩, fun q => ⟨(g.2 q).1, Or.inr rfl, (g.2 q).2⟩⟩))
    refine numC (lo := 1) (hi := 64) hv t1 e8 (by omega) (fun z => ⟨fun _ => k 0 _ (f1.tr (hcF.s (by omega))) (fun S d x Q' kk => go (fun I2 J2 f2 n2 _ _ _ => ?_)), fun q => absurd rfl q⟩) (fun z yy => ⟨fun _ => k 0 _ (f1.tr (hcF.s (by omega))) (fun S d x Q' kk => go (fun I2 J2 f2 n2 _ _ _ => ?_)), fun q => absurd rfl q⟩) (fun z yy I3 o3 e7 e83 t3 => ⟨fun q => absurd q (by decide), fun _ => k 1 _ (f1.tr ((hcF.o o3).tr (hcF.s (by omega)))) (fun S d x Q' kk => go (fun I2 J2 f2 n2 a46 a22 a20 => ?_))⟩)
    · exact numR (lo := 1) (hi := 64) hv n2 (by omega) (fun _ => ⟨fun _ => kk _ _ (f2.tr hrF.bd) (lo0 (f := 1) (by decide) rfl rfl t1.2.2.2.1 n2.2.2.2.1), fun q => absurd rfl q⟩) (fun q => absurd q z) (fun q => absurd q z)
    · exact numR (lo := 1) (hi := 64) hv n2 (by omega) (fun q => absurd z q) (fun _ _ => ⟨fun _ => kk _ _ (f2.tr hrF.bd) (lo0 (f := 2) (by decide) rfl rfl t1.2.2.2.1 n2.2.2.2.1), fun q => absurd rfl q⟩) (fun _ q => absurd q yy)
    · refine numR (lo := 1) (hi := 64) hv n2 (by omega) (fun q => absurd z q) (fun _ q => absurd yy q) (fun _ _ I5 J5 f5 n5 => ⟨fun q => absurd q (by decide), fun _ => ⟨by decide, ?_⟩⟩)
      have e518 : I5 43 18 = nI v := f5.2.1 18 (by omega)
      rw [e518]
      refine kk _ _ (f2.tr ((hrF.s (by omega)).tr ((hrF.nx f5).tr hrF.h))) (Or.inr ⟨rfl, (by rw [mSet_ne (by decide), f5.2.1 13 (by omega), mSet_x (by omega)]; exact a20 13 (by omega)), _, R, C, by omega, g2.2, t3.o (mSet_ne (by decide)) (mSet_ne (by decide)), by rw [mSet_ne (by decide)]; exact e83, n5.cg (mSet_ne (by decide)) (fun k hk => by rw [mSet_ne (by decide)]), ?_⟩)
      rw [e7]
      have ix : (3 : Int32).toNatClampNeg = 3 := by decide
      rw [ix]
      have r46 : ∀ k, I5 46 k = I' 46 k := fun k => by rw [f5.1 46 (by decide), mSet_ne (by decide), a46]
      have r43 : ∀ k, 20 ≤ k → k ≤ 21 → I5 43 k = I' 43 k := fun k q1 q2 => by rw [f5.2.1 k (by omega), mSet_x (by omega), a20 k (by omega)]
      have c1' : ∀ a, a ≠ 28 → a ≠ 29 → I3 a = I a := fun a q1 q2 => by rw [o3 a q1, o1.1 a q1, mSet_ne q2]
      have c29 : ∀ k, k ≠ 4 → I3 29 k = I 29 k := fun k q => by rw [o3 29 (by decide), o1.1 29 (by decide), mSet_x (by omega)]
      have c29' : I3 29 4 = 1 := by rw [o3 29 (by decide), o1.1 29 (by decide)]; rfl
      refine ⟨ha.cg ?_ ?_ ?_ ?_, hp.cg ?_ ?_ ?_ ?_, hl.cg ?_ ?_ ?_, ⟨1, c1, c2, by omega, by omega, by omega, ?_, ?_, ?_, ?_, ?_, ?_, ?_⟩, ht.cg ?_ ?_ ?_⟩
      · rw [mSet_x (by omega), c1' 16 (by decide) (by decide)]
      · rw [mSet_x (by omega), c1' 16 (by decide) (by decide)]
      · intro s _; rw [mSet_ne (by decide), c1' 17 (by decide) (by decide)]
      · intro k q1 q2; rw [mSet_x (by omega), r46]
      · rw [mSet_ne (by decide), c29 3 (by decide)]
      · rw [mSet_ne (by decide)]; exact r43 20 (by omega) (by omega)
      · rw [mSet_ne (by decide), c1' 19 (by decide) (by decide)]
      · intro k q1 q2; rw [mSet_x (by omega), r46]
      · rw [mSet_ne (by decide)]; exact r43 21 (by omega) (by omega)
      · rw [mSet_ne (by decide), c1' 20 (by decide) (by decide)]
      · intro k q1 q2; rw [mSet_x (by omega), r46]
      · rw [mSet_ne (by decide)]; exact c29'
      · rw [mSet_ne (by decide)]; exact (c29 5 (by decide)).trans d1
      · rw [mSet_x (by omega), c1' 16 (by decide) (by decide)]; exact d2
      · rw [mSet_ne (by decide), f5.2.1 22 (by omega), mSet_x (by omega)]; exact a22
      · rw [mSet_x (by omega), r46]; exact d4
      · refine ⟨v, by omega, yy.2, ?_, ?_⟩
        · unfold mSet va_up; rw [if_pos rfl, if_pos rfl]
        · unfold mSet va_up; rw [if_pos rfl, if_pos rfl]
      · obtain ⟨vp, z1, z2, z3⟩ := d6
        exact ⟨vp, z1, by rw [mSet_x (by omega), c1' 16 (by decide) (by decide)]; exact z2, by rw [mSet_x (by omega), r46]; exact z3⟩
      · rw [mSet_ne (by decide), c1' 21 (by decide) (by decide)]
      · rw [mSet_ne (by decide), c1' 22 (by decide) (by decide)]
      · intro k q1 q2; rw [mSet_x (by omega), r46]
  · have w : c0 = 1 := by
      rw [d0] at w
      have := (nI01 b0).2
      have : ¬ c0 = 0 := fun q => w (this.mpr q)
      omega
    refine failS ⟨Or.inl rfl, k 0 _ (hcF.s (by omega)) (fun S d x Q' kk => rr (c168_43 ?_))⟩
    rw [d3]
    exact hasR (r := 0) (by omega) (by omega) (fun _ => ⟨fun q => absurd q (by decide), fun _ => badR ⟨Or.inl rfl, Or.inl rfl, kk _ _ hrF.bd (lo0 (f := 3) (by decide) rfl rfl t.2.2.2.1 u.2.2.2.1)⟩⟩) (fun q => absurd (oc.1.mpr w) q)
theorem lnPaid {Q : Int32 → rI0 → rJ0 → Prop} (h : HRl R C I I') (t : Tck b n lim p I) (h8 : I 28 8 = 0) (u : Nck b n lim p I' J') (hw : uW b n lim p = 1885432164) (k : ∀ v I1, hcF I I1 → RefL b n lim p I' J' v I1 → Q v I1 J) : wcI S (d + 3) 47 [.ref 29] x I J Q := by
  obtain ⟨ha, hp, hl, ho, ht⟩ := h
  have hR := ha.1
  have h460 := ha.2.2.2.2.2.1
  have g1 := uE_le (b := b) (lim := lim) t.1
  have g2 := uE_le (b := b) (lim := lim) g1.2
  have g3 := uE_le (b := b) (lim := lim) g2.2
  obtain ⟨v, hv⟩ := uV_e b n lim (uE b n lim p)
  obtain ⟨y, hy⟩ := uV_e b n lim (uE b n lim (uE b n lim p))
  have pg := (uE_gt (b := b) (n := n) (lim := lim) (p := p) (fun q => by rw [uW_n (by rw [q]; decide)] at hw; exact absurd hw (by decide)) (fun q => by rw [uW_n (by rw [q]; decide)] at hw; exact absurd hw (by decide))).1
  obtain ⟨c0, c1, c2, b0, b1, b2, d0, d1, d2, d3, d4, d5, d6⟩ := ho
  have oc := onc c0 b0 c1 b1 c2 b2
  have rr : ∀ {S : Nat × (Nat → Int32)} {d : Nat} {x : mX} {Q' : Int32 → rI0 → rJ0 → Prop}, wcI S (d + 8) 168 [.ref 43, .int (1 : Int32), .int (4 : Int32), .int (0 : Int32), .int (600 : Int32)] x I' J' (fun r I2 J2 => (r = 0 ∨ r = 1) ∧ Q' r I2 J2) → wcI S (d + 9) 167 [.ref 43] x I' J' Q' := fun kk => c167_43 (wordR (by decide) u (fun q => absurd (hw.symm.trans q) (by decide)) (fun _ => ⟨fun _ => wordR (by decide) u (fun q => absurd (hw.symm.trans q) (by decide)) (fun _ => ⟨fun _ => wordR (by decide) u (fun q => absurd (hw.symm.trans q) (by decide)) (fun _ => ⟨fun _ => wordR (by decide) u (fun q => absurd (hw.symm.trans q) (by decide)) (fun _ => ⟨fun _ => wordR (by decide) u (fun q => absurd (hw.symm.trans q) (by decide)) (fun _ => ⟨fun _ => wordR (by decide) u (fun q => absurd (hw.symm.trans q) (by decide)) (fun _ => ⟨fun _ => wordR (by decide) u (fun _ => ⟨fun q => absurd q (by decide), fun _ => kk⟩) (fun q => absurd hw q), fun q => absurd rfl q⟩), fun q => absurd rfl q⟩), fun q => absurd rfl q⟩), fun q => absurd rfl q⟩), fun q => absurd rfl q⟩), fun q => absurd rfl q⟩))
  refine c47_29 ⟨fun w => ?_, fun w => ?_⟩
  · have w : c1 = 0 := by
      rw [d1] at w
      exact (nI01 b1).2.mp w
    have w2 : ¬ (c0 + 2 * c1 + 4 * c2).testBit 1 = true := fun q => by have := oc.2.1.mp q; omega
    have om := or_n (m := c0 + 2 * c1 + 4 * c2) (r := 1) (by omega) (by omega)
    rw [oc.2.2.2.2.1 w] at om
    refine readS t.2.1.s29 (fun I1 o1 t1 => ?_)
    have e8 : I1 28 8 = 0 := by rw [o1.2 8 (by omega), mSet_ne (by decide)]; exact h8
    have f1 : hcF I I1 := (hcF.s (by omega)).tr (hcF.o o1.1)
    -- the reference's once(), up to its number
    have go : ∀ {S : Nat × (Nat → Int32)} {d : Nat} {x : mX} {Q' : Int32 → rI0 → rJ0 → Prop}, (∀ I2 J2, hrF I' J' I2 J2 → Nck b n lim (uE b n lim p) I2 J2 → I2 46 = I' 46 → I2 43 22 = nI (c0 + 2 * 1 + 4 * c2) → (∀ k, k = 13 ∨ (20 ≤ k ∧ k ≤ 21) → I2 43 k = I' 43 k) → wcI S (d + 7) 166 [.ref 43, .int (0 : Int32), .int (600 : Int32)] x I2 J2 (fun r3 I3 J3 => ((r3 = (0 : Int32) → Q' (0 : Int32) I3 J3) ∧ (¬ r3 = (0 : Int32) → (¬ mOut (4 : Int32) 590 ∧ Q' (1 : Int32) (mSet I3 46 ((4 : Int32).toNatClampNeg) (I3 43 18)) J3))))) → wcI S (d + 9) 167 [.ref 43] x I' J' Q' := by
      intro S d x Q' kk
      refine rr (c168_43 ?_)
      rw [d3]
      refine hasR (r := 1) (by omega) (by omega) (fun q => absurd q w2) (fun _ => ⟨fun _ => ?_, fun q => absurd rfl q⟩)
      refine nextS (u.2.1.mv u.2.1.2.2.1 (mSet_ne (by decide)) rfl rfl u.2.1.2.2.2.2.2.2) (fun I2 J2 f2 t2 => wcI_mono (kk I2 J2 ((hrF.s (by omega)).tr (hrF.nx f2)) t2 (by rw [f2.1 46 (by decide), mSet_ne (by decide)]) (by rw [f2.2.1 22 (by omega)]; show I' 43 22 ||| _ = _; rw [d3]; exact om.1) (fun k q1 => by rw [f2.2.1 k (by omega), mSet_x (by omega)])) (fun r3 I3 J3 g => ⟨fun q => ⟨Or.inl rfl, g.1 q⟩, fun q => ⟨(g.2 q).1, Or.inr rfl, (g.2 q).2⟩⟩))
    refine numC (lo := 0) (hi := 600) hv t1 e8 (by omega) (fun z => ⟨fun _ => k 0 _ (f1.tr (hcF.s (by omega))) (fun S d x Q' kk => go (fun I2 J2 f2 n2 _ _ _ => ?_)), fun q => absurd rfl q⟩) (fun z yy => ⟨fun _ => k 0 _ (f1.tr (hcF.s (by omega))) (fun S d x Q' kk => go (fun I2 J2 f2 n2 _ _ _ => ?_)), fun q => absurd rfl q⟩) (fun z yy I3 o3 e7 e83 t3 => ⟨fun q => absurd q (by decide), fun _ => k 1 _ (f1.tr ((hcF.o o3).tr (hcF.s (by omega)))) (fun S d x Q' kk => go (fun I2 J2 f2 n2 a46 a22 a20 => ?_))⟩)
    · exact numR (lo := 0) (hi := 600) hv n2 (by omega) (fun _ => ⟨fun _ => kk _ _ (f2.tr hrF.bd) (lo0 (f := 1) (by decide) rfl rfl t1.2.2.2.1 n2.2.2.2.1), fun q => absurd rfl q⟩) (fun q => absurd q z) (fun q => absurd q z)
    · exact numR (lo := 0) (hi := 600) hv n2 (by omega) (fun q => absurd z q) (fun _ _ => ⟨fun _ => kk _ _ (f2.tr hrF.bd) (lo0 (f := 2) (by decide) rfl rfl t1.2.2.2.1 n2.2.2.2.1), fun q => absurd rfl q⟩) (fun _ q => absurd q yy)
    · refine numR (lo := 0) (hi := 600) hv n2 (by omega) (fun q => absurd z q) (fun _ q => absurd yy q) (fun _ _ I5 J5 f5 n5 => ⟨fun q => absurd q (by decide), fun _ => ⟨by decide, ?_⟩⟩)
      have e518 : I5 43 18 = nI v := f5.2.1 18 (by omega)
      rw [e518]
      refine kk _ _ (f2.tr ((hrF.s (by omega)).tr ((hrF.nx f5).tr hrF.h))) (Or.inr ⟨rfl, (by rw [mSet_ne (by decide), f5.2.1 13 (by omega), mSet_x (by omega)]; exact a20 13 (by omega)), _, R, C, by omega, g2.2, t3.o (mSet_ne (by decide)) (mSet_ne (by decide)), by rw [mSet_ne (by decide)]; exact e83, n5.cg (mSet_ne (by decide)) (fun k hk => by rw [mSet_ne (by decide)]), ?_⟩)
      rw [e7]
      have ix : (4 : Int32).toNatClampNeg = 4 := by decide
      rw [ix]
      have r46 : ∀ k, I5 46 k = I' 46 k := fun k => by rw [f5.1 46 (by decide), mSet_ne (by decide), a46]
      have r43 : ∀ k, 20 ≤ k → k ≤ 21 → I5 43 k = I' 43 k := fun k q1 q2 => by rw [f5.2.1 k (by omega), mSet_x (by omega), a20 k (by omega)]
      have c1' : ∀ a, a ≠ 28 → a ≠ 29 → I3 a = I a := fun a q1 q2 => by rw [o3 a q1, o1.1 a q1, mSet_ne q2]
      have c29 : ∀ k, k ≠ 5 → I3 29 k = I 29 k := fun k q => by rw [o3 29 (by decide), o1.1 29 (by decide), mSet_x (by omega)]
      have c29' : I3 29 5 = 1 := by rw [o3 29 (by decide), o1.1 29 (by decide)]; rfl
      refine ⟨ha.cg ?_ ?_ ?_ ?_, hp.cg ?_ ?_ ?_ ?_, hl.cg ?_ ?_ ?_, ⟨c0, 1, c2, by omega, by omega, by omega, ?_, ?_, ?_, ?_, ?_, ?_, ?_⟩, ht.cg ?_ ?_ ?_⟩
      · rw [mSet_x (by omega), c1' 16 (by decide) (by decide)]
      · rw [mSet_x (by omega), c1' 16 (by decide) (by decide)]
      · intro s _; rw [mSet_ne (by decide), c1' 17 (by decide) (by decide)]
      · intro k q1 q2; rw [mSet_x (by omega), r46]
      · rw [mSet_ne (by decide), c29 3 (by decide)]
      · rw [mSet_ne (by decide)]; exact r43 20 (by omega) (by omega)
      · rw [mSet_ne (by decide), c1' 19 (by decide) (by decide)]
      · intro k q1 q2; rw [mSet_x (by omega), r46]
      · rw [mSet_ne (by decide)]; exact r43 21 (by omega) (by omega)
      · rw [mSet_ne (by decide), c1' 20 (by decide) (by decide)]
      · intro k q1 q2; rw [mSet_x (by omega), r46]
      · rw [mSet_ne (by decide)]; exact (c29 4 (by decide)).trans d0
      · rw [mSet_ne (by decide)]; exact c29'
      · rw [mSet_x (by omega), c1' 16 (by decide) (by decide)]; exact d2
      · rw [mSet_ne (by decide), f5.2.1 22 (by omega), mSet_x (by omega)]; exact a22
      · rw [mSet_x (by omega), r46]; exact d4
      · obtain ⟨vp, z1, z2, z3, z4⟩ := d5
        exact ⟨vp, z1, z2, by rw [mSet_x (by omega), c1' 16 (by decide) (by decide)]; exact z3, by rw [mSet_x (by omega), r46]; exact z4⟩
      · refine ⟨v, yy.2, ?_, ?_⟩
        · unfold mSet va_up; rw [if_pos rfl, if_pos rfl]
        · unfold mSet va_up; rw [if_pos rfl, if_pos rfl]
      · rw [mSet_ne (by decide), c1' 21 (by decide) (by decide)]
      · rw [mSet_ne (by decide), c1' 22 (by decide) (by decide)]
      · intro k q1 q2; rw [mSet_x (by omega), r46]
  · have w : c1 = 1 := by
      rw [d1] at w
      have := (nI01 b1).2
      have : ¬ c1 = 0 := fun q => w (this.mpr q)
      omega
    refine failS ⟨Or.inl rfl, k 0 _ (hcF.s (by omega)) (fun S d x Q' kk => rr (c168_43 ?_))⟩
    rw [d3]
    exact hasR (r := 1) (by omega) (by omega) (fun _ => ⟨fun q => absurd q (by decide), fun _ => badR ⟨Or.inl rfl, Or.inl rfl, kk _ _ hrF.bd (lo0 (f := 3) (by decide) rfl rfl t.2.2.2.1 u.2.2.2.1)⟩⟩) (fun q => absurd (oc.2.1.mpr w) q)
theorem lnRows {Q : Int32 → rI0 → rJ0 → Prop} (h : HRl R C I I') (t : Tck b n lim p I) (h8 : I 28 8 = 0) (u : Nck b n lim p I' J') (hw : uW b n lim p = 1919907699) (k : ∀ v I1, hcF I I1 → RefL b n lim p I' J' v I1 → Q v I1 J) : wcI S (d + 3) 48 [.ref 29] x I J Q := by
  obtain ⟨ha, hp, hl, ho, ht⟩ := h
  have hR := ha.1
  have h460 := ha.2.2.2.2.2.1
  have g1 := uE_le (b := b) (lim := lim) t.1
  have g2 := uE_le (b := b) (lim := lim) g1.2
  have g3 := uE_le (b := b) (lim := lim) g2.2
  obtain ⟨v, hv⟩ := uV_e b n lim (uE b n lim p)
  obtain ⟨y, hy⟩ := uV_e b n lim (uE b n lim (uE b n lim p))
  have pg := (uE_gt (b := b) (n := n) (lim := lim) (p := p) (fun q => by rw [uW_n (by rw [q]; decide)] at hw; exact absurd hw (by decide)) (fun q => by rw [uW_n (by rw [q]; decide)] at hw; exact absurd hw (by decide))).1
  obtain ⟨c0, c1, c2, b0, b1, b2, d0, d1, d2, d3, d4, d5, d6⟩ := ho
  have oc := onc c0 b0 c1 b1 c2 b2
  refine c48_29 ⟨fun w => ?_, fun w => ?_⟩
  · have w : c2 = 0 := by
      rw [d2] at w
      exact (nI01 b2).2.mp w
    have w2 : ¬ (c0 + 2 * c1 + 4 * c2).testBit 2 = true := fun q => by have := oc.2.2.1.mp q; omega
    have om := or_n (m := c0 + 2 * c1 + 4 * c2) (r := 2) (by omega) (by omega)
    rw [oc.2.2.2.2.2 w] at om
    have om4 : nI (c0 + 2 * c1 + 4 * c2) ||| (4 : Int32) = nI (c0 + 2 * c1 + 4 * 1) := om.1
    refine readS (b := b) (n := n) (lim := lim) (p := uE b n lim p) (by
      have q := t.2.1
      unfold Tst at *
      rw [mSet_ne (by decide), mSet_ne (by decide)]
      exact q) (fun I1 o1 t1 => ?_)
    have e8 : I1 28 8 = 0 := by rw [o1.2 8 (by omega), mSet_ne (by decide)]; exact h8
    have f1 : hcF I I1 := (hcF.s (by omega)).tr (hcF.o o1.1)
    refine k 1 _ f1 (fun S d x Q' kk => ?_)
    refine c167_43 (wordR (by decide) u (fun q => absurd (hw.symm.trans q) (by decide)) (fun _ => ⟨fun _ => wordR (by decide) u (fun q => absurd (hw.symm.trans q) (by decide)) (fun _ => ⟨fun _ => wordR (by decide) u (fun q => absurd (hw.symm.trans q) (by decide)) (fun _ => ⟨fun _ => wordR (by decide) u (fun q => absurd (hw.symm.trans q) (by decide)) (fun _ => ⟨fun _ => wordR (by decide) u (fun q => absurd (hw.symm.trans q) (by decide)) (fun _ => ⟨fun _ => wordR (by decide) u (fun q => absurd (hw.symm.trans q) (by decide)) (fun _ => ⟨fun _ => wordR (by decide) u (fun q => absurd (hw.symm.trans q) (by decide)) (fun _ => ⟨fun _ => wordR (by decide) u (fun _ => ⟨fun q => absurd q (by decide), fun _ => ?_⟩) (fun q => absurd hw q), fun q => absurd rfl q⟩), fun q => absurd rfl q⟩), fun q => absurd rfl q⟩), fun q => absurd rfl q⟩), fun q => absurd rfl q⟩), fun q => absurd rfl q⟩), fun q => absurd rfl q⟩))
    rw [d3]
    refine hasR (r := 2) (by omega) (by omega) (fun q => absurd q w2) (fun _ => ⟨fun _ => ⟨by decide, ?_⟩, fun q => absurd rfl q⟩)
    rw [d3, om4]
    have ix : (5 : Int32).toNatClampNeg = 5 := by decide
    rw [ix]
    refine nextS (u.2.1.mv u.2.1.2.2.1 (by rw [mSet_ne (by decide), mSet_ne (by decide)]) rfl rfl u.2.1.2.2.2.2.2.2) (fun I2 J2 f2 t2 => kk I2 J2 ((hrF.s (by omega)).tr (hrF.h.tr (hrF.nx f2))) (Or.inr ⟨rfl, (by rw [f2.2.1 13 (by omega), mSet_x (by omega), mSet_x (by omega)]), _, R, C, by omega, g1.2, t1, e8, t2, ?_⟩))
    have r46 : ∀ k, k ≠ 5 → I2 46 k = I' 46 k := fun k q => by rw [f2.1 46 (by decide), mSet_x (by omega), mSet_ne (by decide)]
    have r43 : ∀ k, 20 ≤ k → k ≤ 21 → I2 43 k = I' 43 k := fun k q1 q2 => by rw [f2.2.1 k (by omega), mSet_x (by omega), mSet_x (by omega)]
    have c1' : ∀ a, a ≠ 28 → a ≠ 16 → I1 a = I a := fun a q1 q2 => by rw [o1.1 a q1, mSet_ne q2]
    have c16 : ∀ k, k ≠ 4 → I1 16 k = I 16 k := fun k q => by rw [o1.1 16 (by decide), mSet_x (by omega)]
    refine ⟨ha.cg (c16 0 (by decide)) (c16 1 (by decide)) (fun s _ => by rw [c1' 17 (by decide) (by decide)]) (fun k q1 q2 => r46 k (by omega)), hp.cg (by rw [c1' 29 (by decide) (by decide)]) (r43 20 (by omega) (by omega)) (c1' 19 (by decide) (by decide)) (fun k q1 q2 => r46 k (by omega)), hl.cg (r43 21 (by omega) (by omega)) (c1' 20 (by decide) (by decide)) (fun k q1 q2 => r46 k (by omega)), ⟨c0, c1, 1, b0, b1, by omega, by rw [c1' 29 (by decide) (by decide)]; exact d0, by rw [c1' 29 (by decide) (by decide)]; exact d1, ?_, ?_, ?_, ?_, ?_⟩, ht.cg (c1' 21 (by decide) (by decide)) (c1' 22 (by decide) (by decide)) (fun k q1 q2 => r46 k (by omega))⟩
    · rw [o1.1 16 (by decide)]; rfl
    · rw [f2.2.1 22 (by omega), mSet_x (by omega)]; rfl
    · rw [f2.1 46 (by decide)]; rfl
    · rw [c16 2 (by decide), r46 3 (by decide)]; exact d5
    · rw [c16 3 (by decide), r46 4 (by decide)]; exact d6
  · have w : c2 = 1 := by
      rw [d2] at w
      have := (nI01 b2).2
      have : ¬ c2 = 0 := fun q => w (this.mpr q)
      omega
    refine failS ⟨Or.inl rfl, k 0 _ (hcF.s (by omega)) (fun S d x Q' kk => ?_)⟩
    refine c167_43 (wordR (by decide) u (fun q => absurd (hw.symm.trans q) (by decide)) (fun _ => ⟨fun _ => wordR (by decide) u (fun q => absurd (hw.symm.trans q) (by decide)) (fun _ => ⟨fun _ => wordR (by decide) u (fun q => absurd (hw.symm.trans q) (by decide)) (fun _ => ⟨fun _ => wordR (by decide) u (fun q => absurd (hw.symm.trans q) (by decide)) (fun _ => ⟨fun _ => wordR (by decide) u (fun q => absurd (hw.symm.trans q) (by decide)) (fun _ => ⟨fun _ => wordR (by decide) u (fun q => absurd (hw.symm.trans q) (by decide)) (fun _ => ⟨fun _ => wordR (by decide) u (fun q => absurd (hw.symm.trans q) (by decide)) (fun _ => ⟨fun _ => wordR (by decide) u (fun _ => ⟨fun q => absurd q (by decide), fun _ => ?_⟩) (fun q => absurd hw q), fun q => absurd rfl q⟩), fun q => absurd rfl q⟩), fun q => absurd rfl q⟩), fun q => absurd rfl q⟩), fun q => absurd rfl q⟩), fun q => absurd rfl q⟩), fun q => absurd rfl q⟩))
    rw [d3]
    exact hasR (r := 2) (by omega) (by omega) (fun _ => ⟨fun q => absurd q (by decide), fun _ => badR ⟨Or.inl rfl, kk _ _ hrF.bd (lo0 (f := 3) (by decide) rfl rfl t.2.2.2.1 u.2.2.2.1)⟩⟩) (fun q => absurd (oc.2.2.1.mpr w) q)
theorem lnNone {Q : Int32 → rI0 → rJ0 → Prop} (t : Tck b n lim p I) (u : Nck b n lim p I' J') (w0 : ¬ uW b n lim p = 7499639) (w1 : ¬ uW b n lim p = 30064) (w2 : ¬ uW b n lim p = 1685026670) (w3 : ¬ uW b n lim p = 482955846501) (w4 : ¬ uW b n lim p = 119182682645875) (w5 : ¬ uW b n lim p = 426836652665) (w6 : ¬ uW b n lim p = 1885432164) (w7 : ¬ uW b n lim p = 1919907699) (k : ∀ I1, hcF I I1 → RefL b n lim p I' J' 0 I1 → Q 0 I1 J) : wcI S d 75 [.ref 28, .int (1 : Int32)] x I J Q := by
  refine failS (k _ (hcF.s (by omega)) (fun S d x Q' kk => ?_))
  refine c167_43 (wordR (by decide) u (fun q => absurd q w0) (fun _ => ⟨fun _ => wordR (by decide) u (fun q => absurd q w1) (fun _ => ⟨fun _ => wordR (by decide) u (fun q => absurd q w2) (fun _ => ⟨fun _ => wordR (by decide) u (fun q => absurd q w3) (fun _ => ⟨fun _ => wordR (by decide) u (fun q => absurd q w4) (fun _ => ⟨fun _ => wordR (by decide) u (fun q => absurd q w5) (fun _ => ⟨fun _ => wordR (by decide) u (fun q => absurd q w6) (fun _ => ⟨fun _ => wordR (by decide) u (fun q => absurd q w7) (fun _ => ⟨fun _ => badR ⟨Or.inl rfl, kk _ _ hrF.bd (lo0 (f := 1) (by decide) rfl rfl t.2.2.2.1 u.2.2.2.1)⟩, fun q => absurd rfl q⟩), fun q => absurd rfl q⟩), fun q => absurd rfl q⟩), fun q => absurd rfl q⟩), fun q => absurd rfl q⟩), fun q => absurd rfl q⟩), fun q => absurd rfl q⟩), fun q => absurd rfl q⟩))
end PG0
