section PI0
variable {S : Nat × (Nat → Int32)} {d : Nat} {x : mX} {I I' : rI0} {J J' : rJ0} {b : Nat → Int32} {n lim p R C : Nat}
theorem tPk1 {q : Nat} : (tPk b q 1).toInt32 = b q := by
  show (((0 : Int64) <<< ((8 : Int32).toInt64 &&& 63)) ||| (b (q + 0)).toInt64).toInt32 = b q
  have e : (0 : Int64) <<< ((8 : Int32).toInt64 &&& 63) = 0 := by decide
  rw [e, Nat.add_zero]
  simp
theorem copyR {l1 l2 : Int32} {to : Nat} {Rl : List Int32} {Q : Int32 → rI0 → rJ0 → Prop} (ht : l2 = nI to) (hto : to + 42 ≤ 590) (hl : Rl.length ≤ 40) : ∀ (m c : Nat) (I : rI0), c + m = Rl.length → I 43 26 = nI Rl.length → (∀ I', (∀ a, a ≠ 46 → I' a = I a) → (∀ j, ¬ (to + 2 + c ≤ j ∧ j < to + 2 + Rl.length) → I' 46 j = I 46 j) → (∀ k, c ≤ k → k < Rl.length → I' 46 (to + 2 + k) = I 48 k) → Q 1 I' J) → wp S (d + 1) 171 133 [some (.ref 43), some (.int l1), some (.int l2), some (.int (nI c))] [] (wv x I J) (rI x Q) := by
  subst ht
  intro m
  induction m with
  | zero =>
    intro c I hc e k
    have hc : c = Rl.length := by omega
    subst hc
    exact v171_43_133 ⟨fun z => absurd z (by rw [e]; exact nI_nlt (Nat.le_refl _) (by omega)), fun _ => k I (fun _ _ => rfl) (fun _ _ => rfl) (fun k q1 q2 => absurd q1 (by omega))⟩
  | succ m ih =>
    intro c I hc e k
    have ix : nI to + 2 + nI c = nI (to + 2 + c) := by
      show nI to + nI 2 + nI c = _
      rw [nI_add, nI_add]
    refine v171_43_133 ⟨fun _ => ⟨nI_in (by omega) (by omega), by rw [ix]; exact nI_in (by omega) (by omega), ?_⟩, fun q => absurd (by rw [e]; exact nI_lt (by omega) (by omega)) q⟩
    rw [ix, nI_clamp (by omega), nI_clamp (by omega), ← nI_succ]
    refine ih (c + 1) _ (by omega) (by rw [mSet_ne (by decide)]; exact e) (fun I' o f g => k I' (fun a ha => by rw [o a ha, mSet_ne ha]) (fun j hj => by rw [f j (by omega), mSet_x (by omega)]) (fun k' q1 q2 => ?_))
    rcases (show k' = c ∨ c + 1 ≤ k' by omega) with q | q
    · rw [q, f (to + 2 + c) (by omega)]
      unfold mSet va_up
      rw [if_pos rfl, if_pos rfl]
    · rw [g k' q q2, mSet_ne (by decide)]
theorem lnLaw {w : Nat} {Q : Int32 → rI0 → rJ0 → Prop} (h : HRl R C I I') (t : Tck b n lim p I) (h8 : I 28 8 = 0) (u : Nck b n lim p I' J') (hw2 : (w = 0 ∧ uW b n lim p = 30064) ∨ (w = 1 ∧ uW b n lim p = 1685026670)) (k : ∀ v I1, hcF I I1 → RefL b n lim p I' J' v I1 → Q v I1 J) : wcI S (d + 28) 40 [.ref 29, .int (nI w)] x I J Q := by
  have w1 : w ≤ 1 := by omega
  have hw0 : ¬ uW b n lim p = 0 := by
    rcases hw2 with ⟨-, q⟩ | ⟨-, q⟩ <;> rw [q] <;> decide
  obtain ⟨ha, hp, hl, ho, ht⟩ := h
  have g1 := uE_le (b := b) (lim := lim) t.1
  have g2 := uE_le (b := b) (lim := lim) g1.2
  have pg := (uE_gt (b := b) (n := n) (lim := lim) (p := p) (fun q => hw0 (uW_n (by rw [q]; decide))) (fun q => hw0 (uW_n (by rw [q]; decide)))).1
  have rr : ∀ {S : Nat × (Nat → Int32)} {d : Nat} {x : mX} {Q' : Int32 → rI0 → rJ0 → Prop}, wcI S (d + 8) 171 [.ref 43, .int (nI w)] x I' J' (fun r I2 J2 => (r = 0 ∨ r = 1) ∧ Q' r I2 J2) → wcI S (d + 9) 167 [.ref 43] x I' J' Q' := by
    intro S d x Q' kk
    rcases hw2 with ⟨e, hw⟩ | ⟨e, hw⟩
    · subst e
      exact c167_43 (wordR (by decide) u (fun q => absurd (hw.symm.trans q) (by decide)) (fun _ => ⟨fun _ => wordR (by decide) u (fun _ => ⟨fun q => absurd q (by decide), fun _ => kk⟩) (fun q => absurd hw q), fun q => absurd rfl q⟩))
    · subst e
      exact c167_43 (wordR (by decide) u (fun q => absurd (hw.symm.trans q) (by decide)) (fun _ => ⟨fun _ => wordR (by decide) u (fun q => absurd (hw.symm.trans q) (by decide)) (fun _ => ⟨fun _ => wordR (by decide) u (fun _ => ⟨fun q => absurd q (by decide), fun _ => kk⟩) (fun q => absurd hw q), fun q => absurd rfl q⟩), fun q => absurd rfl q⟩))
  -- the reference up to its letter
  have go : ∀ {S : Nat × (Nat → Int32)} {d : Nat} {x : mX} {Q' : Int32 → rI0 → rJ0 → Prop}, (∀ I2 J2, Nf5 I' J' I2 J2 → Nck b n lim (uE b n lim p) I2 J2 →
      (¬ uK b n lim (uE b n lim p) = 2 → Q' 0 (bdI I2 1) J2) ∧ (uK b n lim (uE b n lim p) = 2 → ¬ uL b n (uE b n lim p) = 1 → Q' 0 (bdI I2 2) J2) ∧ (uK b n lim (uE b n lim p) = 2 → uL b n (uE b n lim p) = 1 → ¬ (¬ b (tSk b n (uE b n lim p)) < 97 ∧ ¬ 102 < b (tSk b n (uE b n lim p))) → Q' 0 (bdI I2 2) J2)
      ∧ (∀ a, uK b n lim (uE b n lim p) = 2 → uL b n (uE b n lim p) = 1 → a ≤ 5 → b (tSk b n (uE b n lim p)) = nI (97 + a) → (¬ I' 46 (86 + 42 * (2 * a + w)) = 0 → Q' 0 (bdI I2 3) J2) ∧ (I' 46 (86 + 42 * (2 * a + w)) = 0 → ∀ I5 J5, Nf5 I2 J2 I5 J5 → Nck b n lim (uE b n lim (uE b n lim p)) I5 J5 → wcI S (d + 7) 177 [.ref 43] x (mSet (mSet (mSet I5 43 26 (0 : Int32)) 43 27 (0 : Int32)) 43 28 (0 : Int32)) J5 (fun r6 I6 J6 => (r6 = 0 → Q' 0 I6 J6) ∧ (¬ r6 = 0 → wp S (d + 8) 171 133 [some (.ref 43), some (.int (nI w)), some (.int (nI (86 + 42 * (2 * a + w)))), some (.int (0 : Int32))] [] (wv x (mSet (mSet I6 46 (86 + 42 * (2 * a + w)) (I6 43 28)) 46 (86 + 42 * (2 * a + w) + 1) (I6 43 26)) J6) (rI x (fun r I2 J2 => (r = 0 ∨ r = 1) ∧ Q' r I2 J2))))))) → wcI S (d + 9) 167 [.ref 43] x I' J' Q' := by
    intro S d x Q' kk
    refine rr (c171_43 (nextS u.2.1 (fun I2 J2 f2 t2 => ?_)))
    obtain ⟨k1, k2, k3, k4⟩ := kk I2 J2 f2 t2
    refine ⟨fun q => ?_, fun q => badR ⟨Or.inl rfl, Or.inl rfl, k1 (fun y => q (by rw [t2.2.2.1, y]; rfl))⟩⟩
    have z2 : uK b n lim (uE b n lim p) = 2 := tokOf_2.mp (t2.2.2.1.symm.trans q)
    have l8 := (uK_2 z2).2.2.1
    have e11 := (t2.2.2.2.2.1 z2).1
    have e15 := (t2.2.2.2.2.1 z2).2
    rw [e11]
    refine ⟨fun y => ?_, fun y => badR ⟨Or.inl rfl, Or.inl rfl, k2 z2 (fun q => y (by rw [q]; rfl))⟩⟩
    have y : uL b n (uE b n lim p) = 1 := nI_inj (c := 1) (by omega) (by omega) y
    have ec : (J2 43 15).toInt32 = b (tSk b n (uE b n lim p)) := by rw [e15, y, tPk1]
    rw [ec]
    refine okR (fun c => ⟨fun q => absurd q (by decide), fun _ => ?_⟩) (fun c => ⟨fun _ => badR ⟨Or.inl rfl, Or.inl rfl, k3 z2 y c⟩, fun q => absurd rfl q⟩)
    rcases kv_n (Or.inr c) with ⟨q, -⟩ | ⟨-, a, ha5, -, ea⟩
    · rw [q] at c; exact absurd c (by decide)
    have k4 := k4 a z2 y ha5 ea
    have ix : (86 : Int32) + 42 * (2 * ((J2 43 15).toInt32 - 97) + nI w) = nI (86 + 42 * (2 * a + w)) := by
      rw [ec, ea]
      show nI 86 + nI 42 * (nI 2 * (nI (97 + a) - nI 97) + nI w) = _
      rw [pk_sub (by omega), nI_mu, nI_add, nI_mu, nI_add]
      congr 1
      omega
    rw [ix]
    have c46 : I2 46 = I' 46 := f2.1 46 (by decide)
    have hn := ht (2 * a + w) (by omega)
    refine ⟨nI_in (by omega) (by omega), fun q => ?_, fun q => nextS t2.2.1 (fun I5 J5 f5 t5 => ?_)⟩
    · refine badR ⟨Or.inl rfl, Or.inl rfl, k4.1 (fun e => ?_)⟩
      rw [nI_clamp (by omega), c46, e] at q
      exact absurd q (by decide)
    · rw [nI_clamp (by omega), c46] at q
      have e0 : I' 46 (86 + 42 * (2 * a + w)) = 0 := by
        rcases hn with e | ⟨sz, -, e, e2⟩
        · exact e.2
        · rw [e] at q
          exact absurd (nI_lt (a := 0) e2.1 (by have := e2.2.1; omega)) q
      refine wcI_mono (k4.2 e0 I5 J5 f5 t5) (fun r6 I6 J6 g => ⟨fun y => ⟨Or.inl rfl, g.1 y⟩, fun y => ⟨nI_in (by omega) (by omega), ?_, ?_⟩⟩)
      · rw [← nI_succ]
        exact nI_in (by omega) (by omega)
      · have i1 : nI (86 + 42 * (2 * a + w)) + 1 = nI (86 + 42 * (2 * a + w) + 1) := (nI_succ _).symm
        rw [i1, nI_clamp (by omega), nI_clamp (by omega)]
        exact g.2 y
  refine c40_29 (readS t.2.1 (fun I1 o1 t1 => ?_))
  have e8 : I1 28 8 = 0 := by rw [o1.2 8 (by omega)]; exact h8
  have f1 : hcF I I1 := hcF.o o1.1
  refine ⟨fun z => ?_, fun z => failS ⟨Or.inl rfl, k 0 _ (f1.tr (hcF.s (by omega))) (fun S d x Q' kk => go (fun I2 J2 f2 t2 => ⟨fun _ => kk _ _ ((hrF.nx f2).tr hrF.bd) (lo0 (f := 1) (by decide) rfl rfl t1.2.2.2.1 t2.2.2.2.1), fun q => absurd (t1.2.2.1.trans q) z, fun q => absurd (t1.2.2.1.trans q) z, fun a q => absurd (t1.2.2.1.trans q) z⟩))⟩⟩
  have z2 : uK b n lim (uE b n lim p) = 2 := t1.2.2.1.symm.trans z
  have l8 := (uK_2 z2).2.2.1
  refine sizeS t1 z2 ⟨fun y => ?_, fun y => ?_⟩
  · have y : uL b n (uE b n lim p) = 1 := nI_inj (c := 1) (by omega) (by omega) y
    have sg : ∀ {Q : Int32 → rI0 → rJ0 → Prop}, Q (b (tSk b n (uE b n lim p))) I1 J → wcI S (d + 27) 72 [.ref 28, .int (0 : Int32)] x I1 J Q := by
      intro Q kk
      refine signS (c := 0) (by omega) t1 z2 ?_
      rw [if_pos (by omega), Nat.add_zero]
      exact kk
    refine sg (isKindS (fun c => ⟨fun q => absurd q (by decide), fun _ => sg ?_⟩) (fun c => ⟨fun _ => ?_, fun q => absurd rfl q⟩))
    · rcases kv_n (Or.inr c) with ⟨q, -⟩ | ⟨-, a, ha5, -, ea⟩
      · rw [q] at c; exact absurd c (by decide)
      have ix : (2 : Int32) * (b (tSk b n (uE b n lim p)) - 97) + nI w = nI (2 * a + w) := by
        rw [ea]
        show nI 2 * (nI (97 + a) - nI 97) + nI w = _
        rw [pk_sub (by omega), nI_mu, nI_add]
        congr 1
        omega
      rw [ix, nI_clamp (by omega)]
      have e21 : I1 21 (2 * a + w) = I 21 (2 * a + w) := by rw [o1.1 21 (by decide)]
      rw [e21]
      have hn := ht (2 * a + w) (by omega)
      refine ⟨nI_in (by omega) (by omega), fun e => ?_, fun e => ?_⟩
      · have e0 : I' 46 (86 + 42 * (2 * a + w)) = 0 := by
          rcases hn with q | ⟨sz, q1, -, q2⟩
          · exact q.2
          · rw [q1] at e
            exact absurd e (m1_p (by have := q2.2.1; omega))
        refine readS t1.2.1 (fun I2 o2 t2 => ?_)
        have e82 : I2 28 8 = 0 := by rw [o2.2 8 (by omega)]; exact e8
        have f2 : hcF I I2 := f1.tr (hcF.o o2.1)
        obtain ⟨f, p', o', s, V, q0, q1, q2⟩ := pj1 (b := b) (lim := lim) (m := 8) (by omega) (po1 8 (by omega)) (o := 0) g2.2 (by omega)
        have ed : nI (2 * a + w) * 20 = nI (20 * (2 * a + w)) := by
          show nI (2 * a + w) * nI 20 = _
          rw [nI_mu, Nat.mul_comm]
        rw [ed]
        have cj := q1 S d x (mSet I2 29 2 0) J (20 * (2 * a + w))
        have cf : ∀ I4, cFr (20 * (2 * a + w)) 0 (mSet I2 29 2 0) I4 → hcF I I4 := fun I4 c4 => f2.tr ((hcF.s (by omega)).tr (fun r hr => c4.1 r (by omega) (by omega) (by omega)))
        refine cj _ (by omega) t2.s29 (by rw [mSet_ne (by decide)]; exact e82) rfl (fun y1 I4 c1 c2 c3 => ⟨fun _ => k 0 I4 (cf I4 c1) (fun S d x Q' kk => go (fun I5 J5 f5 t5 => ⟨fun q => absurd z2 q, fun _ q => absurd y q, fun _ _ q => absurd c q, fun a' _ _ ha' ea' => ?_⟩)), fun q => absurd rfl q⟩) (fun y1 I4 c1 c2 c3 c4 c5 => ⟨fun q => absurd q (by decide), fun _ => ⟨nI_in (by omega) (by omega), k 1 _ ((cf I4 c1).tr (hcF.s (by omega))) (fun S d x Q' kk => go (fun I5 J5 f5 t5 => ⟨fun q => absurd z2 q, fun _ q => absurd y q, fun _ _ q => absurd c q, fun a' _ _ ha' ea' => ?_⟩))⟩⟩)
        · have ea2 : a' = a := by have := nI_inj (by omega) (by omega) (ea'.symm.trans ea); omega
          subst ea2
          refine ⟨fun q => absurd e0 q, fun _ I6 J6 f6 t6 => c177_43 ?_⟩
          have r6 : RS b n lim (uE b n lim (uE b n lim p)) 0 [] [] (mSet (mSet (mSet I6 43 26 0) 43 27 0) 43 28 0) J6 := ⟨t6.cg (by rw [mSet_ne (by decide), mSet_ne (by decide), mSet_ne (by decide)]) (fun k hk => by rw [mSet_x (by omega), mSet_x (by omega), mSet_x (by omega)]), rfl, rfl, True.intro, rfl, True.intro⟩
          have fr : pFr I6 J6 (mSet (mSet (mSet I6 43 26 0) 43 27 0) 43 28 0) J6 := (pFr.s (by omega)).tr ((pFr.s (by omega)).tr (pFr.s (by omega)))
          exact q2 S (d + 1) x _ J6 [] [] (fun r6 I6 J6 => (r6 = 0 → Q' 0 I6 J6) ∧ (¬ r6 = 0 → wp S (d + 8) 171 133 [some (.ref 43), some (.int (nI w)), some (.int (nI (86 + 42 * (2 * a' + w)))), some (.int (0 : Int32))] [] (wv x (mSet (mSet I6 46 (86 + 42 * (2 * a' + w)) (I6 43 28)) 46 (86 + 42 * (2 * a' + w) + 1) (I6 43 26)) J6) (rI x (fun r I2 J2 => (r = 0 ∨ r = 1) ∧ Q' r I2 J2)))) r6 (by decide) (by decide) (by decide) (Or.inl rfl) (fun _ I7 J7 d1 d2 => ⟨fun _ => kk _ _ (((hrF.nx f5).tr ((hrF.nx f6).tr (hrF.pf (fr.tr d1)))).tr hrF.bd) (lo0 (f := f) (q := uA b n lim p') y1 c2 rfl c3 d2), fun q => absurd rfl q⟩) (fun q => absurd q y1)
        · have ea2 : a' = a := by have := nI_inj (by omega) (by omega) (ea'.symm.trans ea); omega
          subst ea2
          obtain ⟨b1, b2, b3, b4, b5, b6, b7, b8⟩ := q0 y1
          refine ⟨fun q => absurd e0 q, fun _ I6 J6 f6 t6 => c177_43 ?_⟩
          have r6 : RS b n lim (uE b n lim (uE b n lim p)) 0 [] [] (mSet (mSet (mSet I6 43 26 0) 43 27 0) 43 28 0) J6 := ⟨t6.cg (by rw [mSet_ne (by decide), mSet_ne (by decide), mSet_ne (by decide)]) (fun k hk => by rw [mSet_x (by omega), mSet_x (by omega), mSet_x (by omega)]), rfl, rfl, True.intro, rfl, True.intro⟩
          have fr : pFr I6 J6 (mSet (mSet (mSet I6 43 26 0) 43 27 0) 43 28 0) J6 := (pFr.s (by omega)).tr ((pFr.s (by omega)).tr (pFr.s (by omega)))
          refine q2 S (d + 1) x _ J6 [] [] (fun r6 I6 J6 => (r6 = 0 → Q' 0 I6 J6) ∧ (¬ r6 = 0 → wp S (d + 8) 171 133 [some (.ref 43), some (.int (nI w)), some (.int (nI (86 + 42 * (2 * a' + w)))), some (.int (0 : Int32))] [] (wv x (mSet (mSet I6 46 (86 + 42 * (2 * a' + w)) (I6 43 28)) 46 (86 + 42 * (2 * a' + w) + 1) (I6 43 26)) J6) (rI x (fun r I2 J2 => (r = 0 ∨ r = 1) ∧ Q' r I2 J2)))) r6 (by decide) (by decide) (by decide) (Or.inl rfl) (fun q => absurd y1 q) (fun _ I7 J7 d1 d2 => endR d2 b7 b8 (by omega) (fun I8 d3 d4 => ⟨fun q => absurd q (by decide), fun _ => ?_⟩))
          refine copyR (Rl := eF s) (to := 86 + 42 * (2 * a' + w)) rfl (by omega) (by omega) (eF s).length 0 _ (by omega) (by rw [mSet_ne (by decide), mSet_ne (by decide)]; exact d4.2.2.1) (fun I9 o9 s9 w9 => ⟨Or.inr rfl, ?_⟩)
          have fr9 : hrF I8 J7 I9 J7 := ⟨fun r hr => by rw [o9 r (by omega), mSet_ne (by omega), mSet_ne (by omega)], fun k hk => by rw [o9 43 (by decide), mSet_ne (by decide), mSet_ne (by decide)], fun _ _ => rfl, fun _ _ => rfl⟩
          refine kk I9 J7 ((hrF.nx f5).tr ((hrF.nx f6).tr ((hrF.pf (fr.tr (d1.tr d3))).tr fr9))) (Or.inr ⟨rfl, (by rw [o9 43 (by decide), mSet_ne (by decide), mSet_ne (by decide), d3.2.1 13 (by omega), d1.2.1 13 (by omega), fr.2.1 13 (by omega), f6.2.1 13 (by omega), f5.2.1 13 (by omega)]), p', R, C, by omega, b4, c2.o (mSet_ne (by decide)) (mSet_ne (by decide)), by rw [mSet_ne (by decide)]; exact c3, d4.1.cg (by rw [o9 44 (by decide), mSet_ne (by decide), mSet_ne (by decide)]) (fun k hk => by rw [o9 43 (by decide), mSet_ne (by decide), mSet_ne (by decide)]), ?_⟩)
          rw [c4]
          have e846 : I8 46 = I' 46 := by rw [d3.1 46 (by decide) (by decide) (by decide), d1.1 46 (by decide) (by decide) (by decide), fr.1 46 (by decide) (by decide) (by decide), f6.1 46 (by decide), f5.1 46 (by decide)]
          have r46 : ∀ j, ¬ (86 + 42 * (2 * a' + w) ≤ j ∧ j < 128 + 42 * (2 * a' + w)) → I9 46 j = I' 46 j := fun j hj => by rw [s9 j (by omega), mSet_x (by omega), mSet_x (by omega), e846]
          have r43 : ∀ j, 20 ≤ j → j ≤ 22 → I9 43 j = I' 43 j := fun j q1 q2 => by rw [o9 43 (by decide), mSet_ne (by decide), mSet_ne (by decide), d3.2.1 j (by omega), d1.2.1 j (by omega), fr.2.1 j (by omega), f6.2.1 j (by omega), f5.2.1 j (by omega)]
          have cc : ∀ r, r ≠ 22 → r ≠ 28 → r ≠ 29 → I4 r = I r := fun r q1 q2 q3 => by rw [c1.1 r q1 q2 q3, mSet_ne q3, o2.1 r q2, o1.1 r q2]
          have c29 : ∀ j, j ≠ 2 → j ≠ 6 → I4 29 j = I 29 j := fun j q1 q2 => by rw [c1.2.1 j q1 q2, mSet_x (by omega), o2.1 29 (by decide), o1.1 29 (by decide)]
          have c22 : ∀ i, ¬ (20 * (2 * a' + w) ≤ i ∧ i < 20 * (2 * a' + w) + 20) → I4 22 i = I 22 i := fun i hi => by rw [c1.2.2 i (by omega), mSet_ne (by decide), o2.1 22 (by decide), o1.1 22 (by decide)]
          refine ⟨ha.cg (by rw [mSet_ne (by decide), cc 16 (by decide) (by decide) (by decide)]) (by rw [mSet_ne (by decide), cc 16 (by decide) (by decide) (by decide)]) (fun i _ => by rw [mSet_ne (by decide), cc 17 (by decide) (by decide) (by decide)]) (fun j q1 q2 => r46 j (by omega)), hp.cg (by rw [mSet_ne (by decide), c29 3 (by decide) (by decide)]) (r43 20 (by omega) (by omega)) (by rw [mSet_ne (by decide), cc 19 (by decide) (by decide) (by decide)]) (fun j q1 q2 => r46 j (by omega)), hl.cg (r43 21 (by omega) (by omega)) (by rw [mSet_ne (by decide), cc 20 (by decide) (by decide) (by decide)]) (fun j q1 q2 => r46 j (by omega)), ho.cg (fun j q => by rw [mSet_ne (by decide), c29 j (by omega) (by omega)]) (fun j _ _ => by rw [mSet_ne (by decide), cc 16 (by decide) (by decide) (by decide)]) (r43 22 (by omega) (by omega)) (fun j q1 q2 => r46 j (by omega)), fun l hl12 => ?_⟩
          have e22 : (mSet I4 21 (2 * a' + w) (nI o')) 22 = I4 22 := mSet_ne (by decide)
          rw [e22]
          by_cases el : l = 2 * a' + w
          · rw [el]
            refine Or.inr ⟨o', ?_, ?_, by omega, b2, V, eF s, ?_, b5, by omega, ?_, ?_⟩
            · unfold mSet va_up; rw [if_pos rfl, if_pos rfl]
            · rw [s9 _ (by omega), mSet_x (by omega)]
              have l0 : (mSet I8 46 (86 + 42 * (2 * a' + w)) (I8 43 28)) 46 (86 + 42 * (2 * a' + w)) = I8 43 28 := by unfold mSet va_up; rw [if_pos rfl, if_pos rfl]
              rw [l0]
              exact d4.2.1
            · exact c5
            · rw [s9 _ (by omega), show 87 + 42 * (2 * a' + w) = 86 + 42 * (2 * a' + w) + 1 by omega]
              have l0 : (mSet (mSet I8 46 (86 + 42 * (2 * a' + w)) (I8 43 28)) 46 (86 + 42 * (2 * a' + w) + 1) (I8 43 26)) 46 (86 + 42 * (2 * a' + w) + 1) = I8 43 26 := by unfold mSet va_up; rw [if_pos rfl, if_pos rfl]
              rw [l0]
              exact d4.2.2.1
            · refine arr_cg (A := I8 48) (eF s) (fun i hi => ?_) d4.2.2.2.1
              have q := w9 i (by omega) hi
              rw [mSet_ne (by decide), mSet_ne (by decide)] at q
              show I9 46 (88 + 42 * (2 * a' + w) + i) = I8 48 i
              rw [← q, show 86 + 42 * (2 * a' + w) + 2 + i = 88 + 42 * (2 * a' + w) + i by omega]
          · rw [mSet_x (by omega), cc 21 (by decide) (by decide) (by decide), r46 (86 + 42 * l) (by omega)]
            rcases ht l hl12 with g | ⟨sz, g1', g2', g3'⟩
            · exact Or.inl g
            · exact Or.inr ⟨sz, g1', g2', g3'.cg (fun i q1 q2 => c22 i (by omega)) (fun j q1 q2 => r46 j (by omega))⟩
      · refine failS ⟨Or.inl rfl, k 0 _ (f1.tr (hcF.s (by omega))) (fun S d x Q' kk => go (fun I2 J2 f2 t2 => ⟨fun q => absurd z2 q, fun _ q => absurd y q, fun _ _ q => absurd c q, fun a' _ _ ha' ea' => ?_⟩))⟩
        have ea2 : a' = a := by have := nI_inj (by omega) (by omega) (ea'.symm.trans ea); omega
        subst ea2
        have e0 : ¬ I' 46 (86 + 42 * (2 * a' + w)) = 0 := by
          rcases hn with q | ⟨sz, -, q, q2⟩
          · exact absurd q.1 e
          · rw [q]
            exact nI_ne0 q2.1 (by have := q2.2.1; omega)
        exact ⟨fun _ => kk _ _ ((hrF.nx f2).tr hrF.bd) (lo0 (f := 3) (by decide) rfl rfl t1.2.2.2.1 t2.2.2.2.1), fun q => absurd q e0⟩
    · refine failS ⟨Or.inl rfl, k 0 _ (f1.tr (hcF.s (by omega))) (fun S d x Q' kk => go (fun I2 J2 f2 t2 => ⟨fun q => absurd z2 q, fun _ q => absurd y q, fun _ _ _ => kk _ _ ((hrF.nx f2).tr hrF.bd) (lo0 (f := 2) (by decide) rfl rfl t1.2.2.2.1 t2.2.2.2.1), fun a' _ _ ha' ea' => absurd ?_ c⟩))⟩
      rw [ea']
      exact ⟨nI_nlt (a := 97 + a') (b := 97) (by omega) (by omega), nI_nlt (a := 102) (b := 97 + a') (by omega) (by omega)⟩
  · have y : ¬ uL b n (uE b n lim p) = 1 := fun q => y (by rw [q]; rfl)
    exact failS ⟨Or.inl rfl, k 0 _ (f1.tr (hcF.s (by omega))) (fun S d x Q' kk => go (fun I2 J2 f2 t2 => ⟨fun q => absurd z2 q, fun _ _ => kk _ _ ((hrF.nx f2).tr hrF.bd) (lo0 (f := 2) (by decide) rfl rfl t1.2.2.2.1 t2.2.2.2.1), fun _ q => absurd q y, fun a' _ q => absurd q y⟩))⟩
end PI0
