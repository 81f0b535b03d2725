section
section NU41
variable {S : Nat × (Nat → Int32)} {d : Nat} {x : mX} {I : rI0} {J : rJ0} {g : Nat → Int32} {W : Nat → lV} {N hd : Nat → Nat} {P H L : Nat → Bool}
/-- the night at t: LEVELS and HELD, who is PAID, who HISSES, who has left -/
def NO41 (g : Nat → Int32) (W : Nat → lV) (P H : Nat → Bool) (t : Nat) (I : rI0) (J : rJ0) : Prop := I 41 2 = nI t ∧ I 41 3 = nI (cuN g t) ∧ (∀ u : Nat, (I 41 4).toInt < (u : Int) → evB g u) ∧ (∀ s, s < 64 → bits5 (J 41 5) s = cuP g 0 P (cuN g t) s) ∧ (∀ s, s < 64 → bits5 (J 41 6) s = cuP g 1 H (cuN g t) s) ∧ (∀ s, s < 64 → bits5 (J 41 7) s = lfB g t s) ∧ NP 41 J (nt g W P H t).1 (nt g W P H t).2 ∧ (I 41 12 = 0 ∨ (I 41 12 = 1 ∧ ∀ u, t ≤ u → u ≤ 600 → nt g W P H u = nt g W P H t))
theorem NO41.mv {t : Nat} {I' : rI0} {J' : rJ0} (h : NO41 g W P H t I J) (hi : I' 41 = I 41) (hj : J' 41 = J 41) : NO41 g W P H t I' J' := by
  unfold NO41 NP at *
  rw [hi, hj]
  exact h
/-- hold -/
theorem ho_41 {N' : Nat → Nat} {p1 : Int64} {Q : rI0 → rJ0 → Prop} (hS : ∀ s, s < 64 → bits5 (J 4 5) s = seB g s) (hN : NP 41 J N' hd) (oN : okN g N) (oN' : okN g N') (oH : okH g hd) (hp : ∀ s, s < 64 → bits5 p1 s = (seB g s && decide (N' s = N s))) (k : ∀ I' J', F41 I J I' J' → (∀ q, q ≠ 12 → I' 41 q = I 41 q) → (∀ q, q ≠ 10 → q ≠ 11 → J' 41 q = J 41 q) → NP 41 J' N' (hdN g N N' hd) → (I' 41 12 = 0 ∨ (I' 41 12 = 1 ∧ I 41 4 < I 41 2 ∧ N' = N ∧ hdN g N N' hd = hd)) → Q I' J') : wcV S d 60 [.ref 41, .long p1] x I J Q := by
  have eb : ∀ s, s < 64 → bits5 (((J 41 10 ^^^ (-1 : Int64)) ||| J 41 11) &&& p1) s = decide (hdN g N N' hd s % 2 = 1) ∧ bits5 ((J 41 11 ||| J 41 10) &&& p1) s = decide (2 ≤ hdN g N N' hd s) := by
    intro s hs
    obtain ⟨_, _, a3, a4⟩ := hN s hs
    have hb := hd_bits (hd s) (by have := (oH s).1; omega) (seB g s && decide (N' s = N s))
    have e : hdN g N N' hd s = if (seB g s && decide (N' s = N s)) = true then (if hd s < 3 then hd s + 1 else 3) else 0 := by
      unfold hdN
      cases seB g s
      · rfl
      · by_cases z : N' s = N s
        · rw [decide_eq_true z, if_pos z]
          rfl
        · rw [decide_eq_false z, if_neg z]
          rfl
    rw [b5_and, b5_or, b5_not hs, b5_and, b5_or, a3, a4, hp s hs, e]
    exact hb
  generalize hl : ((J 41 10 ^^^ (-1 : Int64)) ||| J 41 11) &&& p1 = lo at eb
  generalize hh : (J 41 11 ||| J 41 10) &&& p1 = hi at eb
  have np : ∀ (v : Int32) , NP 41 (mSet (mSet J 41 10 lo) 41 11 hi) N' (hdN g N N' hd) := by
    intro v s hs
    obtain ⟨a1, a2, _, _⟩ := hN s hs
    exact ⟨a1, a2, (eb s hs).1, (eb s hs).2⟩
  have fr : ∀ v : Int32, F41 I J (mSet I 41 12 v) (mSet (mSet J 41 10 lo) 41 11 hi) := fun v => ⟨fun b hb => mSet_ne hb, fun b hb => by rw [mSet_ne hb, mSet_ne hb]⟩
  have f1 : ∀ (v : Int32) (q : Nat), q ≠ 12 → mSet I 41 12 v 41 q = I 41 q := by
    intro v q hq
    unfold mSet va_up
    rw [if_pos rfl, if_neg hq]
  have f2 : ∀ q : Nat, q ≠ 10 → q ≠ 11 → mSet (mSet J 41 10 lo) 41 11 hi 41 q = J 41 q := by
    intro q h1 h2
    unfold mSet va_up
    rw [if_pos rfl, if_neg h2, if_pos rfl, if_neg h1]
  have z0 : Q (mSet I 41 12 0) (mSet (mSet J 41 10 lo) 41 11 hi) := k _ _ (fr 0) (f1 0) f2 (np 0) (Or.inl rfl)
  have A : ∀ (s0 : Int32) (l1 : Int64), (¬ s0 = 0 → N' = N ∧ hdN g N N' hd = hd) → wp S d 60 65 [some (.ref 41), some (.long l1), none, some (.long lo), none, some (.long hi), none, none] [.int s0] (wv x I J) (rV x Q) := by
    intro s0 l1 hs0
    refine v60_41_65 ⟨fun _ => z0, fun y => ⟨fun q => ?_, fun _ => z0⟩⟩
    obtain ⟨e1, e2⟩ := hs0 y
    exact k _ _ (fr 1) (f1 1) f2 (np 1) (Or.inr ⟨rfl, q, e1, e2⟩)
  refine c60_41 ?_
  rw [hl, hh]
  refine ⟨fun q1 => ⟨fun q2 => ⟨fun q3 => A _ _ (fun _ => ?_), fun _ => A _ _ (fun y => absurd rfl y)⟩, fun _ => A _ _ (fun y => absurd rfl y)⟩, fun _ => A _ _ (fun y => absurd rfl y)⟩
  have q1 := lg_eq.mp q1
  have q2 := lg_eq.mp q2
  have q3 := lg_eq.mp q3
  constructor
  · funext s
    cases z : seB g s with
    | false => rw [(oN s).2 z, (oN' s).2 z]
    | true =>
      have hs := seB_l z
      have := hp s hs
      rw [q1, hS s hs, z, Bool.true_and] at this
      exact of_decide_eq_true this.symm
  · funext s
    cases z : seB g s with
    | false => rw [(oH s).2 z, (hdN_o s).2 z]
    | true =>
      have hs := seB_l z
      obtain ⟨_, _, a3, a4⟩ := hN s hs
      have e1 := (eb s hs).1
      have e2 := (eb s hs).2
      rw [q2, a3] at e1
      rw [q3, a4] at e2
      exact (hd_inj (hd s) (by have := (oH s).1; omega) _ (by have := (hdN_o (g := g) (N := N) (N' := N') (hd := hd) s).1; omega) e1 e2).symm
/-- a moment -/
theorem st_41 {t : Nat} {Q : rI0 → rJ0 → Prop} (hG : GA g) (hM : HM g W I J) (hP : ∀ s, P s = true → seB g s = true) (ht : t < 600) (h : NO41 g W P H t I J) (k : ∀ I' J', F41 I J I' J' → NO41 g W P H (t + 1) I' J' → Q I' J') : wcV S (d + 21) 55 [.ref 41] x I J Q := by
  obtain ⟨h2, h3, h4, h5, h6, h7, hN, hc⟩ := h
  obtain ⟨oN, oH⟩ := nt_o (g := g) (W := W) (P := P) (H := H) t
  generalize hq : nt g W P H t = q at *
  obtain ⟨N, hd⟩ := q
  have oN : okN g N := oN
  have oH : okH g hd := oH
  have hN : NP 41 J N hd := hN
  have enx : nt g W P H (t + 1) = mtN g W P H (t + 1) (N, hd) := by
    show mtN g W P H (t + 1) (nt g W P H t) = _
    rw [hq]
  refine c55_41 ?_
  rw [h2, ← nI_succ]
  refine c56_41 ?_
  have hM0 : HM g W (mSet I 41 2 (nI (t + 1))) J := hM.n41 ⟨fun b hb => mSet_ne hb, fun _ _ => rfl⟩
  have e0 : (0 : Int32) = nI (if stB g (prN g (t + 1)) (cuN g t) = true then 1 else 0) := by
    rw [show cuN g t = prN g (t + 1) from rfl, stB_0]
    rfl
  rw [e0]
  refine dc_41 (d := d + 19) (P := P) (H := H) hG (by omega) (cuN g (t + 1) - cuN g t) (cuN g t) _ J (by have := prN_c hG (t := t + 1); have e : prN g (t + 1) = cuN g t := rfl; omega) (Nat.le_refl _) hM0 rfl h3 h5 h6 (fun I1 J1 f1 fi1 fj1 c3 c5 c6 => ?_)
  have hM1 : HM g W I1 J1 := hM0.n41 f1
  have m1 : I1 41 2 = nI (t + 1) := (fi1 2 (by decide)).trans rfl
  refine c57_41 (so_41 (d := d + 19) hG (show t + 1 ≤ 600 by omega) (gN g 0) 0 J1 (by omega) hM1 m1 (fun s hs => ?_) (fun J2 f2 fj2 l7 => ?_))
  · rw [fj1 7 (by decide) (by decide), h7 s hs, Nat.zero_mul, decide_eq_false (show ¬ s < 0 by omega), Bool.false_and, Bool.or_false]
    rfl
  have hM2 : HM g W I1 J2 := hM1.n41 f2
  have p5 : ∀ s, s < 64 → bits5 (J2 41 5) s = cuP g 0 P (cuN g (t + 1)) s := fun s hs => by rw [fj2 5 (by decide)]; exact c5 s hs
  have p6 : ∀ s, s < 64 → bits5 (J2 41 6) s = cuP g 1 H (cuN g (t + 1)) s := fun s hs => by rw [fj2 6 (by decide)]; exact c6 s hs
  have np2 : NP 41 J2 N hd := by
    intro s hs
    rw [fj2 8 (by decide), fj2 9 (by decide), fj2 10 (by decide), fj2 11 (by decide), fj1 8 (by decide) (by decide), fj1 9 (by decide) (by decide), fj1 10 (by decide) (by decide), fj1 11 (by decide) (by decide)]
    exact hN s hs
  refine sd_41 hG hM2 (by omega) m1 p5 p6 l7 (fun v hv => ?_)
  have hP2 : ∀ s, cuP g 0 P (cuN g (t + 1)) s = true → seB g s = true := cuP_se hG hP _ cuN_l
  have i4 : I1 41 4 = I 41 4 := (fi1 4 (by decide)).trans rfl
  have hbd : ∀ s, s < 64 → bits5 (if cuS g (t + 1) = true then J2 4 5 else (v ||| J2 41 6) ||| J2 41 7) s = (if cuS g (t + 1) = true then seB g s else (((decide (t + 1 ≤ gN g 4) && ((cuP g 0 P (cuN g (t + 1)) s && !cuP g 1 H (cuN g (t + 1)) s) && !lfB g (t + 1) s)) || cuP g 1 H (cuN g (t + 1)) s) || lfB g (t + 1) s)) := by
    intro s hs
    cases cuS g (t + 1) with
    | true => exact hM2.2.2.2.2.1 s hs
    | false =>
      show bits5 ((v ||| J2 41 6) ||| J2 41 7) s = _
      rw [b5_or, b5_or, hv s hs, p6 s hs, l7 s hs]
      rfl
  have fin : ∀ (l1 : Int32) (l4 : Int64) (J3 : rJ0) (N' : Nat → Nat), F41 I1 J2 I1 J3 → (∀ q, q ≠ 8 → q ≠ 9 → J3 41 q = J2 41 q) → NP 41 J3 N' hd → okN g N' → N' = (mtN g W P H (t + 1) (N, hd)).1 → wp S (d + 21) 55 127 [some (.ref 41), some (.int l1), some (.long v), none, some (.long l4), none, some (.long (J2 41 8)), none, some (.long (J2 41 9)), none, none] [] (wv x I1 J3) (rV x Q) := by
    intro l1 l4 J3 N' f3 fj3 np3 oN' eN'
    refine v55_41_127 (d := d + 20) (ho_41 (g := g) (N := N) (N' := N') (hd := hd) (fun s hs => by rw [f3.2 4 (by decide)]; exact hM2.2.2.2.2.1 s hs) np3 oN oN' oH (fun s hs => ?_) (fun I4 J4 f4 fi4 fj4 np4 c4 => ?_))
    · have e := lv_eq (N s) (by have := (oN s).1; omega) (N' s) (by have := (oN' s).1; omega)
      rw [b5_and, b5_and, b5_not hs, b5_xor, b5_not hs, b5_xor, f3.2 4 (by decide), hM2.2.2.2.2.1 s hs, (np3 s hs).1, (np3 s hs).2.1, (np2 s hs).1, (np2 s hs).2.1, Bool.and_assoc, e]
    · have eh : hdN g N N' hd = (mtN g W P H (t + 1) (N, hd)).2 := by
        rw [eN']
        rfl
      refine k I4 J4 (F41.tr (F41.tr ⟨fun b hb => mSet_ne hb, fun _ _ => rfl⟩ f1) (F41.tr f2 (F41.tr f3 f4))) ⟨?_, ?_, ?_, fun s hs => ?_, fun s hs => ?_, fun s hs => ?_, ?_, ?_⟩
      · rw [fi4 2 (by decide)]
        exact m1
      · rw [fi4 3 (by decide)]
        exact c3
      · rw [fi4 4 (by decide), i4]
        exact h4
      · rw [fj4 5 (by decide) (by decide), fj3 5 (by decide) (by decide)]
        exact p5 s hs
      · rw [fj4 6 (by decide) (by decide), fj3 6 (by decide) (by decide)]
        exact p6 s hs
      · rw [fj4 7 (by decide) (by decide), fj3 7 (by decide) (by decide)]
        exact l7 s hs
      · rw [enx, ← eh, ← eN']
        exact np4
      · rcases c4 with z | ⟨z1, z2, z3, z4⟩
        · exact Or.inl z
        · refine Or.inr ⟨z1, fun u hu h6 => ?_⟩
          have ev : evB g (t + 1) := by
            refine h4 (t + 1) ?_
            rw [i4, m1] at z2
            have := i_lt z2
            rw [nI_toInt (by omega)] at this
            exact this
          have e : nt g W P H (t + 1) = nt g W P H t := by
            rw [enx, hq]
            refine Prod.ext ?_ ?_
            · rw [← eN']
              exact z3
            · rw [← eh]
              exact z4
          rw [nt_calm ev hG.2.2.1 e u (by omega) h6, e]
  have B : ∀ l1 : Int32, wp S (d + 21) 55 49 [some (.ref 41), some (.int l1), some (.long v), none, none, none, none, none, none, none, none] [.long (if cuS g (t + 1) = true then J2 4 5 else (v ||| J2 41 6) ||| J2 41 7)] (wv x I1 J2) (rV x Q) := by
    intro l1
    generalize hbv : (if cuS g (t + 1) = true then J2 4 5 else (v ||| J2 41 6) ||| J2 41 7) = bv at *
    refine v55_41_49 (d := d + 20) ⟨fun q => ?_, fun q => ?_⟩
    · rw [hM2.2.2.2.1] at q
      have q : gN g 5 = 0 := nI_ij (by have := hG.2.2.2.1; omega) (by omega) q
      refine mv_41 np2 oN oH hM2 hG hP2 (fun s hs => hM2.2.2.2.2.1 s hs) hv hbd (fun J3 f3 fj3 np3 => fin l1 bv J3 _ f3 fj3 np3 (mvN_o oN) ?_)
      show _ = nxN g W _ _ _ _ _ N hd
      unfold nxN
      rw [if_pos q]
    · rw [hM2.2.2.2.1] at q
      have q : gN g 5 ≠ 0 := fun z => q (by rw [z]; rfl)
      have h8 := hG.1
      have lp : ∀ (m r : Nat) (J3 : rJ0), r + m = gN g 0 → F41 I1 J2 I1 J3 → (∀ q, q ≠ 8 → q ≠ 9 → J3 41 q = J2 41 q) → NP 41 J3 (rwN g W (cuP g 0 P (cuN g (t + 1))) (cuP g 1 H (cuN g (t + 1))) (lfB g (t + 1)) (decide (t + 1 ≤ gN g 4)) (cuS g (t + 1)) N hd r) hd → wp S (d + 21) 55 76 [some (.ref 41), some (.int l1), some (.long v), none, some (.long bv), none, some (.long (J2 41 8)), none, some (.long (J2 41 9)), none, some (.int (nI r))] [] (wv x I1 J3) (rV x Q) := by
        intro m
        induction m with
        | zero =>
          intro r J3 hr f3 fj3 np3
          have hr : r = gN g 0 := by omega
          have hM3 := hM2.n41 f3
          refine v55_41_76 (d := d + 20) ⟨fun y => absurd y (by rw [hM3.1]; exact nI_nlt (by omega) (by omega)), fun _ => fin l1 bv J3 _ f3 fj3 np3 (rwN_o oN r) ?_⟩
          show _ = nxN g W _ _ _ _ _ N hd
          unfold nxN
          rw [if_neg q, hr]
        | succ m ih =>
          intro r J3 hr f3 fj3 np3
          have hM3 := hM2.n41 f3
          refine v55_41_76 (d := d + 20) ⟨fun _ => rws_41 hG hM3 (by omega) (fun w hw => mv_41 np3 (rwN_o oN r) oH hM3 hG hP2 hw hv hbd (fun J4 f4 fj4 np4 => ?_)), fun y => absurd (by rw [hM3.1]; exact nI_lt (by omega) (by omega)) y⟩
          rw [← nI_succ]
          exact ih (r + 1) J4 (by omega) (F41.tr f3 f4) (fun q h1 h2 => (fj4 q h1 h2).trans (fj3 q h1 h2)) np4
      exact lp (gN g 0) 0 J2 (by omega) F41.rf (fun _ _ _ => rfl) np2
  refine ⟨fun z => ?_, fun z => ?_⟩
  · rw [← e0] at z
    have e : cuS g (t + 1) = false := by
      cases y : cuS g (t + 1) with
      | false => rfl
      | true =>
        rw [y] at z
        exact absurd z (by decide)
    have b := B (nI (if cuS g (t + 1) = true then 1 else 0))
    rw [e] at b ⊢
    exact b
  · rw [← e0] at z
    have e : cuS g (t + 1) = true := by
      cases y : cuS g (t + 1) with
      | true => rfl
      | false =>
        rw [y] at z
        exact absurd rfl z
    have b := B (nI (if cuS g (t + 1) = true then 1 else 0))
    rw [e] at b ⊢
    exact b
end NU41
end
section
section NU42
variable {S : Nat × (Nat → Int32)} {d : Nat} {x : mX} {I : rI0} {J : rJ0} {g : Nat → Int32} {W : Nat → lV} {N hd : Nat → Nat} {P H L : Nat → Bool}
/-- the night at t: LEVELS and HELD, who is PAID, who HISSES, who has left -/
def NO42 (g : Nat → Int32) (W : Nat → lV) (P H : Nat → Bool) (t : Nat) (I : rI0) (J : rJ0) : Prop := I 42 2 = nI t ∧ I 42 3 = nI (cuN g t) ∧ (∀ u : Nat, (I 42 4).toInt < (u : Int) → evB g u) ∧ (∀ s, s < 64 → bits5 (J 42 5) s = cuP g 0 P (cuN g t) s) ∧ (∀ s, s < 64 → bits5 (J 42 6) s = cuP g 1 H (cuN g t) s) ∧ (∀ s, s < 64 → bits5 (J 42 7) s = lfB g t s) ∧ NP 42 J (nt g W P H t).1 (nt g W P H t).2 ∧ (I 42 12 = 0 ∨ (I 42 12 = 1 ∧ ∀ u, t ≤ u → u ≤ 600 → nt g W P H u = nt g W P H t))
theorem NO42.mv {t : Nat} {I' : rI0} {J' : rJ0} (h : NO42 g W P H t I J) (hi : I' 42 = I 42) (hj : J' 42 = J 42) : NO42 g W P H t I' J' := by
  unfold NO42 NP at *
  rw [hi, hj]
  exact h
/-- hold -/
theorem ho_42 {N' : Nat → Nat} {p1 : Int64} {Q : rI0 → rJ0 → Prop} (hS : ∀ s, s < 64 → bits5 (J 4 5) s = seB g s) (hN : NP 42 J N' hd) (oN : okN g N) (oN' : okN g N') (oH : okH g hd) (hp : ∀ s, s < 64 → bits5 p1 s = (seB g s && decide (N' s = N s))) (k : ∀ I' J', F42 I J I' J' → (∀ q, q ≠ 12 → I' 42 q = I 42 q) → (∀ q, q ≠ 10 → q ≠ 11 → J' 42 q = J 42 q) → NP 42 J' N' (hdN g N N' hd) → (I' 42 12 = 0 ∨ (I' 42 12 = 1 ∧ I 42 4 < I 42 2 ∧ N' = N ∧ hdN g N N' hd = hd)) → Q I' J') : wcV S d 60 [.ref 42, .long p1] x I J Q := by
  have eb : ∀ s, s < 64 → bits5 (((J 42 10 ^^^ (-1 : Int64)) ||| J 42 11) &&& p1) s = decide (hdN g N N' hd s % 2 = 1) ∧ bits5 ((J 42 11 ||| J 42 10) &&& p1) s = decide (2 ≤ hdN g N N' hd s) := by
    intro s hs
    obtain ⟨_, _, a3, a4⟩ := hN s hs
    have hb := hd_bits (hd s) (by have := (oH s).1; omega) (seB g s && decide (N' s = N s))
    have e : hdN g N N' hd s = if (seB g s && decide (N' s = N s)) = true then (if hd s < 3 then hd s + 1 else 3) else 0 := by
      unfold hdN
      cases seB g s
      · rfl
      · by_cases z : N' s = N s
        · rw [decide_eq_true z, if_pos z]
          rfl
        · rw [decide_eq_false z, if_neg z]
          rfl
    rw [b5_and, b5_or, b5_not hs, b5_and, b5_or, a3, a4, hp s hs, e]
    exact hb
  generalize hl : ((J 42 10 ^^^ (-1 : Int64)) ||| J 42 11) &&& p1 = lo at eb
  generalize hh : (J 42 11 ||| J 42 10) &&& p1 = hi at eb
  have np : ∀ (v : Int32) , NP 42 (mSet (mSet J 42 10 lo) 42 11 hi) N' (hdN g N N' hd) := by
    intro v s hs
    obtain ⟨a1, a2, _, _⟩ := hN s hs
    exact ⟨a1, a2, (eb s hs).1, (eb s hs).2⟩
  have fr : ∀ v : Int32, F42 I J (mSet I 42 12 v) (mSet (mSet J 42 10 lo) 42 11 hi) := fun v => ⟨fun b hb => mSet_ne hb, fun b hb => by rw [mSet_ne hb, mSet_ne hb]⟩
  have f1 : ∀ (v : Int32) (q : Nat), q ≠ 12 → mSet I 42 12 v 42 q = I 42 q := by
    intro v q hq
    unfold mSet va_up
    rw [if_pos rfl, if_neg hq]
  have f2 : ∀ q : Nat, q ≠ 10 → q ≠ 11 → mSet (mSet J 42 10 lo) 42 11 hi 42 q = J 42 q := by
    intro q h1 h2
    unfold mSet va_up
    rw [if_pos rfl, if_neg h2, if_pos rfl, if_neg h1]
  have z0 : Q (mSet I 42 12 0) (mSet (mSet J 42 10 lo) 42 11 hi) := k _ _ (fr 0) (f1 0) f2 (np 0) (Or.inl rfl)
  have A : ∀ (s0 : Int32) (l1 : Int64), (¬ s0 = 0 → N' = N ∧ hdN g N N' hd = hd) → wp S d 60 65 [some (.ref 42), some (.long l1), none, some (.long lo), none, some (.long hi), none, none] [.int s0] (wv x I J) (rV x Q) := by
    intro s0 l1 hs0
    refine v60_42_65 ⟨fun _ => z0, fun y => ⟨fun q => ?_, fun _ => z0⟩⟩
    obtain ⟨e1, e2⟩ := hs0 y
    exact k _ _ (fr 1) (f1 1) f2 (np 1) (Or.inr ⟨rfl, q, e1, e2⟩)
  refine c60_42 ?_
  rw [hl, hh]
  refine ⟨fun q1 => ⟨fun q2 => ⟨fun q3 => A _ _ (fun _ => ?_), fun _ => A _ _ (fun y => absurd rfl y)⟩, fun _ => A _ _ (fun y => absurd rfl y)⟩, fun _ => A _ _ (fun y => absurd rfl y)⟩
  have q1 := lg_eq.mp q1
  have q2 := lg_eq.mp q2
  have q3 := lg_eq.mp q3
  constructor
  · funext s
    cases z : seB g s with
    | false => rw [(oN s).2 z, (oN' s).2 z]
    | true =>
      have hs := seB_l z
      have := hp s hs
      rw [q1, hS s hs, z, Bool.true_and] at this
      exact of_decide_eq_true this.symm
  · funext s
    cases z : seB g s with
    | false => rw [(oH s).2 z, (hdN_o s).2 z]
    | true =>
      have hs := seB_l z
      obtain ⟨_, _, a3, a4⟩ := hN s hs
      have e1 := (eb s hs).1
      have e2 := (eb s hs).2
      rw [q2, a3] at e1
      rw [q3, a4] at e2
      exact (hd_inj (hd s) (by have := (oH s).1; omega) _ (by have := (hdN_o (g := g) (N := N) (N' := N') (hd := hd) s).1; omega) e1 e2).symm
/-- a moment -/
theorem st_42 {t : Nat} {Q : rI0 → rJ0 → Prop} (hG : GA g) (hM : HM g W I J) (hP : ∀ s, P s = true → seB g s = true) (ht : t < 600) (h : NO42 g W P H t I J) (k : ∀ I' J', F42 I J I' J' → NO42 g W P H (t + 1) I' J' → Q I' J') : wcV S (d + 21) 55 [.ref 42] x I J Q := by
  obtain ⟨h2, h3, h4, h5, h6, h7, hN, hc⟩ := h
  obtain ⟨oN, oH⟩ := nt_o (g := g) (W := W) (P := P) (H := H) t
  generalize hq : nt g W P H t = q at *
  obtain ⟨N, hd⟩ := q
  have oN : okN g N := oN
  have oH : okH g hd := oH
  have hN : NP 42 J N hd := hN
  have enx : nt g W P H (t + 1) = mtN g W P H (t + 1) (N, hd) := by
    show mtN g W P H (t + 1) (nt g W P H t) = _
    rw [hq]
  refine c55_42 ?_
  rw [h2, ← nI_succ]
  refine c56_42 ?_
  have hM0 : HM g W (mSet I 42 2 (nI (t + 1))) J := hM.n42 ⟨fun b hb => mSet_ne hb, fun _ _ => rfl⟩
  have e0 : (0 : Int32) = nI (if stB g (prN g (t + 1)) (cuN g t) = true then 1 else 0) := by
    rw [show cuN g t = prN g (t + 1) from rfl, stB_0]
    rfl
  rw [e0]
  refine dc_42 (d := d + 19) (P := P) (H := H) hG (by omega) (cuN g (t + 1) - cuN g t) (cuN g t) _ J (by have := prN_c hG (t := t + 1); have e : prN g (t + 1) = cuN g t := rfl; omega) (Nat.le_refl _) hM0 rfl h3 h5 h6 (fun I1 J1 f1 fi1 fj1 c3 c5 c6 => ?_)
  have hM1 : HM g W I1 J1 := hM0.n42 f1
  have m1 : I1 42 2 = nI (t + 1) := (fi1 2 (by decide)).trans rfl
  refine c57_42 (so_42 (d := d + 19) hG (show t + 1 ≤ 600 by omega) (gN g 0) 0 J1 (by omega) hM1 m1 (fun s hs => ?_) (fun J2 f2 fj2 l7 => ?_))
  · rw [fj1 7 (by decide) (by decide), h7 s hs, Nat.zero_mul, decide_eq_false (show ¬ s < 0 by omega), Bool.false_and, Bool.or_false]
    rfl
  have hM2 : HM g W I1 J2 := hM1.n42 f2
  have p5 : ∀ s, s < 64 → bits5 (J2 42 5) s = cuP g 0 P (cuN g (t + 1)) s := fun s hs => by rw [fj2 5 (by decide)]; exact c5 s hs
  have p6 : ∀ s, s < 64 → bits5 (J2 42 6) s = cuP g 1 H (cuN g (t + 1)) s := fun s hs => by rw [fj2 6 (by decide)]; exact c6 s hs
  have np2 : NP 42 J2 N hd := by
    intro s hs
    rw [fj2 8 (by decide), fj2 9 (by decide), fj2 10 (by decide), fj2 11 (by decide), fj1 8 (by decide) (by decide), fj1 9 (by decide) (by decide), fj1 10 (by decide) (by decide), fj1 11 (by decide) (by decide)]
    exact hN s hs
  refine sd_42 hG hM2 (by omega) m1 p5 p6 l7 (fun v hv => ?_)
  have hP2 : ∀ s, cuP g 0 P (cuN g (t + 1)) s = true → seB g s = true := cuP_se hG hP _ cuN_l
  have i4 : I1 42 4 = I 42 4 := (fi1 4 (by decide)).trans rfl
  have hbd : ∀ s, s < 64 → bits5 (if cuS g (t + 1) = true then J2 4 5 else (v ||| J2 42 6) ||| J2 42 7) s = (if cuS g (t + 1) = true then seB g s else (((decide (t + 1 ≤ gN g 4) && ((cuP g 0 P (cuN g (t + 1)) s && !cuP g 1 H (cuN g (t + 1)) s) && !lfB g (t + 1) s)) || cuP g 1 H (cuN g (t + 1)) s) || lfB g (t + 1) s)) := by
    intro s hs
    cases cuS g (t + 1) with
    | true => exact hM2.2.2.2.2.1 s hs
    | false =>
      show bits5 ((v ||| J2 42 6) ||| J2 42 7) s = _
      rw [b5_or, b5_or, hv s hs, p6 s hs, l7 s hs]
      rfl
  have fin : ∀ (l1 : Int32) (l4 : Int64) (J3 : rJ0) (N' : Nat → Nat), F42 I1 J2 I1 J3 → (∀ q, q ≠ 8 → q ≠ 9 → J3 42 q = J2 42 q) → NP 42 J3 N' hd → okN g N' → N' = (mtN g W P H (t + 1) (N, hd)).1 → wp S (d + 21) 55 127 [some (.ref 42), some (.int l1), some (.long v), none, some (.long l4), none, some (.long (J2 42 8)), none, some (.long (J2 42 9)), none, none] [] (wv x I1 J3) (rV x Q) := by
    intro l1 l4 J3 N' f3 fj3 np3 oN' eN'
    refine v55_42_127 (d := d + 20) (ho_42 (g := g) (N := N) (N' := N') (hd := hd) (fun s hs => by rw [f3.2 4 (by decide)]; exact hM2.2.2.2.2.1 s hs) np3 oN oN' oH (fun s hs => ?_) (fun I4 J4 f4 fi4 fj4 np4 c4 => ?_))
    · have e := lv_eq (N s) (by have := (oN s).1; omega) (N' s) (by have := (oN' s).1; omega)
      rw [b5_and, b5_and, b5_not hs, b5_xor, b5_not hs, b5_xor, f3.2 4 (by decide), hM2.2.2.2.2.1 s hs, (np3 s hs).1, (np3 s hs).2.1, (np2 s hs).1, (np2 s hs).2.1, Bool.and_assoc, e]
    · have eh : hdN g N N' hd = (mtN g W P H (t + 1) (N, hd)).2 := by
        rw [eN']
        rfl
      refine k I4 J4 (F42.tr (F42.tr ⟨fun b hb => mSet_ne hb, fun _ _ => rfl⟩ f1) (F42.tr f2 (F42.tr f3 f4))) ⟨?_, ?_, ?_, fun s hs => ?_, fun s hs => ?_, fun s hs => ?_, ?_, ?_⟩
      · rw [fi4 2 (by decide)]
        exact m1
      · rw [fi4 3 (by decide)]
        exact c3
      · rw [fi4 4 (by decide), i4]
        exact h4
      · rw [fj4 5 (by decide) (by decide), fj3 5 (by decide) (by decide)]
        exact p5 s hs
      · rw [fj4 6 (by decide) (by decide), fj3 6 (by decide) (by decide)]
        exact p6 s hs
      · rw [fj4 7 (by decide) (by decide), fj3 7 (by decide) (by decide)]
        exact l7 s hs
      · rw [enx, ← eh, ← eN']
        exact np4
      · rcases c4 with z | ⟨z1, z2, z3, z4⟩
        · exact Or.inl z
        · refine Or.inr ⟨z1, fun u hu h6 => ?_⟩
          have ev : evB g (t + 1) := by
            refine h4 (t + 1) ?_
            rw [i4, m1] at z2
            have := i_lt z2
            rw [nI_toInt (by omega)] at this
            exact this
          have e : nt g W P H (t + 1) = nt g W P H t := by
            rw [enx, hq]
            refine Prod.ext ?_ ?_
            · rw [← eN']
              exact z3
            · rw [← eh]
              exact z4
          rw [nt_calm ev hG.2.2.1 e u (by omega) h6, e]
  have B : ∀ l1 : Int32, wp S (d + 21) 55 49 [some (.ref 42), some (.int l1), some (.long v), none, none, none, none, none, none, none, none] [.long (if cuS g (t + 1) = true then J2 4 5 else (v ||| J2 42 6) ||| J2 42 7)] (wv x I1 J2) (rV x Q) := by
    intro l1
    generalize hbv : (if cuS g (t + 1) = true then J2 4 5 else (v ||| J2 42 6) ||| J2 42 7) = bv at *
    refine v55_42_49 (d := d + 20) ⟨fun q => ?_, fun q => ?_⟩
    · rw [hM2.2.2.2.1] at q
      have q : gN g 5 = 0 := nI_ij (by have := hG.2.2.2.1; omega) (by omega) q
      refine mv_42 np2 oN oH hM2 hG hP2 (fun s hs => hM2.2.2.2.2.1 s hs) hv hbd (fun J3 f3 fj3 np3 => fin l1 bv J3 _ f3 fj3 np3 (mvN_o oN) ?_)
      show _ = nxN g W _ _ _ _ _ N hd
      unfold nxN
      rw [if_pos q]
    · rw [hM2.2.2.2.1] at q
      have q : gN g 5 ≠ 0 := fun z => q (by rw [z]; rfl)
      have h8 := hG.1
      have lp : ∀ (m r : Nat) (J3 : rJ0), r + m = gN g 0 → F42 I1 J2 I1 J3 → (∀ q, q ≠ 8 → q ≠ 9 → J3 42 q = J2 42 q) → NP 42 J3 (rwN g W (cuP g 0 P (cuN g (t + 1))) (cuP g 1 H (cuN g (t + 1))) (lfB g (t + 1)) (decide (t + 1 ≤ gN g 4)) (cuS g (t + 1)) N hd r) hd → wp S (d + 21) 55 76 [some (.ref 42), some (.int l1), some (.long v), none, some (.long bv), none, some (.long (J2 42 8)), none, some (.long (J2 42 9)), none, some (.int (nI r))] [] (wv x I1 J3) (rV x Q) := by
        intro m
        induction m with
        | zero =>
          intro r J3 hr f3 fj3 np3
          have hr : r = gN g 0 := by omega
          have hM3 := hM2.n42 f3
          refine v55_42_76 (d := d + 20) ⟨fun y => absurd y (by rw [hM3.1]; exact nI_nlt (by omega) (by omega)), fun _ => fin l1 bv J3 _ f3 fj3 np3 (rwN_o oN r) ?_⟩
          show _ = nxN g W _ _ _ _ _ N hd
          unfold nxN
          rw [if_neg q, hr]
        | succ m ih =>
          intro r J3 hr f3 fj3 np3
          have hM3 := hM2.n42 f3
          refine v55_42_76 (d := d + 20) ⟨fun _ => rws_42 hG hM3 (by omega) (fun w hw => mv_42 np3 (rwN_o oN r) oH hM3 hG hP2 hw hv hbd (fun J4 f4 fj4 np4 => ?_)), fun y => absurd (by rw [hM3.1]; exact nI_lt (by omega) (by omega)) y⟩
          rw [← nI_succ]
          exact ih (r + 1) J4 (by omega) (F42.tr f3 f4) (fun q h1 h2 => (fj4 q h1 h2).trans (fj3 q h1 h2)) np4
      exact lp (gN g 0) 0 J2 (by omega) F42.rf (fun _ _ _ => rfl) np2
  refine ⟨fun z => ?_, fun z => ?_⟩
  · rw [← e0] at z
    have e : cuS g (t + 1) = false := by
      cases y : cuS g (t + 1) with
      | false => rfl
      | true =>
        rw [y] at z
        exact absurd z (by decide)
    have b := B (nI (if cuS g (t + 1) = true then 1 else 0))
    rw [e] at b ⊢
    exact b
  · rw [← e0] at z
    have e : cuS g (t + 1) = true := by
      cases y : cuS g (t + 1) with
      | true => rfl
      | false =>
        rw [y] at z
        exact absurd rfl z
    have b := B (nI (if cuS g (t + 1) = true then 1 else 0))
    rw [e] at b ⊢
    exact b
end NU42
end
section
/-! lastEvent -/
section NV0
variable {S : Nat × (Nat → Int32)} {d : Nat} {x : mX} {I : rI0} {J : rJ0} {g : Nat → Int32} {W : Nat → lV}
theorem lvI (hM : HM g W I J) {r : Nat} (hr : r < 8) : (I 8 r).toInt = (gN g (78 + r) : Int) - 1 ∧ gN g (78 + r) ≤ 601 := by
  rcases hM.2.2.2.2.2.2.1 r hr with ⟨a1, a2⟩ | ⟨m, a1, a2, a3⟩
  · rw [a1, a2]
    exact ⟨by decide, by omega⟩
  · rw [a2, a3, nI_toInt (by omega)]
    omega
theorem max_i {a b : Int32} : (if a < b then b else a).toInt = if a.toInt < b.toInt then b.toInt else a.toInt := by
  by_cases z : a < b
  · rw [if_pos z, if_pos (i_lt z)]
  · rw [if_neg z, if_neg (by have := i_nlt z; omega)]
theorem ll_lp (hG : GA g) (hM : HM g W I J) {Q : Int32 → rI0 → rJ0 → Prop} (k : ∀ v : Int32, -1 ≤ v.toInt → v.toInt ≤ 600 → (∀ Z : Int, -1 ≤ Z → (v.toInt ≤ Z ↔ ∀ r, r < gN g 0 → (gN g (78 + r) : Int) - 1 ≤ Z)) → Q v I J) : ∀ (m r : Nat) (v : Int32), r + m = gN g 0 → -1 ≤ v.toInt → v.toInt ≤ 600 → (∀ Z : Int, -1 ≤ Z → (v.toInt ≤ Z ↔ ∀ q, q < r → (gN g (78 + q) : Int) - 1 ≤ Z)) → wp S (d + 1) 29 4 [some (.ref 4), some (.int v), some (.int (nI r))] [] (wv x I J) (rI x Q) := by
  have h8 := hG.1
  intro m
  induction m with
  | zero =>
    intro r v hr h1 h6 hz
    have hr : r = gN g 0 := by omega
    subst hr
    exact v29_4_4 ⟨fun q => absurd q (by rw [hM.1]; exact nI_nlt (by omega) (by omega)), fun _ => k v h1 h6 hz⟩
  | succ m ih =>
    intro r v hr h1 h6 hz
    have hl := lvI hM (r := r) (by omega)
    refine v29_4_4 ⟨fun _ => ⟨nI_in (by omega) (by omega), ?_⟩, fun q => absurd (by rw [hM.1]; exact nI_lt (by omega) (by omega)) q⟩
    rw [nI_clamp (by omega), ← nI_succ]
    have em := max_i (a := v) (b := I 8 r)
    refine ih (r + 1) _ (by omega) ?_ ?_ (fun Z hZ => ?_)
    · rw [em]
      split <;> omega
    · rw [em]
      split <;> omega
    · rw [em]
      have hz := hz Z hZ
      constructor
      · intro y q hq
        have y1 : v.toInt ≤ Z := by
          split at y <;> omega
        by_cases w : q = r
        · rw [w]
          split at y <;> omega
        · exact hz.mp y1 q (by omega)
      · intro y
        have y1 := hz.mpr (fun q hq => y q (by omega))
        have y2 := y r (by omega)
        split <;> omega
/-- the moment of the last 'leaves' or CUE -/
theorem le_17 (hG : GA g) (hM : HM g W I J) {Q : Int32 → rI0 → rJ0 → Prop} (k : ∀ v : Int32, -1 ≤ v.toInt → v.toInt ≤ 600 → (∀ Z : Int, -1 ≤ Z → (v.toInt ≤ Z ↔ (∀ r, r < gN g 0 → (gN g (78 + r) : Int) - 1 ≤ Z) ∧ ∀ i, i < gN g 590 → (gN g (591 + 3 * i) : Int) ≤ Z)) → Q v I J) : wcI S (d + 2) 17 [.ref 3] x I J Q := by
  have h30 := hG.2.2.2.2.2.1
  have m1 : (-1 : Int32).toInt = -1 := by decide
  have e0 : ∀ Z : Int, -1 ≤ Z → ((-1 : Int32).toInt ≤ Z ↔ ∀ q, q < 0 → (gN g (78 + q) : Int) - 1 ≤ Z) := fun Z hZ => iff_of_true (by omega) (fun q hq => absurd hq (by omega))
  have hn := hM.2.2.2.2.2.2.2.2.2.1
  refine c17_3 ⟨fun q => ⟨fun q2 => absurd q2 (by rw [hn]; exact nI_nlt (a := 30) (by omega) (by omega)), fun _ => ⟨?_, ?_⟩⟩, fun q => ?_⟩
  · rw [hn] at q
    have q : 0 < gN g 590 := (nI_ltI (a := 0) (by omega) (by omega)).mp q
    rw [hn, show gN g 590 = gN g 590 - 1 + 1 by omega, nI_pr]
    exact nI_in (by omega) (by omega)
  · rw [hn] at q
    have q : 0 < gN g 590 := (nI_ltI (a := 0) (by omega) (by omega)).mp q
    refine c29_4 (ll_lp hG hM (fun v h1 h6 hz => ?_) (gN g 0) 0 (-1) (by omega) (by omega) (by omega) e0)
    have ei : ((I 3 4) - (1 : Int32)).toNatClampNeg = gN g 590 - 1 := by
      rw [hn, show gN g 590 = gN g 590 - 1 + 1 by omega, nI_pr, nI_clamp (by omega)]
      omega
    have c := hM.2.2.2.2.2.2.2.2.2.2 (gN g 590 - 1) (by omega)
    have b := (hG.2.2.2.2.2.2.1 (gN g 590 - 1) (by omega)).1
    rw [ei, c.1]
    have em := max_i (a := v) (b := nI (gN g (591 + 3 * (gN g 590 - 1))))
    rw [nI_toInt (by omega)] at em
    refine k _ ?_ ?_ (fun Z hZ => ?_)
    · rw [em]
      split <;> omega
    · rw [em]
      split <;> omega
    · rw [em]
      have hz := hz Z hZ
      constructor
      · intro y
        refine ⟨hz.mp (by split at y <;> omega), fun i hi => ?_⟩
        have := hG.2.2.2.2.2.2.2 i (gN g 590 - 1) (by omega) (by omega)
        split at y <;> omega
      · rintro ⟨y1, y2⟩
        have y1 := hz.mpr y1
        have y2 := y2 (gN g 590 - 1) (by omega)
        split <;> omega
  · rw [hn] at q
    have q : gN g 590 = 0 := by
      rcases Nat.eq_zero_or_pos (gN g 590) with z | z
      · exact z
      · exact absurd (nI_lt (a := 0) z (by omega)) q
    refine c29_4 (ll_lp hG hM (fun v h1 h6 hz => ?_) (gN g 0) 0 (-1) (by omega) (by omega) (by omega) e0)
    rw [if_neg (fun z => by have := i_lt z; omega)]
    refine k v h1 h6 (fun Z hZ => (hz Z hZ).trans ⟨fun y => ⟨y, fun i hi => absurd hi (by omega)⟩, fun y => y.1⟩)
/-- so many who stand -/
theorem pcN {n : Nat} {N hd : Nat → Nat} (h : NP n J N hd) : pc (J n 9) = nb (fun s => decide (2 ≤ N s)) 64 := nb_cg 64 (fun s hs => (h s hs).2.1)
theorem pcC {n : Nat} {N hd : Nat → Nat} (h : NP n J N hd) : pc (J n 8) = nb (fun s => decide (1 ≤ N s)) 64 := nb_cg 64 (fun s hs => (h s hs).1)
end NV0
section NV36
variable {S : Nat × (Nat → Int32)} {d : Nat} {x : mX} {I : rI0} {J : rJ0} {g : Nat → Int32} {W : Nat → lV} {P H : Nat → Bool}
/-- begin -/
theorem be_36 {p1 p2 : Int64} {Q : rI0 → rJ0 → Prop} (hG : GA g) (hM : HM g W I J) (hP : ∀ s, P s = true → seB g s = true) (e1 : ∀ s, s < 64 → bits5 p1 s = P s) (e2 : ∀ s, s < 64 → bits5 p2 s = H s) (k : ∀ I' J', F36 I J I' J' → NO36 g W P H 0 I' J' → Q I' J') : wcV S (d + 3) 52 [.ref 36, .long p1, .long p2] x I J Q := by
  have h4 := hG.2.2.1
  have fI : ∀ b, b ≠ 36 → mSet (mSet (mSet I 36 2 (0 : Int32)) 36 3 (0 : Int32)) 36 12 (0 : Int32) b = I b := fun b hb => by rw [mSet_ne hb, mSet_ne hb, mSet_ne hb]
  have fJ : ∀ b, b ≠ 36 → mSet (mSet (mSet J 36 5 p1) 36 6 p2) 36 7 (0 : Int64) b = J b := fun b hb => by rw [mSet_ne hb, mSet_ne hb, mSet_ne hb]
  have hM0 : HM g W (mSet (mSet (mSet I 36 2 (0 : Int32)) 36 3 (0 : Int32)) 36 12 (0 : Int32)) (mSet (mSet (mSet J 36 5 p1) 36 6 p2) 36 7 (0 : Int64)) := hM.n36 ⟨fI, fJ⟩
  refine c52_36 (le_17 hG hM0 (fun v hv1 hv6 hz => ?_))
  have A : ∀ w : Int32, (∀ u : Nat, w.toInt < (u : Int) → evB g u) → wp S (d + 3) 52 72 [some (.ref 36), some (.long p1), none, some (.long p2), none] [] (wv x (mSet (mSet (mSet (mSet I 36 2 (0 : Int32)) 36 3 (0 : Int32)) 36 12 (0 : Int32)) 36 4 w) (mSet (mSet (mSet J 36 5 p1) 36 6 p2) 36 7 (0 : Int64))) (rV x Q) := by
    intro w hw
    have hM1 := hM0.n36 (I' := mSet (mSet (mSet (mSet I 36 2 (0 : Int32)) 36 3 (0 : Int32)) 36 12 (0 : Int32)) 36 4 w) ⟨fun b hb => mSet_ne hb, fun _ _ => rfl⟩
    have e0 : (0 : Int32) = nI (if stB g (prN g 0) 0 = true then 1 else 0) := by
      rw [show stB g (prN g 0) 0 = false from stB_0]
      rfl
    refine v52_36_72 (c56_36 ?_)
    rw [e0]
    refine dc_36 (d := d + 1) (P := P) (H := H) hG (show 0 ≤ 600 by omega) (cuN g 0) 0 _ _ (by omega) (Nat.le_refl _) hM1 rfl rfl e1 e2 (fun I1 J1 f1 fi1 fj1 c3 c5 c6 => ?_)
    have hM2 : HM g W I1 J1 := hM1.n36 f1
    have m1 : I1 36 2 = nI 0 := (fi1 2 (by decide)).trans rfl
    refine c57_36 (so_36 (d := d + 1) hG (show 0 ≤ 600 by omega) (gN g 0) 0 J1 (by omega) hM2 m1 (fun s hs => ?_) (fun J2 f2 fj2 l7 => ?_))
    · rw [fj1 7 (by decide) (by decide), Nat.zero_mul, decide_eq_false (show ¬ s < 0 by omega), Bool.false_and, Bool.or_false]
      exact b5_0
    have hM3 : HM g W I1 J2 := hM2.n36 f2
    have p5 : ∀ s, s < 64 → bits5 (J2 36 5) s = cuP g 0 P (cuN g 0) s := fun s hs => by rw [fj2 5 (by decide)]; exact c5 s hs
    have p6 : ∀ s, s < 64 → bits5 (J2 36 6) s = cuP g 1 H (cuN g 0) s := fun s hs => by rw [fj2 6 (by decide)]; exact c6 s hs
    refine sd_36 hG hM3 (show 0 ≤ 600 by omega) m1 p5 p6 l7 (fun r hr => ?_)
    have bit : ∀ s, s < 64 → bits5 r s = decide (1 ≤ n0N g P H s) ∧ bits5 r s = decide (2 ≤ n0N g P H s) := by
      intro s hs
      have hse := cuP_se hG hP (cuN g 0) cuN_l s (q := 0)
      rw [hr s hs, decide_eq_true (Nat.zero_le _)]
      unfold n0N
      cases y1 : cuP g 0 P (cuN g 0) s with
      | false => cases seB g s <;> exact ⟨rfl, rfl⟩
      | true =>
        rw [hse y1]
        cases cuP g 1 H (cuN g 0) s <;> cases lfB g 0 s <;> exact ⟨rfl, rfl⟩
    refine k _ _ (F36.tr (F36.tr ⟨fI, fJ⟩ ⟨fun b hb => mSet_ne hb, fun _ _ => rfl⟩) (F36.tr f1 (F36.tr f2 ⟨fun _ _ => rfl, fun b hb => by rw [mSet_ne hb, mSet_ne hb, mSet_ne hb, mSet_ne hb]⟩))) ⟨m1, c3, ?_, fun s hs => p5 s hs, fun s hs => p6 s hs, fun s hs => l7 s hs, fun s hs => ⟨(bit s hs).1, (bit s hs).2, b5_0, b5_0⟩, Or.inl ?_⟩
    · rw [fi1 4 (by decide)]
      exact hw
    · rw [fi1 12 (by decide)]
      rfl
  have ev : ∀ w : Int32, v.toInt ≤ w.toInt → (gN g 4 < 600 → (gN g 4 : Int) ≤ w.toInt) → ∀ u : Nat, w.toInt < (u : Int) → evB g u := by
    intro w h1 h2 u hu
    have z := (hz w.toInt (by omega)).mp h1
    refine ⟨fun i hi => ?_, fun r hr => ?_, fun y => ?_⟩
    · have := z.2 i hi
      omega
    · have := z.1 r hr
      omega
    · have := h2 y
      omega
  refine ⟨fun q => ?_, fun q => ?_⟩
  · rw [hM0.2.2.1] at q
    have q := (nI_ltI (b := 600) (by omega) (by omega)).mp q
    have em := max_i (a := v) (b := nI (gN g 4))
    rw [nI_toInt (by omega)] at em
    rw [hM0.2.2.1, show ∀ (f : rI0) (a b : Int32), mSet (mSet f 36 4 a) 36 4 b = mSet f 36 4 b from fun f a b => by
      funext i j
      unfold mSet va_up
      by_cases z : i = 36
      · rw [if_pos z, if_pos z]
        by_cases y : j = 4
        · rw [if_pos y, if_pos y]
        · rw [if_neg y, if_neg y, if_pos rfl, if_neg y]
      · rw [if_neg z, if_neg z, if_neg z]]
    refine A _ (ev _ ?_ (fun _ => ?_))
    · rw [em]
      split <;> omega
    · rw [em]
      split <;> omega
  · rw [hM0.2.2.1] at q
    have q := mt (nI_ltI (b := 600) (by omega) (by omega)).mpr q
    exact A v (ev v (Int.le_refl _) (fun y => absurd y q))
end NV36
end
section
section NV41
variable {S : Nat × (Nat → Int32)} {d : Nat} {x : mX} {I : rI0} {J : rJ0} {g : Nat → Int32} {W : Nat → lV} {P H : Nat → Bool}
/-- begin -/
theorem be_41 {p1 p2 : Int64} {Q : rI0 → rJ0 → Prop} (hG : GA g) (hM : HM g W I J) (hP : ∀ s, P s = true → seB g s = true) (e1 : ∀ s, s < 64 → bits5 p1 s = P s) (e2 : ∀ s, s < 64 → bits5 p2 s = H s) (k : ∀ I' J', F41 I J I' J' → NO41 g W P H 0 I' J' → Q I' J') : wcV S (d + 3) 52 [.ref 41, .long p1, .long p2] x I J Q := by
  have h4 := hG.2.2.1
  have fI : ∀ b, b ≠ 41 → mSet (mSet (mSet I 41 2 (0 : Int32)) 41 3 (0 : Int32)) 41 12 (0 : Int32) b = I b := fun b hb => by rw [mSet_ne hb, mSet_ne hb, mSet_ne hb]
  have fJ : ∀ b, b ≠ 41 → mSet (mSet (mSet J 41 5 p1) 41 6 p2) 41 7 (0 : Int64) b = J b := fun b hb => by rw [mSet_ne hb, mSet_ne hb, mSet_ne hb]
  have hM0 : HM g W (mSet (mSet (mSet I 41 2 (0 : Int32)) 41 3 (0 : Int32)) 41 12 (0 : Int32)) (mSet (mSet (mSet J 41 5 p1) 41 6 p2) 41 7 (0 : Int64)) := hM.n41 ⟨fI, fJ⟩
  refine c52_41 (le_17 hG hM0 (fun v hv1 hv6 hz => ?_))
  have A : ∀ w : Int32, (∀ u : Nat, w.toInt < (u : Int) → evB g u) → wp S (d + 3) 52 72 [some (.ref 41), some (.long p1), none, some (.long p2), none] [] (wv x (mSet (mSet (mSet (mSet I 41 2 (0 : Int32)) 41 3 (0 : Int32)) 41 12 (0 : Int32)) 41 4 w) (mSet (mSet (mSet J 41 5 p1) 41 6 p2) 41 7 (0 : Int64))) (rV x Q) := by
    intro w hw
    have hM1 := hM0.n41 (I' := mSet (mSet (mSet (mSet I 41 2 (0 : Int32)) 41 3 (0 : Int32)) 41 12 (0 : Int32)) 41 4 w) ⟨fun b hb => mSet_ne hb, fun _ _ => rfl⟩
    have e0 : (0 : Int32) = nI (if stB g (prN g 0) 0 = true then 1 else 0) := by
      rw [show stB g (prN g 0) 0 = false from stB_0]
      rfl
    refine v52_41_72 (c56_41 ?_)
    rw [e0]
    refine dc_41 (d := d + 1) (P := P) (H := H) hG (show 0 ≤ 600 by omega) (cuN g 0) 0 _ _ (by omega) (Nat.le_refl _) hM1 rfl rfl e1 e2 (fun I1 J1 f1 fi1 fj1 c3 c5 c6 => ?_)
    have hM2 : HM g W I1 J1 := hM1.n41 f1
    have m1 : I1 41 2 = nI 0 := (fi1 2 (by decide)).trans rfl
    refine c57_41 (so_41 (d := d + 1) hG (show 0 ≤ 600 by omega) (gN g 0) 0 J1 (by omega) hM2 m1 (fun s hs => ?_) (fun J2 f2 fj2 l7 => ?_))
    · rw [fj1 7 (by decide) (by decide), Nat.zero_mul, decide_eq_false (show ¬ s < 0 by omega), Bool.false_and, Bool.or_false]
      exact b5_0
    have hM3 : HM g W I1 J2 := hM2.n41 f2
    have p5 : ∀ s, s < 64 → bits5 (J2 41 5) s = cuP g 0 P (cuN g 0) s := fun s hs => by rw [fj2 5 (by decide)]; exact c5 s hs
    have p6 : ∀ s, s < 64 → bits5 (J2 41 6) s = cuP g 1 H (cuN g 0) s := fun s hs => by rw [fj2 6 (by decide)]; exact c6 s hs
    refine sd_41 hG hM3 (show 0 ≤ 600 by omega) m1 p5 p6 l7 (fun r hr => ?_)
    have bit : ∀ s, s < 64 → bits5 r s = decide (1 ≤ n0N g P H s) ∧ bits5 r s = decide (2 ≤ n0N g P H s) := by
      intro s hs
      have hse := cuP_se hG hP (cuN g 0) cuN_l s (q := 0)
      rw [hr s hs, decide_eq_true (Nat.zero_le _)]
      unfold n0N
      cases y1 : cuP g 0 P (cuN g 0) s with
      | false => cases seB g s <;> exact ⟨rfl, rfl⟩
      | true =>
        rw [hse y1]
        cases cuP g 1 H (cuN g 0) s <;> cases lfB g 0 s <;> exact ⟨rfl, rfl⟩
    refine k _ _ (F41.tr (F41.tr ⟨fI, fJ⟩ ⟨fun b hb => mSet_ne hb, fun _ _ => rfl⟩) (F41.tr f1 (F41.tr f2 ⟨fun _ _ => rfl, fun b hb => by rw [mSet_ne hb, mSet_ne hb, mSet_ne hb, mSet_ne hb]⟩))) ⟨m1, c3, ?_, fun s hs => p5 s hs, fun s hs => p6 s hs, fun s hs => l7 s hs, fun s hs => ⟨(bit s hs).1, (bit s hs).2, b5_0, b5_0⟩, Or.inl ?_⟩
    · rw [fi1 4 (by decide)]
      exact hw
    · rw [fi1 12 (by decide)]
      rfl
  have ev : ∀ w : Int32, v.toInt ≤ w.toInt → (gN g 4 < 600 → (gN g 4 : Int) ≤ w.toInt) → ∀ u : Nat, w.toInt < (u : Int) → evB g u := by
    intro w h1 h2 u hu
    have z := (hz w.toInt (by omega)).mp h1
    refine ⟨fun i hi => ?_, fun r hr => ?_, fun y => ?_⟩
    · have := z.2 i hi
      omega
    · have := z.1 r hr
      omega
    · have := h2 y
      omega
  refine ⟨fun q => ?_, fun q => ?_⟩
  · rw [hM0.2.2.1] at q
    have q := (nI_ltI (b := 600) (by omega) (by omega)).mp q
    have em := max_i (a := v) (b := nI (gN g 4))
    rw [nI_toInt (by omega)] at em
    rw [hM0.2.2.1, show ∀ (f : rI0) (a b : Int32), mSet (mSet f 41 4 a) 41 4 b = mSet f 41 4 b from fun f a b => by
      funext i j
      unfold mSet va_up
      by_cases z : i = 41
      · rw [if_pos z, if_pos z]
        by_cases y : j = 4
        · rw [if_pos y, if_pos y]
        · rw [if_neg y, if_neg y, if_pos rfl, if_neg y]
      · rw [if_neg z, if_neg z, if_neg z]]
    refine A _ (ev _ ?_ (fun _ => ?_))
    · rw [em]
      split <;> omega
    · rw [em]
      split <;> omega
  · rw [hM0.2.2.1] at q
    have q := mt (nI_ltI (b := 600) (by omega) (by omega)).mpr q
    exact A v (ev v (Int.le_refl _) (fun y => absurd y q))
/-- goTo -/
theorem gt_41 {t : Nat} {Q : rI0 → rJ0 → Prop} (hG : GA g) (hP : ∀ s, P s = true → seB g s = true) (ht : t ≤ 600) : ∀ (m i : Nat) (I : rI0) (J : rJ0), i + m = t → HM g W I J → NO41 g W P H i I J → (∀ I' J' v, F41 I J I' J' → v ≤ t → NO41 g W P H v I' J' → nt g W P H v = nt g W P H t → Q I' J') → wp S (d + 22) 53 5 [some (.ref 41), some (.int (nI t)), some (.int (nI i))] [] (wv x I J) (rV x Q) := by
  intro m
  induction m with
  | zero =>
    intro i I J hi hM h k
    have hi : i = t := by omega
    subst hi
    exact v53_41_5 (d := d + 21) ⟨fun q => absurd q (nI_nlt (Nat.le_refl _) (by omega)), fun _ => k I J i F41.rf (Nat.le_refl _) h rfl⟩
  | succ m ih =>
    intro i I J hi hM h k
    refine v53_41_5 (d := d + 21) ⟨fun _ => ⟨fun _ => st_41 hG hM hP (by omega) h (fun I1 J1 f1 h1 => ?_), fun q => ?_⟩, fun q => absurd (nI_lt (by omega) (by omega)) q⟩
    · rw [← nI_succ]
      exact ih (i + 1) I1 J1 (by omega) (hM.n41 f1) h1 (fun I2 J2 v f2 hv h2 e2 => k I2 J2 v (F41.tr f1 f2) hv h2 e2)
    · rcases h.2.2.2.2.2.2.2 with z | ⟨z1, z2⟩
      · exact absurd z q
      · exact k I J i F41.rf (by omega) h (z2 t (by omega) ht).symm
theorem go_41 {t i : Nat} {Q : rI0 → rJ0 → Prop} (hG : GA g) (hP : ∀ s, P s = true → seB g s = true) (ht : t ≤ 600) (hi : i ≤ t) (hM : HM g W I J) (h : NO41 g W P H i I J) (k : ∀ I' J' v, F41 I J I' J' → v ≤ t → NO41 g W P H v I' J' → nt g W P H v = nt g W P H t → Q I' J') : wcV S (d + 22) 53 [.ref 41, .int (nI t)] x I J Q := by
  refine c53_41 ?_
  rw [h.1]
  exact gt_41 hG hP ht (t - i) i I J (by omega) hM h k
/-- heightOf -/
theorem ht_41 {p1 p2 : Int64} {p3 : Int32} {Q : Int32 → rI0 → rJ0 → Prop} (hG : GA g) (hM : HM g W I J) (hP : ∀ s, P s = true → seB g s = true) (e1 : ∀ s, s < 64 → bits5 p1 s = P s) (e2 : ∀ s, s < 64 → bits5 p2 s = H s) (k : ∀ I' J' r, F41 I J I' J' → r ≤ hgt g W P H 60 → (r = hgt g W P H 60 ∨ p3.toInt ≤ (r : Int)) → Q (nI r) I' J') : wcI S (d + 22) 54 [.ref 41, .long p1, .long p2, .int p3] x I J Q := by
  have lp : ∀ (m t : Nat) (I1 : rI0) (J1 : rJ0), t + m = 60 → F41 I J I1 J1 → NO41 g W P H t I1 J1 → wp S (d + 22) 54 18 [some (.ref 41), some (.long p1), none, some (.long p2), none, some (.int p3), some (.int (nI (hgt g W P H t))), some (.int (nI (t + 1)))] [] (wv x I1 J1) (rI x Q) := by
    intro m
    induction m with
    | zero =>
      intro t I1 J1 hm f h
      have hm : t = 60 := by omega
      subst hm
      exact v54_41_18 (d := d + 21) ⟨fun _ => k I1 J1 _ f (Nat.le_refl _) (Or.inl rfl), fun q => absurd (nI_lt (a := 60) (by omega) (by omega)) q⟩
    | succ m ih =>
      intro t I1 J1 hm f h
      have hl := hgt_l (g := g) (W := W) (P := P) (H := H) (t := t)
      refine v54_41_18 (d := d + 21) ⟨fun q => absurd q (nI_nlt (a := 60) (by omega) (by omega)), fun _ => ⟨fun _ => ⟨fun _ => ?_, fun q => ?_⟩, fun q => ?_⟩⟩
      · refine st_41 hG (hM.n41 f) hP (by omega) h (fun I2 J2 f2 h2 => bcX ?_)
        rw [pcN h2.2.2.2.2.2.2.1]
        have e : (if nI (hgt g W P H t) < nI (nb (fun s => decide (2 ≤ (nt g W P H (t + 1)).1 s)) 64) then nI (nb (fun s => decide (2 ≤ (nt g W P H (t + 1)).1 s)) 64) else nI (hgt g W P H t)) = nI (hgt g W P H (t + 1)) := by
          show _ = nI (if hgt g W P H t < stP g W P H (t + 1) then stP g W P H (t + 1) else hgt g W P H t)
          have hs : stP g W P H (t + 1) ≤ 64 := nb_le 64
          show (if nI (hgt g W P H t) < nI (stP g W P H (t + 1)) then nI (stP g W P H (t + 1)) else nI (hgt g W P H t)) = _
          by_cases z : hgt g W P H t < stP g W P H (t + 1)
          · rw [if_pos z, if_pos (nI_lt z (by omega))]
          · rw [if_neg z, if_neg (nI_nlt (by omega) (by omega))]
        rw [e, ← nI_succ]
        exact ih (t + 1) I2 J2 (by omega) (F41.tr f f2) h2
      · rcases h.2.2.2.2.2.2.2 with z | ⟨z1, z2⟩
        · exact absurd z q
        · exact k I1 J1 _ f (hgt_m 60 (by omega)) (Or.inl (hgt_c z2 60 (by omega) (by omega)).symm)
      · refine k I1 J1 _ f (hgt_m 60 (by omega)) (Or.inr ?_)
        have := i_nlt q
        rw [nI_toInt (by omega)] at this
        exact this
  refine c54_41 (be_41 (d := d + 18) hG hM hP e1 e2 (fun I1 J1 f h => bcX ?_))
  rw [pcN h.2.2.2.2.2.2.1]
  exact lp 60 0 I1 J1 rfl f h
end NV41
end
section
section NV42
variable {S : Nat × (Nat → Int32)} {d : Nat} {x : mX} {I : rI0} {J : rJ0} {g : Nat → Int32} {W : Nat → lV} {P H : Nat → Bool}
/-- begin -/
theorem be_42 {p1 p2 : Int64} {Q : rI0 → rJ0 → Prop} (hG : GA g) (hM : HM g W I J) (hP : ∀ s, P s = true → seB g s = true) (e1 : ∀ s, s < 64 → bits5 p1 s = P s) (e2 : ∀ s, s < 64 → bits5 p2 s = H s) (k : ∀ I' J', F42 I J I' J' → NO42 g W P H 0 I' J' → Q I' J') : wcV S (d + 3) 52 [.ref 42, .long p1, .long p2] x I J Q := by
  have h4 := hG.2.2.1
  have fI : ∀ b, b ≠ 42 → mSet (mSet (mSet I 42 2 (0 : Int32)) 42 3 (0 : Int32)) 42 12 (0 : Int32) b = I b := fun b hb => by rw [mSet_ne hb, mSet_ne hb, mSet_ne hb]
  have fJ : ∀ b, b ≠ 42 → mSet (mSet (mSet J 42 5 p1) 42 6 p2) 42 7 (0 : Int64) b = J b := fun b hb => by rw [mSet_ne hb, mSet_ne hb, mSet_ne hb]
  have hM0 : HM g W (mSet (mSet (mSet I 42 2 (0 : Int32)) 42 3 (0 : Int32)) 42 12 (0 : Int32)) (mSet (mSet (mSet J 42 5 p1) 42 6 p2) 42 7 (0 : Int64)) := hM.n42 ⟨fI, fJ⟩
  refine c52_42 (le_17 hG hM0 (fun v hv1 hv6 hz => ?_))
  have A : ∀ w : Int32, (∀ u : Nat, w.toInt < (u : Int) → evB g u) → wp S (d + 3) 52 72 [some (.ref 42), some (.long p1), none, some (.long p2), none] [] (wv x (mSet (mSet (mSet (mSet I 42 2 (0 : Int32)) 42 3 (0 : Int32)) 42 12 (0 : Int32)) 42 4 w) (mSet (mSet (mSet J 42 5 p1) 42 6 p2) 42 7 (0 : Int64))) (rV x Q) := by
    intro w hw
    have hM1 := hM0.n42 (I' := mSet (mSet (mSet (mSet I 42 2 (0 : Int32)) 42 3 (0 : Int32)) 42 12 (0 : Int32)) 42 4 w) ⟨fun b hb => mSet_ne hb, fun _ _ => rfl⟩
    have e0 : (0 : Int32) = nI (if stB g (prN g 0) 0 = true then 1 else 0) := by
      rw [show stB g (prN g 0) 0 = false from stB_0]
      rfl
    refine v52_42_72 (c56_42 ?_)
    rw [e0]
    refine dc_42 (d := d + 1) (P := P) (H := H) hG (show 0 ≤ 600 by omega) (cuN g 0) 0 _ _ (by omega) (Nat.le_refl _) hM1 rfl rfl e1 e2 (fun I1 J1 f1 fi1 fj1 c3 c5 c6 => ?_)
    have hM2 : HM g W I1 J1 := hM1.n42 f1
    have m1 : I1 42 2 = nI 0 := (fi1 2 (by decide)).trans rfl
    refine c57_42 (so_42 (d := d + 1) hG (show 0 ≤ 600 by omega) (gN g 0) 0 J1 (by omega) hM2 m1 (fun s hs => ?_) (fun J2 f2 fj2 l7 => ?_))
    · rw [fj1 7 (by decide) (by decide), Nat.zero_mul, decide_eq_false (show ¬ s < 0 by omega), Bool.false_and, Bool.or_false]
      exact b5_0
    have hM3 : HM g W I1 J2 := hM2.n42 f2
    have p5 : ∀ s, s < 64 → bits5 (J2 42 5) s = cuP g 0 P (cuN g 0) s := fun s hs => by rw [fj2 5 (by decide)]; exact c5 s hs
    have p6 : ∀ s, s < 64 → bits5 (J2 42 6) s = cuP g 1 H (cuN g 0) s := fun s hs => by rw [fj2 6 (by decide)]; exact c6 s hs
    refine sd_42 hG hM3 (show 0 ≤ 600 by omega) m1 p5 p6 l7 (fun r hr => ?_)
    have bit : ∀ s, s < 64 → bits5 r s = decide (1 ≤ n0N g P H s) ∧ bits5 r s = decide (2 ≤ n0N g P H s) := by
      intro s hs
      have hse := cuP_se hG hP (cuN g 0) cuN_l s (q := 0)
      rw [hr s hs, decide_eq_true (Nat.zero_le _)]
      unfold n0N
      cases y1 : cuP g 0 P (cuN g 0) s with
      | false => cases seB g s <;> exact ⟨rfl, rfl⟩
      | true =>
        rw [hse y1]
        cases cuP g 1 H (cuN g 0) s <;> cases lfB g 0 s <;> exact ⟨rfl, rfl⟩
    refine k _ _ (F42.tr (F42.tr ⟨fI, fJ⟩ ⟨fun b hb => mSet_ne hb, fun _ _ => rfl⟩) (F42.tr f1 (F42.tr f2 ⟨fun _ _ => rfl, fun b hb => by rw [mSet_ne hb, mSet_ne hb, mSet_ne hb, mSet_ne hb]⟩))) ⟨m1, c3, ?_, fun s hs => p5 s hs, fun s hs => p6 s hs, fun s hs => l7 s hs, fun s hs => ⟨(bit s hs).1, (bit s hs).2, b5_0, b5_0⟩, Or.inl ?_⟩
    · rw [fi1 4 (by decide)]
      exact hw
    · rw [fi1 12 (by decide)]
      rfl
  have ev : ∀ w : Int32, v.toInt ≤ w.toInt → (gN g 4 < 600 → (gN g 4 : Int) ≤ w.toInt) → ∀ u : Nat, w.toInt < (u : Int) → evB g u := by
    intro w h1 h2 u hu
    have z := (hz w.toInt (by omega)).mp h1
    refine ⟨fun i hi => ?_, fun r hr => ?_, fun y => ?_⟩
    · have := z.2 i hi
      omega
    · have := z.1 r hr
      omega
    · have := h2 y
      omega
  refine ⟨fun q => ?_, fun q => ?_⟩
  · rw [hM0.2.2.1] at q
    have q := (nI_ltI (b := 600) (by omega) (by omega)).mp q
    have em := max_i (a := v) (b := nI (gN g 4))
    rw [nI_toInt (by omega)] at em
    rw [hM0.2.2.1, show ∀ (f : rI0) (a b : Int32), mSet (mSet f 42 4 a) 42 4 b = mSet f 42 4 b from fun f a b => by
      funext i j
      unfold mSet va_up
      by_cases z : i = 42
      · rw [if_pos z, if_pos z]
        by_cases y : j = 4
        · rw [if_pos y, if_pos y]
        · rw [if_neg y, if_neg y, if_pos rfl, if_neg y]
      · rw [if_neg z, if_neg z, if_neg z]]
    refine A _ (ev _ ?_ (fun _ => ?_))
    · rw [em]
      split <;> omega
    · rw [em]
      split <;> omega
  · rw [hM0.2.2.1] at q
    have q := mt (nI_ltI (b := 600) (by omega) (by omega)).mpr q
    exact A v (ev v (Int.le_refl _) (fun y => absurd y q))
/-- goTo -/
theorem gt_42 {t : Nat} {Q : rI0 → rJ0 → Prop} (hG : GA g) (hP : ∀ s, P s = true → seB g s = true) (ht : t ≤ 600) : ∀ (m i : Nat) (I : rI0) (J : rJ0), i + m = t → HM g W I J → NO42 g W P H i I J → (∀ I' J' v, F42 I J I' J' → v ≤ t → NO42 g W P H v I' J' → nt g W P H v = nt g W P H t → Q I' J') → wp S (d + 22) 53 5 [some (.ref 42), some (.int (nI t)), some (.int (nI i))] [] (wv x I J) (rV x Q) := by
  intro m
  induction m with
  | zero =>
    intro i I J hi hM h k
    have hi : i = t := by omega
    subst hi
    exact v53_42_5 (d := d + 21) ⟨fun q => absurd q (nI_nlt (Nat.le_refl _) (by omega)), fun _ => k I J i F42.rf (Nat.le_refl _) h rfl⟩
  | succ m ih =>
    intro i I J hi hM h k
    refine v53_42_5 (d := d + 21) ⟨fun _ => ⟨fun _ => st_42 hG hM hP (by omega) h (fun I1 J1 f1 h1 => ?_), fun q => ?_⟩, fun q => absurd (nI_lt (by omega) (by omega)) q⟩
    · rw [← nI_succ]
      exact ih (i + 1) I1 J1 (by omega) (hM.n42 f1) h1 (fun I2 J2 v f2 hv h2 e2 => k I2 J2 v (F42.tr f1 f2) hv h2 e2)
    · rcases h.2.2.2.2.2.2.2 with z | ⟨z1, z2⟩
      · exact absurd z q
      · exact k I J i F42.rf (by omega) h (z2 t (by omega) ht).symm
theorem go_42 {t i : Nat} {Q : rI0 → rJ0 → Prop} (hG : GA g) (hP : ∀ s, P s = true → seB g s = true) (ht : t ≤ 600) (hi : i ≤ t) (hM : HM g W I J) (h : NO42 g W P H i I J) (k : ∀ I' J' v, F42 I J I' J' → v ≤ t → NO42 g W P H v I' J' → nt g W P H v = nt g W P H t → Q I' J') : wcV S (d + 22) 53 [.ref 42, .int (nI t)] x I J Q := by
  refine c53_42 ?_
  rw [h.1]
  exact gt_42 hG hP ht (t - i) i I J (by omega) hM h k
end NV42
end
