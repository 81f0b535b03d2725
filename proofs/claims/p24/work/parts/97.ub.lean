section NU42
variable {S : Nat × (Nat → Int32)} {d : Nat} {x : mX} {I : rI0} {J : rJ0} {g : Nat → Int32} {W : Nat → lV} {N hd : Nat → Nat} {P H L : Nat → Bool}
/-- the night at t: LEVELS and HELD, who is PAID, who HISSES, who has left -/
def NO42 (g : Nat → Int32) (W : Nat → lV) (P H : Nat → Bool) (t : Nat) (I : rI0) (J : rJ0) : Prop := I 42 2 = nI t ∧ I 42 3 = nI (cuN g t) ∧ (∀ u : Nat, (I 42 4).toInt < (u : Int) → evB g u) ∧ (∀ s, s < 64 → bits5 (J 42 5) s = cuP g 0 P (cuN g t) s) ∧ (∀ s, s < 64 → bits5 (J 42 6) s = cuP g 1 H (cuN g t) s) ∧ (∀ s, s < 64 → bits5 (J 42 7) s = lfB g t s) ∧ NP 42 J (nt g W P H t).1 (nt g W P H t).2 ∧ (I 42 12 = 0 ∨ (I 42 12 = 1 ∧ ∀ u, t ≤ u → u ≤ 600 → nt g W P H u = nt g W P H t))
theorem NO42.mv {t : Nat} {I' : rI0} {J' : rJ0} (h : NO42 g W P H t I J) (hi : I' 42 = I 42) (hj : J' 42 = J 42) : NO42 g W P H t I' J' := by
  unfold NO42 NP at *
  rw [hi, hj]
  exact h
/-- hold -/
theorem ho_42 {N' : Nat → Nat} {p1 : Int64} {Q : rI0 → rJ0 → Prop} (hS : ∀ s, s < 64 → bits5 (J 4 5) s = seB g s) (hN : NP 42 J N' hd) (oN : okN g N) (oN' : okN g N') (oH : okH g hd) (hp : ∀ s, s < 64 → bits5 p1 s = (seB g s && decide (N' s = N s))) (k : ∀ I' J', F42 I J I' J' → (∀ q, q ≠ 12 → I' 42 q = I 42 q) → (∀ q, q ≠ 10 → q ≠ 11 → J' 42 q = J 42 q) → NP 42 J' N' (hdN g N N' hd) → (I' 42 12 = 0 ∨ (I' 42 12 = 1 ∧ I 42 4 < I 42 2 ∧ N' = N ∧ hdN g N N' hd = hd)) → Q I' J') : wcV S d 60 [.ref 42, .long p1] x I J Q := by
  have eb : ∀ s, s < 64 → bits5 (((J 42 10 ^^^ (-1 : Int64)) ||| J 42 11) &&& p1) s = decide (hdN g N N' hd s % 2 = 1) ∧ bits5 ((J 42 11 ||| J 42 10) &&& p1) s = decide (2 ≤ hdN g N N' hd s) := by
    intro s hs
    obtain ⟨_, _, a3, a4⟩ := hN s hs
    have hb := hd_bits (hd s) (by have := (oH s).1; omega) (seB g s && decide (N' s = N s))
    have e : hdN g N N' hd s = if (seB g s && decide (N' s = N s)) = true then (if hd s < 3 then hd s + 1 else 3) else 0 := by
      unfold hdN
      cases seB g s
      · rfl
      · by_cases z : N' s = N s
        · rw [decide_eq_true z, if_pos z]
          rfl
        · rw [decide_eq_false z, if_neg z]
          rfl
    rw [b5_and, b5_or, b5_not hs, b5_and, b5_or, a3, a4, hp s hs, e]
    exact hb
  generalize hl : ((J 42 10 ^^^ (-1 : Int64)) ||| J 42 11) &&& p1 = lo at eb
  generalize hh : (J 42 11 ||| J 42 10) &&& p1 = hi at eb
  have np : ∀ (v : Int32) , NP 42 (mSet (mSet J 42 10 lo) 42 11 hi) N' (hdN g N N' hd) := by
    intro v s hs
    obtain ⟨a1, a2, _, _⟩ := hN s hs
    exact ⟨a1, a2, (eb s hs).1, (eb s hs).2⟩
  have fr : ∀ v : Int32, F42 I J (mSet I 42 12 v) (mSet (mSet J 42 10 lo) 42 11 hi) := fun v => ⟨fun b hb => mSet_ne hb, fun b hb => by rw [mSet_ne hb, mSet_ne hb]⟩
  have f1 : ∀ (v : Int32) (q : Nat), q ≠ 12 → mSet I 42 12 v 42 q = I 42 q := by
    intro v q hq
    unfold mSet va_up
    rw [if_pos rfl, if_neg hq]
  have f2 : ∀ q : Nat, q ≠ 10 → q ≠ 11 → mSet (mSet J 42 10 lo) 42 11 hi 42 q = J 42 q := by
    intro q h1 h2
    unfold mSet va_up
    rw [if_pos rfl, if_neg h2, if_pos rfl, if_neg h1]
  have z0 : Q (mSet I 42 12 0) (mSet (mSet J 42 10 lo) 42 11 hi) := k _ _ (fr 0) (f1 0) f2 (np 0) (Or.inl rfl)
  have A : ∀ (s0 : Int32) (l1 : Int64), (¬ s0 = 0 → N' = N ∧ hdN g N N' hd = hd) → wp S d 60 65 [some (.ref 42), some (.long l1), none, some (.long lo), none, some (.long hi), none, none] [.int s0] (wv x I J) (rV x Q) := by
    intro s0 l1 hs0
    refine v60_42_65 ⟨fun _ => z0, fun y => ⟨fun q => ?_, fun _ => z0⟩⟩
    obtain ⟨e1, e2⟩ := hs0 y
    exact k _ _ (fr 1) (f1 1) f2 (np 1) (Or.inr ⟨rfl, q, e1, e2⟩)
  refine c60_42 ?_
  rw [hl, hh]
  refine ⟨fun q1 => ⟨fun q2 => ⟨fun q3 => A _ _ (fun _ => ?_), fun _ => A _ _ (fun y => absurd rfl y)⟩, fun _ => A _ _ (fun y => absurd rfl y)⟩, fun _ => A _ _ (fun y => absurd rfl y)⟩
  have q1 := lg_eq.mp q1
  have q2 := lg_eq.mp q2
  have q3 := lg_eq.mp q3
  constructor
  · funext s
    cases z : seB g s with
    | false => rw [(oN s).2 z, (oN' s).2 z]
    | true =>
      have hs := seB_l z
      have := hp s hs
      rw [q1, hS s hs, z, Bool.true_and] at this
      exact of_decide_eq_true this.symm
  · funext s
    cases z : seB g s with
    | false => rw [(oH s).2 z, (hdN_o s).2 z]
    | true =>
      have hs := seB_l z
      obtain ⟨_, _, a3, a4⟩ := hN s hs
      have e1 := (eb s hs).1
      have e2 := (eb s hs).2
      rw [q2, a3] at e1
      rw [q3, a4] at e2
      exact (hd_inj (hd s) (by have := (oH s).1; omega) _ (by have := (hdN_o (g := g) (N := N) (N' := N') (hd := hd) s).1; omega) e1 e2).symm
/-- a moment -/
theorem st_42 {t : Nat} {Q : rI0 → rJ0 → Prop} (hG : GA g) (hM : HM g W I J) (hP : ∀ s, P s = true → seB g s = true) (ht : t < 600) (h : NO42 g W P H t I J) (k : ∀ I' J', F42 I J I' J' → NO42 g W P H (t + 1) I' J' → Q I' J') : wcV S (d + 21) 55 [.ref 42] x I J Q := by
  obtain ⟨h2, h3, h4, h5, h6, h7, hN, hc⟩ := h
  obtain ⟨oN, oH⟩ := nt_o (g := g) (W := W) (P := P) (H := H) t
  generalize hq : nt g W P H t = q at *
  obtain ⟨N, hd⟩ := q
  have oN : okN g N := oN
  have oH : okH g hd := oH
  have hN : NP 42 J N hd := hN
  have enx : nt g W P H (t + 1) = mtN g W P H (t + 1) (N, hd) := by
    show mtN g W P H (t + 1) (nt g W P H t) = _
    rw [hq]
  refine c55_42 ?_
  rw [h2, ← nI_succ]
  refine c56_42 ?_
  have hM0 : HM g W (mSet I 42 2 (nI (t + 1))) J := hM.n42 ⟨fun b hb => mSet_ne hb, fun _ _ => rfl⟩
  have e0 : (0 : Int32) = nI (if stB g (prN g (t + 1)) (cuN g t) = true then 1 else 0) := by
    rw [show cuN g t = prN g (t + 1) from rfl, stB_0]
    rfl
  rw [e0]
  refine dc_42 (d := d + 19) (P := P) (H := H) hG (by omega) (cuN g (t + 1) - cuN g t) (cuN g t) _ J (by have := prN_c hG (t := t + 1); have e : prN g (t + 1) = cuN g t := rfl; omega) (Nat.le_refl _) hM0 rfl h3 h5 h6 (fun I1 J1 f1 fi1 fj1 c3 c5 c6 => ?_)
  have hM1 : HM g W I1 J1 := hM0.n42 f1
  have m1 : I1 42 2 = nI (t + 1) := (fi1 2 (by decide)).trans rfl
  refine c57_42 (so_42 (d := d + 19) hG (show t + 1 ≤ 600 by omega) (gN g 0) 0 J1 (by omega) hM1 m1 (fun s hs => ?_) (fun J2 f2 fj2 l7 => ?_))
  · rw [fj1 7 (by decide) (by decide), h7 s hs, Nat.zero_mul, decide_eq_false (show ¬ s < 0 by omega), Bool.false_and, Bool.or_false]
    rfl
  have hM2 : HM g W I1 J2 := hM1.n42 f2
  have p5 : ∀ s, s < 64 → bits5 (J2 42 5) s = cuP g 0 P (cuN g (t + 1)) s := fun s hs => by rw [fj2 5 (by decide)]; exact c5 s hs
  have p6 : ∀ s, s < 64 → bits5 (J2 42 6) s = cuP g 1 H (cuN g (t + 1)) s := fun s hs => by rw [fj2 6 (by decide)]; exact c6 s hs
  have np2 : NP 42 J2 N hd := by
    intro s hs
    rw [fj2 8 (by decide), fj2 9 (by decide), fj2 10 (by decide), fj2 11 (by decide), fj1 8 (by decide) (by decide), fj1 9 (by decide) (by decide), fj1 10 (by decide) (by decide), fj1 11 (by decide) (by decide)]
    exact hN s hs
  refine sd_42 hG hM2 (by omega) m1 p5 p6 l7 (fun v hv => ?_)
  have hP2 : ∀ s, cuP g 0 P (cuN g (t + 1)) s = true → seB g s = true := cuP_se hG hP _ cuN_l
  have i4 : I1 42 4 = I 42 4 := (fi1 4 (by decide)).trans rfl
  have hbd : ∀ s, s < 64 → bits5 (if cuS g (t + 1) = true then J2 4 5 else (v ||| J2 42 6) ||| J2 42 7) s = (if cuS g (t + 1) = true then seB g s else (((decide (t + 1 ≤ gN g 4) && ((cuP g 0 P (cuN g (t + 1)) s && !cuP g 1 H (cuN g (t + 1)) s) && !lfB g (t + 1) s)) || cuP g 1 H (cuN g (t + 1)) s) || lfB g (t + 1) s)) := by
    intro s hs
    cases cuS g (t + 1) with
    | true => exact hM2.2.2.2.2.1 s hs
    | false =>
      show bits5 ((v ||| J2 42 6) ||| J2 42 7) s = _
      rw [b5_or, b5_or, hv s hs, p6 s hs, l7 s hs]
      rfl
  have fin : ∀ (l1 : Int32) (l4 : Int64) (J3 : rJ0) (N' : Nat → Nat), F42 I1 J2 I1 J3 → (∀ q, q ≠ 8 → q ≠ 9 → J3 42 q = J2 42 q) → NP 42 J3 N' hd → okN g N' → N' = (mtN g W P H (t + 1) (N, hd)).1 → wp S (d + 21) 55 127 [some (.ref 42), some (.int l1), some (.long v), none, some (.long l4), none, some (.long (J2 42 8)), none, some (.long (J2 42 9)), none, none] [] (wv x I1 J3) (rV x Q) := by
    intro l1 l4 J3 N' f3 fj3 np3 oN' eN'
    refine v55_42_127 (d := d + 20) (ho_42 (g := g) (N := N) (N' := N') (hd := hd) (fun s hs => by rw [f3.2 4 (by decide)]; exact hM2.2.2.2.2.1 s hs) np3 oN oN' oH (fun s hs => ?_) (fun I4 J4 f4 fi4 fj4 np4 c4 => ?_))
    · have e := lv_eq (N s) (by have := (oN s).1; omega) (N' s) (by have := (oN' s).1; omega)
      rw [b5_and, b5_and, b5_not hs, b5_xor, b5_not hs, b5_xor, f3.2 4 (by decide), hM2.2.2.2.2.1 s hs, (np3 s hs).1, (np3 s hs).2.1, (np2 s hs).1, (np2 s hs).2.1, Bool.and_assoc, e]
    · have eh : hdN g N N' hd = (mtN g W P H (t + 1) (N, hd)).2 := by
        rw [eN']
        rfl
      refine k I4 J4 (F42.tr (F42.tr ⟨fun b hb => mSet_ne hb, fun _ _ => rfl⟩ f1) (F42.tr f2 (F42.tr f3 f4))) ⟨?_, ?_, ?_, fun s hs => ?_, fun s hs => ?_, fun s hs => ?_, ?_, ?_⟩
      · rw [fi4 2 (by decide)]
        exact m1
      · rw [fi4 3 (by decide)]
        exact c3
      · rw [fi4 4 (by decide), i4]
        exact h4
      · rw [fj4 5 (by decide) (by decide), fj3 5 (by decide) (by decide)]
        exact p5 s hs
      · rw [fj4 6 (by decide) (by decide), fj3 6 (by decide) (by decide)]
        exact p6 s hs
      · rw [fj4 7 (by decide) (by decide), fj3 7 (by decide) (by decide)]
        exact l7 s hs
      · rw [enx, ← eh, ← eN']
        exact np4
      · rcases c4 with z | ⟨z1, z2, z3, z4⟩
        · exact Or.inl z
        · refine Or.inr ⟨z1, fun u hu h6 => ?_⟩
          have ev : evB g (t + 1) := by
            refine h4 (t + 1) ?_
            rw [i4, m1] at z2
            have := i_lt z2
            rw [nI_toInt (by omega)] at this
            exact this
          have e : nt g W P H (t + 1) = nt g W P H t := by
            rw [enx, hq]
            refine Prod.ext ?_ ?_
            · rw [← eN']
              exact z3
            · rw [← eh]
              exact z4
          rw [nt_calm ev hG.2.2.1 e u (by omega) h6, e]
  have B : ∀ l1 : Int32, wp S (d + 21) 55 49 [some (.ref 42), some (.int l1), some (.long v), none, none, none, none, none, none, none, none] [.long (if cuS g (t + 1) = true then J2 4 5 else (v ||| J2 42 6) ||| J2 42 7)] (wv x I1 J2) (rV x Q) := by
    intro l1
    generalize hbv : (if cuS g (t + 1) = true then J2 4 5 else (v ||| J2 42 6) ||| J2 42 7) = bv at *
    refine v55_42_49 (d := d + 20) ⟨fun q => ?_, fun q => ?_⟩
    · rw [hM2.2.2.2.1] at q
      have q : gN g 5 = 0 := nI_ij (by have := hG.2.2.2.1; omega) (by omega) q
      refine mv_42 np2 oN oH hM2 hG hP2 (fun s hs => hM2.2.2.2.2.1 s hs) hv hbd (fun J3 f3 fj3 np3 => fin l1 bv J3 _ f3 fj3 np3 (mvN_o oN) ?_)
      show _ = nxN g W _ _ _ _ _ N hd
      unfold nxN
      rw [if_pos q]
    · rw [hM2.2.2.2.1] at q
      have q : gN g 5 ≠ 0 := fun z => q (by rw [z]; rfl)
      have h8 := hG.1
      have lp : ∀ (m r : Nat) (J3 : rJ0), r + m = gN g 0 → F42 I1 J2 I1 J3 → (∀ q, q ≠ 8 → q ≠ 9 → J3 42 q = J2 42 q) → NP 42 J3 (rwN g W (cuP g 0 P (cuN g (t + 1))) (cuP g 1 H (cuN g (t + 1))) (lfB g (t + 1)) (decide (t + 1 ≤ gN g 4)) (cuS g (t + 1)) N hd r) hd → wp S (d + 21) 55 76 [some (.ref 42), some (.int l1), some (.long v), none, some (.long bv), none, some (.long (J2 42 8)), none, some (.long (J2 42 9)), none, some (.int (nI r))] [] (wv x I1 J3) (rV x Q) := by
        intro m
        induction m with
        | zero =>
          intro r J3 hr f3 fj3 np3
          have hr : r = gN g 0 := by omega
          have hM3 := hM2.n42 f3
          refine v55_42_76 (d := d + 20) ⟨fun y => absurd y (by rw [hM3.1]; exact nI_nlt (by omega) (by omega)), fun _ => fin l1 bv J3 _ f3 fj3 np3 (rwN_o oN r) ?_⟩
          show _ = nxN g W _ _ _ _ _ N hd
          unfold nxN
          rw [if_neg q, hr]
        | succ m ih =>
          intro r J3 hr f3 fj3 np3
          have hM3 := hM2.n42 f3
          refine v55_42_76 (d := d + 20) ⟨fun _ => rws_42 hG hM3 (by omega) (fun w hw => mv_42 np3 (rwN_o oN r) oH hM3 hG hP2 hw hv hbd (fun J4 f4 fj4 np4 => ?_)), fun y => absurd (by rw [hM3.1]; exact nI_lt (by omega) (by omega)) y⟩
          rw [← nI_succ]
          exact ih (r + 1) J4 (by omega) (F42.tr f3 f4) (fun q h1 h2 => (fj4 q h1 h2).trans (fj3 q h1 h2)) np4
      exact lp (gN g 0) 0 J2 (by omega) F42.rf (fun _ _ _ => rfl) np2
  refine ⟨fun z => ?_, fun z => ?_⟩
  · rw [← e0] at z
    have e : cuS g (t + 1) = false := by
      cases y : cuS g (t + 1) with
      | false => rfl
      | true =>
        rw [y] at z
        exact absurd z (by decide)
    have b := B (nI (if cuS g (t + 1) = true then 1 else 0))
    rw [e] at b ⊢
    exact b
  · rw [← e0] at z
    have e : cuS g (t + 1) = true := by
      cases y : cuS g (t + 1) with
      | true => rfl
      | false =>
        rw [y] at z
        exact absurd rfl z
    have b := B (nI (if cuS g (t + 1) = true then 1 else 0))
    rw [e] at b ⊢
    exact b
end NU42
