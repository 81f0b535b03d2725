/-! again, of the reference -/
section AJ0
variable {S : Nat × (Nat → Int32)} {d : Nat} {x : mX} {I : rI0} {J : rJ0} {g : Nat → Int32} {W : Nat → lV} {P H : Nat → Bool}
theorem rAl {a b : Nat} {Q : Int32 → rI0 → rJ0 → Prop} (h : RA g W P H 601 J) (ha : a < 601) (hb : b < 601) (k : Q (nI (if alB g W P H a b = true then 1 else 0)) I J) : wcI S d 213 [.ref 43, .int (nI a), .int (nI b)] x I J Q := by
  have oa : ¬ mOut (nI a) 601 := nI_in (by omega) (by omega)
  have ob : ¬ mOut (nI b) 601 := nI_in (by omega) (by omega)
  have c1 : nt g W P H a = nt g W P H b → Q 1 I J := by
    intro y
    rw [alB_i.mpr y] at k
    exact k
  have c0 : nt g W P H a ≠ nt g W P H b → Q 0 I J := by
    intro y
    rw [show alB g W P H a b = false from ts_nt (fun z => y (alB_i.mp z))] at k
    exact k
  refine c213_43 ?_
  rw [nI_clamp (by omega), nI_clamp (by omega)]
  have e : ∀ (v w : Int64) (p q : Nat → Bool), (∀ s, s < 64 → bits5 v s = p s) → (∀ s, s < 64 → bits5 w s = q s) → (lg_cmp v w = 0 ↔ ∀ s, s < 64 → p s = q s) := by
    intro v w p q hp hq
    rw [lg_eq]
    constructor
    · intro y s hs
      rw [← hp s hs, ← hq s hs, y]
    · intro y
      exact b5_ext (fun s hs => by rw [hp s hs, hq s hs, y s hs])
  have e1 := e (J 52 a) (J 52 b) _ _ (fun s hs => (h a ha s hs).1) (fun s hs => (h b hb s hs).1)
  have e2 := e (J 53 a) (J 53 b) _ _ (fun s hs => (h a ha s hs).2.1) (fun s hs => (h b hb s hs).2.1)
  have e3 := e (J 54 a) (J 54 b) _ _ (fun s hs => (h a ha s hs).2.2.1) (fun s hs => (h b hb s hs).2.2.1)
  have e4 := e (J 55 a) (J 55 b) _ _ (fun s hs => (h a ha s hs).2.2.2) (fun s hs => (h b hb s hs).2.2.2)
  refine ⟨oa, ob, fun q1 => ⟨oa, ob, fun q2 => ⟨oa, ob, fun q3 => ⟨oa, ob, fun q4 => c1 (nt_eq (fun s hs => ⟨e1.mp q1 s hs, e2.mp q2 s hs, e3.mp q3 s hs, e4.mp q4 s hs⟩)), fun q4 => c0 (fun y => q4 (e4.mpr (fun s hs => by rw [y])))⟩, fun q3 => c0 (fun y => q3 (e3.mpr (fun s hs => by rw [y])))⟩, fun q2 => c0 (fun y => q2 (e2.mpr (fun s hs => by rw [y])))⟩, fun q1 => c0 (fun y => q1 (e1.mpr (fun s hs => by rw [y])))⟩
/-- the search -/
theorem ag232 {p1 l2 l3 : Int32} {Q : Int32 → rI0 → rJ0 → Prop} (h : RA g W P H 601 J) : ∀ (n m : Nat), m + n = 601 → Q (ag2 g W P H p1 n m) I J → wp S (d + 1) 214 218 [some (.ref 43), some (.int p1), some (.int l2), some (.int l3), some (.int (nI m)), none] [] (wv x I J) (rI x Q) := by
  intro n
  induction n with
  | zero =>
    intro m hm c
    exact v214_43_218 ⟨fun _ => c, fun q => absurd (nI_lt (a := 600) (by omega) (by omega)) q⟩
  | succ n ih =>
    intro m hm c
    have c : Q (if lkI g W P H m = -1 then ag2 g W P H p1 n (m + 1) else if p1 = 0 then nI m else lkI g W P H m - nI m) I J := c
    refine v214_43_218 ⟨fun q => absurd q (nI_nlt (a := 600) (by omega) (by omega)), fun _ => ?_⟩
    rw [← nI_succ]
    have lp : ∀ (j u : Nat), u + j = 601 → m < u → Q (if fnI (alB g W P H m) j u = -1 then ag2 g W P H p1 n (m + 1) else if p1 = 0 then nI m else fnI (alB g W P H m) j u - nI m) I J → wp S (d + 1) 214 232 [some (.ref 43), some (.int p1), some (.int l2), some (.int l3), some (.int (nI m)), some (.int (nI u))] [] (wv x I J) (rI x Q) := by
      intro j
      induction j with
      | zero =>
        intro u hu hmu c
        have c : Q (if (-1 : Int32) = -1 then ag2 g W P H p1 n (m + 1) else if p1 = 0 then nI m else (-1 : Int32) - nI m) I J := c
        rw [if_pos rfl] at c
        refine v214_43_232 ⟨fun _ => ?_, fun q => absurd (nI_lt (a := 600) (by omega) (by omega)) q⟩
        rw [← nI_succ]
        exact ih (m + 1) (by omega) c
      | succ j ih2 =>
        intro u hu hmu c
        have e : fnI (alB g W P H m) (j + 1) u = if alB g W P H m u = true then nI u else fnI (alB g W P H m) j (u + 1) := rfl
        rw [e] at c
        refine v214_43_232 ⟨fun q => absurd q (nI_nlt (a := 600) (by omega) (by omega)), fun _ => rAl h (by omega) (by omega) ?_⟩
        rw [← nI_succ]
        cases z : alB g W P H m u with
        | false =>
          rw [z, if_neg (show ¬ false = true by decide)] at c
          exact ⟨fun _ => ih2 (u + 1) (by omega) (by omega) c, fun y => absurd rfl y⟩
        | true =>
          rw [z, if_pos (show true = true from rfl)] at c
          have n1 : ¬ nI u = -1 := by
            intro y
            have := congrArg Int32.toInt y
            rw [nI_toInt (by omega), show (-1 : Int32).toInt = -1 by decide] at this
            omega
          rw [if_neg n1] at c
          refine ⟨fun y => absurd y (by decide), fun _ => ⟨fun y => ?_, fun y => ?_⟩⟩
          · rw [if_pos y] at c
            exact c
          · rw [if_neg y] at c
            exact c
    unfold lkI at c
    exact lp (600 - m) (m + 1) (by omega) (by omega) c
theorem yAgain {p1 : Int32} {Q : Int32 → rI0 → rJ0 → Prop} (hR : RH g W I J) (e1 : ∀ s, s < 64 → bits5 (J 43 16) s = P s) (e2 : ∀ s, s < 64 → bits5 (J 43 17) s = H s) (k : ∀ I' J', FG I J I' J' → RH g W I' J' → Q (againV g W P H p1) I' J') : wcI S (d + 6) 214 [.ref 43, .int p1] x I J Q := by
  have k0 := k _ _ (FG.t (v := 0)) hR.t
  unfold againV at k0
  have hR1 : RH g W (mSet I 43 0 0) J := hR.t
  refine c214_43 (rIn (a := 0) (b := 1) (by decide) (by decide) (by omega) (fun w _ hw ew hh => ⟨fun z => absurd z (by decide), fun _ => ?_⟩) (fun hh => ⟨fun _ => ?_, fun z => absurd rfl z⟩))
  · refine rnt (t := 600) (d := d) hR1 (by omega) e1 e2 (fun I1 J1 f h => ?_)
    have k1 := k I1 J1 (FG.t.tr f.h.fg) h.h
    unfold againV at k1
    rw [hh, if_pos rfl] at k1
    obtain ⟨hG, hI, hW, hL, eg, f30, hA, hS, hA6⟩ := h
    obtain ⟨z0, z1, z4, z5, z590, z3⟩ := k0c
    have h8 := hG.1
    have h4 := hG.2.2.1
    have h30 := hG.2.2.2.2.2.1
    have hl := agB_l hG hI
    have hF : agF g P ≤ 600 := by
      unfold agF
      split
      · rename_i z
        rw [Bool.and_eq_true, decide_eq_true_iff] at z
        split <;> omega
      · omega
    have a1 : ∀ i, (591 : Int32) + ((3 : Int32) * nI i) = nI (591 + 3 * i) := by
      intro i
      show nI 591 + (nI 3 * nI i) = _
      rw [nI_mu, nI_add]
    have a2 : ∀ i, nI (591 + 3 * i) + (1 : Int32) = nI (592 + 3 * i) := by
      intro i
      rw [← nI_succ]
      exact congrArg nI (by omega)
    have lR : ∀ r, r ≤ gN g 0 → mxR g r ≤ 600 := fun r hr => (mxR_i r).mpr (fun q hq => by
      have := (hI.2.2.1 q (by omega)).2.2.2
      omega)
    have lC : ∀ i, i ≤ gN g 590 → mxC g (mxR g (gN g 0)) i ≤ 600 := fun i hi => (mxC_i i).mpr ⟨lR _ (Nat.le_refl _), fun q hq => (hG.2.2.2.2.2.2.1 q (by omega)).1⟩
    have fin : ∀ (l2 : Int32) (l3 : Int32), wp S (d + 6) 214 218 [some (.ref 43), some (.int p1), some (.int l2), some (.int l3), some (.int (nI (agF g P))), none] [] (wv x I1 J1) (rI x Q) := fun l2 l3 => ag232 (d := d + 5) hA6 (601 - agF g P) (agF g P) (by omega) k1
    have cu : ∀ (n i : Nat), i + n = gN g 590 → wp S (d + 6) 214 96 [some (.ref 43), some (.int p1), some (.int (nI (mxC g (mxR g (gN g 0)) i))), some (.int (nI (if (decide (0 < nb P 64) || decide (0 < nb (fun i => decide (gN g (592 + 3 * i) = 0)) i)) = true then 1 else 0))), some (.int (nI i)), none] [] (wv x I1 J1) (rI x Q) := by
      intro n
      induction n with
      | zero =>
        intro i hi
        have hi : i = gN g 590 := by omega
        subst hi
        refine v214_43_96 ⟨by decide, fun q => absurd q (by rw [z590, eg, hI.2.2.2.1]; exact nI_nlt (Nat.le_refl _) (by omega)), fun _ => ?_⟩
        have fin2 := fin
        unfold agF at fin2
        rw [z4, eg, hI.1 4 (by omega), ← nI_succ]
        show (nI (if pdB g P = true then 1 else 0) = 0 → _) ∧ (¬ nI (if pdB g P = true then 1 else 0) = 0 → _)
        cases y : pdB g P with
        | false =>
          rw [y, Bool.false_and, if_neg (by decide)] at fin2
          exact ⟨fun _ => fin2 _ _, fun q => absurd rfl q⟩
        | true =>
          rw [y, Bool.true_and] at fin2
          refine ⟨fun q => absurd q (by decide), fun _ => ⟨by decide, fun q => ⟨by decide, fun q2 => ⟨by decide, ?_⟩, fun q2 => ?_⟩, fun q => ?_⟩⟩
          · have q := (nI_ltI (b := 600) (by omega) (by omega)).mp q
            have q2 := (nI_ltI (by have := lC _ (Nat.le_refl (gN g 590)); omega) (by omega)).mp q2
            rw [decide_eq_true q, if_pos rfl, if_pos (show agB g < gN g 4 + 1 from q2)] at fin2
            exact fin2 _ _
          · have q := (nI_ltI (b := 600) (by omega) (by omega)).mp q
            have q2 : ¬ agB g < gN g 4 + 1 := fun z => q2 (nI_lt z (by omega))
            rw [decide_eq_true q, if_pos rfl, if_neg q2] at fin2
            exact fin2 _ _
          · have q : ¬ gN g 4 < 600 := fun z => q (nI_lt (b := 600) z (by omega))
            rw [decide_eq_false q, if_neg (by decide)] at fin2
            exact fin2 _ _
      | succ n ih =>
        intro i hi
        obtain ⟨c1, c2, -⟩ := hI.2.2.2.2 i (by omega)
        obtain ⟨b1, b2, -⟩ := hG.2.2.2.2.2.2.1 i (by omega)
        have lc := lC i (by omega)
        have i2 := ih (i + 1) (by omega)
        have es : decide (0 < nb (fun i => decide (gN g (592 + 3 * i) = 0)) (i + 1)) = (decide (0 < nb (fun i => decide (gN g (592 + 3 * i) = 0)) i) || decide (gN g (592 + 3 * i) = 0)) := by
          rw [nb_s]
          by_cases z : gN g (592 + 3 * i) = 0
          · rw [decide_eq_true z, Bool.or_true, if_pos rfl]
            exact decide_eq_true (by omega)
          · rw [decide_eq_false z, Bool.or_false, if_neg (by decide)]
            rfl
        rw [es, ← Bool.or_assoc] at i2
        have mid : ∀ (s0 l2 : Int32), s0 = nI (mxC g (mxR g (gN g 0)) (i + 1)) → wp S (d + 6) 214 143 [some (.ref 43), some (.int p1), some (.int l2), some (.int (nI (if (decide (0 < nb P 64) || decide (0 < nb (fun i => decide (gN g (592 + 3 * i) = 0)) i)) = true then 1 else 0))), some (.int (nI i)), none] [.int s0] (wv x I1 J1) (rI x Q) := by
          intro s0 l2 e0
          subst e0
          refine v214_43_143 ?_
          rw [a1, a2, nI_clamp (by omega), eg, c2, ← nI_succ]
          cases y : (decide (0 < nb P 64) || decide (0 < nb (fun i => decide (gN g (592 + 3 * i) = 0)) i)) with
          | true =>
            rw [y] at i2
            exact ⟨fun w => absurd w (by decide), fun _ => i2⟩
          | false =>
            rw [y] at i2
            refine ⟨fun _ => ⟨nI_in (by omega) (by omega), fun w => ?_, fun w => ?_⟩, fun w => absurd rfl w⟩
            · rw [decide_eq_true (nI_ij (b := 0) (by omega) (by omega) w)] at i2
              exact i2
            · rw [decide_eq_false (show ¬ gN g (592 + 3 * i) = 0 from fun v => w (by rw [v]; rfl))] at i2
              exact i2
        refine v214_43_96 ⟨by decide, fun _ => ?_, fun q => absurd (by rw [z590, eg, hI.2.2.2.1]; exact nI_lt (by omega) (by omega)) q⟩
        rw [a1, nI_clamp (by omega), eg, c1]
        refine ⟨nI_in (by omega) (by omega), fun q => ⟨nI_in (by omega) (by omega), mid _ _ ?_⟩, fun q => mid _ _ ?_⟩
        · have q := (nI_ltI (by omega) (by omega)).mp q
          show _ = nI (if mxC g (mxR g (gN g 0)) i < gN g (591 + 3 * i) then gN g (591 + 3 * i) else mxC g (mxR g (gN g 0)) i)
          rw [if_pos q]
        · have q : ¬ mxC g (mxR g (gN g 0)) i < gN g (591 + 3 * i) := fun z => q (nI_lt z (by omega))
          show _ = nI (if mxC g (mxR g (gN g 0)) i < gN g (591 + 3 * i) then gN g (591 + 3 * i) else mxC g (mxR g (gN g 0)) i)
          rw [if_neg q]
    have ro : ∀ (n r : Nat), r + n = gN g 0 → wp S (d + 6) 214 43 [some (.ref 43), some (.int p1), some (.int (nI (mxR g r))), some (.int (nI (if decide (0 < nb P 64) = true then 1 else 0))), some (.int (nI r)), none] [] (wv x I1 J1) (rI x Q) := by
      intro n
      induction n with
      | zero =>
        intro r hr
        have hr : r = gN g 0 := by omega
        subst hr
        have c0 := cu (gN g 590) 0 (by omega)
        rw [show nb (fun i => decide (gN g (592 + 3 * i) = 0)) 0 = 0 from rfl, show decide (0 < 0) = false from rfl, Bool.or_false] at c0
        exact v214_43_43 ⟨by decide, fun q => absurd q (by rw [z0, eg, hI.1 0 (by omega)]; exact nI_nlt (Nat.le_refl _) (by omega)), fun _ => c0⟩
      | succ n ih =>
        intro r hr
        obtain ⟨-, -, l78, b78⟩ := hI.2.2.1 r (by omega)
        have lr := lR r (by omega)
        have i78 : ((78 : Int32) + nI r).toNatClampNeg = 78 + r := by
          show (nI 78 + nI r).toNatClampNeg = _
          rw [nI_add, nI_clamp (by omega)]
        have o78 : ¬ mOut ((78 : Int32) + nI r) 681 := by
          show ¬ mOut (nI 78 + nI r) 681
          rw [nI_add]
          exact nI_in (by omega) (by omega)
        have tv : (nI (gN g (78 + r)) - (1 : Int32)).toInt = (gN g (78 + r) : Int) - 1 := i_sub (nI_toInt (by omega)) (by decide : (1 : Int32).toInt = 1) (by omega)
        have tm : (nI (mxR g r)).toInt = (mxR g r : Int) := nI_toInt (by omega)
        refine v214_43_43 ⟨by decide, fun _ => ⟨o78, ?_⟩, fun q => absurd (by rw [z0, eg, hI.1 0 (by omega)]; exact nI_lt (by omega) (by omega)) q⟩
        rw [i78, eg, l78, ← nI_succ]
        have i2 := ih (r + 1) (by omega)
        rw [show mxR g (r + 1) = if mxR g r < gN g (78 + r) - 1 then gN g (78 + r) - 1 else mxR g r from rfl] at i2
        refine ⟨fun q => ⟨o78, ?_⟩, fun q => ?_⟩
        · have q := i_lt q
          have e : nI (gN g (78 + r)) - (1 : Int32) = nI (gN g (78 + r) - 1) := by
            rw [← Int32.toInt_inj, tv, nI_toInt (by omega)]
            omega
          rw [if_pos (by omega)] at i2
          rw [e]
          exact i2
        · have q := i_nlt q
          rw [if_neg (by omega)] at i2
          exact i2
    have ez : J1 43 16 = 0 ↔ decide (0 < nb P 64) = false := by
      have eP : ∀ s, s < 64 → bits5 (J1 43 16) s = P s := fun s hs => by rw [f.2.2.2 16 (by omega)]; exact e1 s hs
      rw [b5_z, decide_eq_false_iff_not, nb_pos]
      constructor
      · rintro h ⟨i, hi, y⟩
        rw [← eP i hi, h i hi] at y
        cases y
      · intro h s hs
        rw [eP s hs]
        exact ts_nt (fun y => h ⟨s, hs, y⟩)
    have r0 := ro (gN g 0) 0 (by omega)
    refine ⟨fun z => ?_, fun z => ?_⟩
    · rw [ez.mp (lg_z.mp z)] at r0
      exact r0
    · rw [show decide (0 < nb P 64) = true from ts_nf (fun y => z (lg_z.mpr (ez.mpr y)))] at r0
      exact r0
  · rw [hh, if_neg (by decide)] at k0
    exact k0
end AJ0
