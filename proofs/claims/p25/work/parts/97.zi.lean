section
/-! answers of the night, as the reference gives them -/
section AR0
variable {S : Nat × (Nat → Int32)} {d : Nat} {x : mX} {I : rI0} {J : rJ0} {g : Nat → Int32} {W : Nat → lV} {P H : Nat → Bool}
def FG (I : rI0) (J : rJ0) (I' : rI0) (J' : rJ0) : Prop := (∀ b, b ≠ 43 → b ≠ 50 → I' b = I b) ∧ (∀ q, q ≠ 0 → q ≠ 30 → ¬ (42 ≤ q ∧ q ≤ 45) → I' 43 q = I 43 q) ∧ (∀ b, b ≠ 43 → ¬ (51 ≤ b ∧ b ≤ 55) → J' b = J b) ∧ ∀ q, ¬ (36 ≤ q ∧ q ≤ 41) → J' 43 q = J 43 q
theorem FG.tr {I1 I2 : rI0} {J1 J2 : rJ0} (h : FG I J I1 J1) (h2 : FG I1 J1 I2 J2) : FG I J I2 J2 := ⟨fun b h3 h4 => (h2.1 b h3 h4).trans (h.1 b h3 h4), fun q h3 h4 h5 => (h2.2.1 q h3 h4 h5).trans (h.2.1 q h3 h4 h5), fun b h3 h4 => (h2.2.2.1 b h3 h4).trans (h.2.2.1 b h3 h4), fun q h3 => (h2.2.2.2 q h3).trans (h.2.2.2 q h3)⟩
theorem FG.t {v : Int32} : FG I J (mSet I 43 0 v) J := ⟨fun b h _ => mSet_ne h, fun q h _ _ => by unfold mSet va_up; rw [if_pos rfl, if_neg h], fun _ _ _ => rfl, fun _ _ => rfl⟩
theorem FH.fg {I1 : rI0} {J1 : rJ0} (h : FH I J I1 J1) : FG I J I1 J1 := ⟨h.1, fun q _ h1 h2 => h.2.1 q h1 h2, h.2.2.1, h.2.2.2⟩
theorem RH.t {v : Int32} (h : RH g W I J) : RH g W (mSet I 43 0 v) J := ⟨h.1, h.2.1, h.2.2.1, h.2.2.2.1, (mSet_ne (by decide)).trans h.2.2.2.2.1, h.2.2.2.2.2⟩
theorem RN.rp {t : Nat} (h : RN g W P H (t + 1) I J) : RP J (nt g W P H t).1 (nt g W P H t).2 := h.2.2.2.2.2.2.2.1.2.2.2.2
theorem rMo {p : Int32} {Q : Int32 → rI0 → rJ0 → Prop} (k1 : ∀ t, t ≤ 600 → p = nI t → moI p = true → Q 1 I J) (k0 : moI p = false → Q 0 I J) : wcI S (d + 1) 203 [.int p] x I J Q := by
  refine c203 (c151 ⟨fun q => ⟨Or.inl rfl, k0 (decide_eq_false (fun h => ?_))⟩, fun q => ⟨fun q2 => ⟨Or.inl rfl, k0 (decide_eq_false (fun h => ?_))⟩, fun q2 => ⟨Or.inr rfl, ?_⟩⟩⟩)
  · have := i_lt q
    have l0 : (0 : Int32).toInt = 0 := by decide
    omega
  · have := i_lt q2
    have l6 : (600 : Int32).toInt = 600 := by decide
    omega
  · have q := i_nlt q
    have q2 := i_nlt q2
    have l0 : (0 : Int32).toInt = 0 := by decide
    have l6 : (600 : Int32).toInt = 600 := by decide
    have h : moI p = true := decide_eq_true (by omega)
    obtain ⟨t, ht, e⟩ := moI_t h
    exact k1 t ht e h
theorem ySees {p1 p2 p3 p4 : Int32} {Q : Int32 → rI0 → rJ0 → Prop} (hR : RH g W I J) (e1 : ∀ s, s < 64 → bits5 (J 43 16) s = P s) (e2 : ∀ s, s < 64 → bits5 (J 43 17) s = H s) (k : ∀ I' J', FG I J I' J' → RH g W I' J' → Q (seesV g W P H p1 p2 p3 p4) I' J') : wcI S (d + 6) 204 [.ref 43, .int p1, .int p2, .int p3, .int p4] x I J Q := by
  have k0 := k _ _ (FG.t (v := 0)) hR.t
  unfold seesV at k0
  have hR1 : RH g W (mSet I 43 0 0) J := hR.t
  refine c204_43 (rIs (d := d + 4) hR1.1 hR1.2.1 hR1.2.2.2.2.1 (fun s hs es hse hsi => ⟨fun z => absurd z (by decide), fun _ => rMo (d := d + 4) (fun t ht et hmo => ⟨fun z => absurd z (by decide), fun _ => rIn (a := 0) (b := 5) (by decide) (by decide) (by omega) (fun a _ ha ea h3 => ⟨fun z => absurd z (by decide), fun _ => rIn (a := 1) (b := 2) (by decide) (by decide) (by omega) (fun l hl1 hl2 el h4 => ⟨fun z => absurd z (by decide), fun _ => ?_⟩) (fun h4 => ⟨fun _ => ?_, fun z => absurd rfl z⟩)⟩) (fun h3 => ⟨fun _ => ?_, fun z => absurd rfl z⟩)⟩) (fun hmo => ⟨fun _ => ?_, fun z => absurd rfl z⟩)⟩) (fun hsi => ⟨fun _ => ?_, fun z => absurd rfl z⟩))
  · subst es et ea el
    refine rnt (d := d) hR1 ht e1 e2 (fun I1 J1 f h => ?_)
    have k1 := k I1 J1 (FG.t.tr f.h.fg) h.h
    unfold seesV at k1
    rw [hsi, hmo, h3, h4, nI_tn (by omega), nI_tn (by omega), nI_tn (by omega), nI_tn (by omega), if_pos bt4] at k1
    have ix : (6 : Int32) * nI s + nI a = nI (6 * s + a) := by
      show nI 6 * nI s + nI a = _
      rw [nI_mu, nI_add]
    rw [ix, nI_clamp (by omega)]
    have hA := h.2.2.2.2.2.2.1 s hse a (by omega)
    refine ⟨nI_in (by omega) (by omega), fun z => rbX ?_, fun z => rbX ?_⟩
    · have z := nI_ij (b := 1) (by omega) (by omega) z
      rw [z] at k1
      rw [show pc (J1 51 (6 * s + a) &&& J1 43 38) = nb (fun u => arB g a s u && decide (1 ≤ (nt g W P H t).1 u)) 64 from nb_cg 64 (fun u hu => by rw [b5_and, hA u hu, (h.rp u hu).1])]
      exact k1
    · have z : l = 2 := by
        have : l ≠ 1 := fun y => z (by rw [y]; rfl)
        omega
      rw [z] at k1
      rw [show pc (J1 51 (6 * s + a) &&& J1 43 39) = nb (fun u => arB g a s u && decide (2 ≤ (nt g W P H t).1 u)) 64 from nb_cg 64 (fun u hu => by rw [b5_and, hA u hu, (h.rp u hu).2.1])]
      exact k1
  · rw [h4, Bool.and_false, Bool.and_false, Bool.and_false] at k0
    exact k0
  · rw [h3, Bool.false_and, Bool.and_false, Bool.and_false] at k0
    exact k0
  · rw [hmo, Bool.false_and, Bool.and_false] at k0
    exact k0
  · rw [hsi, Bool.false_and] at k0
    exact k0
theorem yAt {p1 p2 p3 : Int32} {Q : Int32 → rI0 → rJ0 → Prop} (hR : RH g W I J) (e1 : ∀ s, s < 64 → bits5 (J 43 16) s = P s) (e2 : ∀ s, s < 64 → bits5 (J 43 17) s = H s) (k : ∀ I' J', FG I J I' J' → RH g W I' J' → Q (atV g W P H p1 p2 p3) I' J') : wcI S (d + 6) 205 [.ref 43, .int p1, .int p2, .int p3] x I J Q := by
  have k0 := k _ _ (FG.t (v := 0)) hR.t
  unfold atV at k0
  have hR1 : RH g W (mSet I 43 0 0) J := hR.t
  refine c205_43 (rIs (d := d + 4) hR1.1 hR1.2.1 hR1.2.2.2.2.1 (fun s hs es hse hsi => ⟨fun z => absurd z (by decide), fun _ => rMo (d := d + 4) (fun t ht et hmo => ⟨fun z => absurd z (by decide), fun _ => rIn (a := 0) (b := 1) (by decide) (by decide) (by omega) (fun a _ ha ea h3 => ⟨fun z => absurd z (by decide), fun _ => ?_⟩) (fun h3 => ⟨fun _ => ?_, fun z => absurd rfl z⟩)⟩) (fun hmo => ⟨fun _ => ?_, fun z => absurd rfl z⟩)⟩) (fun hsi => ⟨fun _ => ?_, fun z => absurd rfl z⟩))
  · subst es et
    refine rnt (d := d) hR1 ht e1 e2 (fun I1 J1 f h => ?_)
    have k1 := k I1 J1 (FG.t.tr f.h.fg) h.h
    unfold atV at k1
    rw [hsi, hmo, h3, nI_tn (by omega), nI_tn (by omega), if_pos bt3] at k1
    have oN := (nt_o (g := g) (W := W) (P := P) (H := H) t).1 s
    have oH := (nt_o (g := g) (W := W) (P := P) (H := H) t).2 s
    refine ⟨fun z => lvO (d := d + 4) hs h.rp oN.1 ?_, fun z => hdO (d := d + 4) hs h.rp oH.1 ?_⟩
    · rw [if_pos z] at k1
      exact k1
    · rw [if_neg z] at k1
      exact k1
  · rw [h3, Bool.and_false, Bool.and_false] at k0
    exact k0
  · rw [hmo, Bool.false_and, Bool.and_false] at k0
    exact k0
  · rw [hsi, Bool.false_and] at k0
    exact k0
/-- SEATS are counted -/
theorem g2_n (hW : HW g) : g 2 = nI (nb (seB g) 64) := by
  have e : ∀ n, n ≤ 64 → (nb (seB g) n : Int) = cnt g n := by
    intro n
    induction n with
    | zero => intro _; rfl
    | succ n ih =>
      intro hn
      have ih := ih (by omega)
      show ((nb (seB g) n + (if seB g n = true then 1 else 0) : Nat) : Int) = cnt g n + (if 0 < (g (6 + n)).toInt then 1 else 0)
      have es : seB g n = decide (0 < (g (6 + n)).toInt) := by
        unfold seB
        rw [decide_eq_true (show n < 64 by omega), Bool.true_and]
      rw [es]
      by_cases z : 0 < (g (6 + n)).toInt
      · rw [decide_eq_true z, if_pos rfl, if_pos z]
        omega
      · rw [decide_eq_false z, if_neg (by decide), if_neg z]
        omega
  have h := hW.2.2.2.1
  have hl := nb_le (p := seB g) 64
  rw [← Int32.toInt_inj, h, nI_toInt (by omega), e 64 (by omega)]
theorem yMany {p1 p2 : Int32} {Q : Int32 → rI0 → rJ0 → Prop} (hR : RH g W I J) (e1 : ∀ s, s < 64 → bits5 (J 43 16) s = P s) (e2 : ∀ s, s < 64 → bits5 (J 43 17) s = H s) (k : ∀ I' J', FG I J I' J' → RH g W I' J' → Q (manyV g W P H p1 p2) I' J') : wcI S (d + 6) 206 [.ref 43, .int p1, .int p2] x I J Q := by
  have k0 := k _ _ (FG.t (v := 0)) hR.t
  unfold manyV at k0
  have hR1 : RH g W (mSet I 43 0 0) J := hR.t
  refine c206_43 (rMo (d := d + 4) (fun t ht et hmo => ⟨fun z => absurd z (by decide), fun _ => rIn (a := 0) (b := 2) (by decide) (by decide) (by omega) (fun l _ hl el h3 => ⟨fun z => absurd z (by decide), fun _ => ?_⟩) (fun h3 => ⟨fun _ => ?_, fun z => absurd rfl z⟩)⟩) (fun hmo => ⟨fun _ => ?_, fun z => absurd rfl z⟩))
  · subst et el
    refine rnt (d := d) hR1 ht e1 e2 (fun I1 J1 f h => ?_)
    have k1 := k I1 J1 (FG.t.tr f.h.fg) h.h
    unfold manyV at k1
    rw [hmo, h3, nI_tn (by omega), nI_tn (by omega), if_pos bt2] at k1
    refine ⟨fun z => ⟨by decide, ?_⟩, fun z => ⟨fun y => rbX ?_, fun y => rbX ?_⟩⟩
    · rw [if_pos z] at k1
      rw [show I1 45 ((2 : Int32).toNatClampNeg) = nI (nb (seB g) 64) from by
        show I1 45 2 = _
        rw [h.2.2.2.2.1]
        exact g2_n h.2.2.1]
      exact k1
    · rw [if_neg z, nI_ij (b := 1) (by omega) (by omega) y] at k1
      rw [pcR1 h.rp]
      exact k1
    · have z0 : l ≠ 0 := fun w => z (by rw [w]; rfl)
      have z1 : l ≠ 1 := fun w => y (by rw [w]; rfl)
      rw [if_neg z, show l = 2 by omega] at k1
      rw [pcR h.rp]
      exact k1
  · rw [h3, Bool.and_false] at k0
    exact k0
  · rw [hmo, Bool.false_and] at k0
    exact k0
theorem yWould {p1 p2 p3 : Int32} {Q : Int32 → rI0 → rJ0 → Prop} (hT : ∀ l, l < 12 → 0 ≤ (g (86 + 42 * l)).toInt) (hR : RH g W I J) (e1 : ∀ s, s < 64 → bits5 (J 43 16) s = P s) (e2 : ∀ s, s < 64 → bits5 (J 43 17) s = H s) (k : ∀ I' J', FG I J I' J' → RH g W I' J' → Q (wouldV g W P H p1 p2 p3) I' J') : wcI S (d + 6) 207 [.ref 43, .int p1, .int p2, .int p3] x I J Q := by
  have k0 := k _ _ (FG.t (v := 0)) hR.t
  unfold wouldV at k0
  have hR1 : RH g W (mSet I 43 0 0) J := hR.t
  obtain ⟨hG, hI, hW, hL, eg, hA0⟩ := hR1
  refine c207_43 (rIs (d := d + 4) hG hI eg (fun s hs es hse hsi => ⟨fun z => absurd z (by decide), fun _ => rMo (d := d + 4) (fun t ht et hmo => ⟨fun z => absurd z (by decide), fun _ => rIn (a := 0) (b := 1) (by decide) (by decide) (by omega) (fun w _ hw ew h3 => ⟨fun z => absurd z (by decide), fun _ => ?_⟩) (fun h3 => ⟨fun _ => ?_, fun z => absurd rfl z⟩)⟩) (fun hmo => ⟨fun _ => ?_, fun z => absurd rfl z⟩)⟩) (fun hsi => ⟨fun _ => ?_, fun z => absurd rfl z⟩))
  · subst es et ew
    obtain ⟨c1, c2⟩ := hI.2.1 s hs
    have k6 := (hG.2.2.2.2.1 s hse).2
    have kp : gN g (6 + s) = kdN g s + 1 := by
      have hp : 0 < (g (6 + s)).toInt := by
        unfold seB at hse
        rw [Bool.and_eq_true] at hse
        exact of_decide_eq_true hse.2
      unfold kdN
      have : 0 < gN g (6 + s) := by
        unfold gN
        omega
      omega
    have i1 : ((6 : Int32) + nI s).toNatClampNeg = 6 + s := by
      show (nI 6 + nI s).toNatClampNeg = _
      rw [nI_add, nI_clamp (by omega)]
    have o1 : ¬ mOut ((6 : Int32) + nI s) 681 := by
      show ¬ mOut (nI 6 + nI s) 681
      rw [nI_add]
      exact nI_in (by omega) (by omega)
    have il : (86 : Int32) + ((42 : Int32) * (((2 : Int32) * (nI (gN g (6 + s)) - (1 : Int32))) + nI w)) = nI (86 + 42 * (2 * kdN g s + w)) := by
      rw [kp, nI_pr]
      show nI 86 + (nI 42 * ((nI 2 * nI (kdN g s)) + nI w)) = _
      rw [nI_mu, nI_add, nI_mu, nI_add]
    rw [i1, eg, c1, il, nI_clamp (by omega)]
    rw [hsi, hmo, h3, nI_tn (by omega), nI_tn (by omega), nI_tn (by omega), if_pos bt3] at k0
    refine ⟨o1, nI_in (by omega) (by omega), fun z => ?_, fun z => ?_⟩
    · have tl : tlB g (2 * kdN g s + w) = false := by
        unfold tlB
        rw [z]
        rfl
      rw [tl, if_neg (by decide)] at k0
      exact k0
    · have tl : tlB g (2 * kdN g s + w) = true := by
        have tn := hT (2 * kdN g s + w) (by omega)
        have tz : (g (86 + 42 * (2 * kdN g s + w))).toInt ≠ 0 := fun y => z (Int32.toInt_inj.mp (by rw [y]; rfl))
        unfold tlB
        exact decide_eq_true (by omega)
      refine rnt (d := d) ⟨hG, hI, hW, hL, eg, hA0⟩ ht e1 e2 (fun I1 J1 f h => ?_)
      have k1 : ∀ I' J', FG I J I' J' → RH g W I' J' → Q (nI (if lwB g W (nt g W P H t).1 (nt g W P H t).2 (2 * kdN g s + w) s = true then 1 else 0)) I' J' := by
        intro I' J' f2 h2
        have k1 := k I' J' f2 h2
        unfold wouldV at k1
        rw [hsi, hmo, h3, nI_tn (by omega), nI_tn (by omega), nI_tn (by omega), if_pos bt3, tl, if_pos rfl] at k1
        exact k1
      obtain ⟨oN, oH⟩ := nt_o (g := g) (W := W) (P := P) (H := H) t
      refine lvO (d := d + 4) hs h.rp (oN s).1 (hdO (d := d + 4) hs h.rp (oH s).1 ?_)
      have e45 : I1 45 = g := h.2.2.2.2.1
      have g1 : FG I J I1 J1 := FG.t.tr f.h.fg
      refine ilw (d := d + 4) (I := I1) (W := W) (N := (nt g W P H t).1) (hd := (nt g W P H t).2) (by rw [e45]; exact hW) (by rw [e45]; exact hL) (by rw [e45]; exact h.2.2.2.2.2.2.1) (by omega) (by rw [e45]; exact tl) (by rw [e45]; exact hse) (by rw [e45]; exact oN) (by rw [e45]; exact oH) (fun u hu => (h.rp u hu).1) (fun u hu => (h.rp u hu).2.1) (fun I2 f2 => ?_)
      have r2 : RH g W I2 J1 := ⟨hG, hI, hW, hL, (f2 45 (by decide)).trans e45, fun _ => h.2.2.2.2.2.2.1⟩
      have g2 : FG I J I2 J1 := ⟨fun b h1 h2 => (f2 b h2).trans (g1.1 b h1 h2), fun q h1 h2 h3 => by rw [f2 43 (by decide)]; exact g1.2.1 q h1 h2 h3, g1.2.2.1, g1.2.2.2⟩
      have k2 := k1 I2 J1 g2 r2
      rw [e45]
      cases y : lwB g W (nt g W P H t).1 (nt g W P H t).2 (2 * kdN g s + w) s with
      | false =>
        rw [y] at k2
        exact ⟨fun _ => k2, fun q => absurd rfl q⟩
      | true =>
        rw [y] at k2
        exact ⟨fun q => absurd q (by decide), fun _ => k2⟩
  · rw [h3, Bool.and_false, Bool.and_false] at k0
    exact k0
  · rw [hmo, Bool.false_and, Bool.and_false] at k0
    exact k0
  · rw [hsi, Bool.false_and] at k0
    exact k0
theorem yStands {p1 : Int32} {Q : Int32 → rI0 → rJ0 → Prop} (hR : RH g W I J) (e1 : ∀ s, s < 64 → bits5 (J 43 16) s = P s) (e2 : ∀ s, s < 64 → bits5 (J 43 17) s = H s) (k : ∀ I' J', FG I J I' J' → RH g W I' J' → Q (standsV g W P H p1) I' J') : wcI S (d + 6) 208 [.ref 43, .int p1] x I J Q := by
  have k0 := k _ _ (FG.t (v := 0)) hR.t
  unfold standsV at k0
  have hR1 : RH g W (mSet I 43 0 0) J := hR.t
  refine c208_43 (rIs (d := d + 4) hR1.1 hR1.2.1 hR1.2.2.2.2.1 (fun s hs es hse hsi => ⟨fun z => absurd z (by decide), fun _ => ?_⟩) (fun hsi => ⟨fun _ => ?_, fun z => absurd rfl z⟩))
  · subst es
    refine rnt (t := 600) (d := d) hR1 (by omega) e1 e2 (fun I1 J1 f h => ?_)
    have k1 := k I1 J1 (FG.t.tr f.h.fg) h.h
    unfold standsV at k1
    rw [hsi, if_pos rfl, nI_tn (by omega)] at k1
    have lp : ∀ (n t : Nat), t + n = 601 → Q (fnI (fun t => decide (2 ≤ (nt g W P H t).1 s)) n t) I1 J1 → wp S (d + 6) 208 24 [some (.ref 43), some (.int (nI s)), some (.int (nI t))] [] (wv x I1 J1) (rI x Q) := by
      intro n
      induction n with
      | zero =>
        intro t ht c
        exact v208_43_24 ⟨fun _ => c, fun q => absurd (nI_lt (a := 600) (by omega) (by omega)) q⟩
      | succ n ih =>
        intro t ht c
        have c : Q (if decide (2 ≤ (nt g W P H t).1 s) = true then nI t else fnI (fun t => decide (2 ≤ (nt g W P H t).1 s)) n (t + 1)) I1 J1 := c
        refine v208_43_24 ⟨fun q => absurd q (nI_nlt (a := 600) (by omega) (by omega)), fun _ => ⟨nI_in (by omega) (by omega), hoX hs ?_⟩⟩
        rw [nI_clamp (by omega), (h.2.2.2.2.2.2.2.2 t (by omega) s hs).2.1, ← nI_succ]
        cases z : decide (2 ≤ (nt g W P H t).1 s) with
        | true =>
          rw [z] at c
          exact ⟨fun y => absurd y (by decide), fun _ => c⟩
        | false =>
          rw [z] at c
          exact ⟨fun _ => ih (t + 1) (by omega) c, fun y => absurd rfl y⟩
    exact lp 601 0 rfl k1
  · rw [hsi, if_neg (by decide)] at k0
    exact k0
theorem yAnyway {p1 : Int32} {Q : Int32 → rI0 → rJ0 → Prop} (hR : RH g W I J) (e1 : ∀ s, s < 64 → bits5 (J 43 16) s = P s) (e2 : ∀ s, s < 64 → bits5 (J 43 17) s = H s) (k : ∀ I' J', FG I J I' J' → RH g W I' J' → Q (anywayV g W P H p1) I' J') : wcI S (d + 6) 209 [.ref 43, .int p1] x I J Q := by
  have k0 := k _ _ (FG.t (v := 0)) hR.t
  unfold anywayV at k0
  have hR1 : RH g W (mSet I 43 0 0) J := hR.t
  refine c209_43 (rMo (d := d + 4) (fun t ht et hmo => ⟨fun z => absurd z (by decide), fun _ => ?_⟩) (fun hmo => ⟨fun _ => ?_, fun z => absurd rfl z⟩))
  · subst et
    refine rnt (d := d) hR1 ht e1 e2 (fun I1 J1 f h => rbg (d := d + 1) (P := fun _ => false) (H := H) h.h (fun s _ => b5_0) (fun s hs => by rw [f.2.2.2 17 (by omega)]; exact e2 s hs) (fun I2 J2 f2 h2 => ?_))
    have lp : ∀ (n u : Nat) (I3 : rI0) (J3 : rJ0), u + n = t + 1 → FN I1 J1 I3 J3 → RN g W (fun _ => false) H u I3 J3 → wp S (d + 6) 209 33 [some (.ref 43), some (.int (nI t)), some (.long (J1 43 39)), none] [] (wv x I3 J3) (rI x Q) := by
      intro n
      induction n with
      | zero =>
        intro u I3 J3 hu f3 h3
        have hu : u = t + 1 := by omega
        subst hu
        refine v209_43_33 ⟨fun _ => rbX ?_, fun q => absurd (by rw [h3.2.2.2.2.2.2.2.1.1]; exact nI_lt (by omega) (by omega)) q⟩
        have k1 := k I3 J3 (FG.t.tr (f.h.fg.tr f3.h.fg)) h3.h
        unfold anywayV at k1
        rw [hmo, if_pos rfl, nI_tn (by omega)] at k1
        rw [show pc (J1 43 39 &&& J3 43 39) = nb (fun s => decide (2 ≤ (nt g W P H t).1 s) && decide (2 ≤ (nt g W (fun _ => false) H t).1 s)) 64 from nb_cg 64 (fun s hs => by rw [b5_and, (h.rp s hs).2.1, (h3.rp s hs).2.1])]
        exact k1
      | succ n ih =>
        intro u I3 J3 hu f3 h3
        exact v209_43_33 (d := d + 5) ⟨fun q => absurd q (by rw [h3.2.2.2.2.2.2.2.1.1]; exact nI_nlt (by omega) (by omega)), fun _ => rmo (d := d + 2) h3 (by omega) (fun I4 J4 f4 h4 => ih (u + 1) I4 J4 (by omega) (f3.tr f4) h4)⟩
    exact lp (t + 1) 0 I2 J2 (by omega) f2 h2
  · rw [hmo, if_neg (by decide)] at k0
    exact k0
theorem rUp {t u : Nat} {Q : Int32 → rI0 → rJ0 → Prop} (h : RN g W P H t I J) (h3 : gN g 3 ≤ 64) (ht : t ≤ 601) (hu : u < t) (k : Q (nI (if upB g W P H u = true then 1 else 0)) I J) : wcI S (d + 1) 210 [.ref 43, .int (nI u)] x I J Q := by
  obtain ⟨-, -, -, -, -, z3⟩ := k0c
  have hs := stP_l (g := g) (W := W) (P := P) (H := H) (t := u)
  refine c210_43 ⟨nI_in (by omega) (by omega), rbX ⟨by decide, ?_⟩⟩
  have e : pc (J 53 u) = stP g W P H u := nb_cg 64 (fun s hs => (h.2.2.2.2.2.2.2.2 u hu s hs).2.1)
  rw [nI_clamp (by omega), e, z3, h.2.2.2.2.1, h.2.1.1 3 (by omega)]
  unfold upB at k
  refine ⟨fun q => ?_, fun q => ?_⟩
  · have q := (nI_ltI (by omega) (by omega)).mp q
    rw [decide_eq_false (by omega), if_neg (by decide)] at k
    exact k
  · have q : ¬ stP g W P H u < gN g 3 := fun z => q (nI_lt z (by omega))
    rw [decide_eq_true (by omega), if_pos rfl] at k
    exact k
theorem yUp {Q : Int32 → rI0 → rJ0 → Prop} (hR : RH g W I J) (h3 : gN g 3 ≤ 64) (e1 : ∀ s, s < 64 → bits5 (J 43 16) s = P s) (e2 : ∀ s, s < 64 → bits5 (J 43 17) s = H s) (k : ∀ I' J', FG I J I' J' → RH g W I' J' → Q (upV g W P H) I' J') : wcI S (d + 6) 211 [.ref 43] x I J Q := by
  have hR1 : RH g W (mSet I 43 0 0) J := hR.t
  refine c211_43 (rnt (t := 600) (d := d) hR1 (by omega) e1 e2 (fun I1 J1 f h => ?_))
  have lp : ∀ (n t : Nat), t + n = 601 → Q (fnI (upB g W P H) n t) I1 J1 → wp S (d + 6) 211 14 [some (.ref 43), some (.int (nI t))] [] (wv x I1 J1) (rI x Q) := by
    intro n
    induction n with
    | zero =>
      intro t ht c
      exact v211_43_14 ⟨fun _ => c, fun q => absurd (nI_lt (a := 600) (by omega) (by omega)) q⟩
    | succ n ih =>
      intro t ht c
      have c : Q (if upB g W P H t = true then nI t else fnI (upB g W P H) n (t + 1)) I1 J1 := c
      refine v211_43_14 (d := d + 5) ⟨fun q => absurd q (nI_nlt (a := 600) (by omega) (by omega)), fun _ => rUp (d := d + 4) h h3 (by omega) (by omega) ?_⟩
      rw [← nI_succ]
      cases z : upB g W P H t with
      | true =>
        rw [z] at c
        exact ⟨fun y => absurd y (by decide), fun _ => c⟩
      | false =>
        rw [z] at c
        exact ⟨fun _ => ih (t + 1) (by omega) c, fun y => absurd rfl y⟩
  exact lp 601 0 rfl (k I1 J1 (FG.t.tr f.h.fg) h.h)
theorem yCalls {p1 : Int32} {Q : Int32 → rI0 → rJ0 → Prop} (hR : RH g W I J) (h3 : gN g 3 ≤ 64) (e1 : ∀ s, s < 64 → bits5 (J 43 16) s = P s) (e2 : ∀ s, s < 64 → bits5 (J 43 17) s = H s) (k : ∀ I' J', FG I J I' J' → RH g W I' J' → Q (callsV g W P H p1) I' J') : wcI S (d + 6) 212 [.ref 43, .int p1] x I J Q := by
  have k0 := k _ _ (FG.t (v := 0)) hR.t
  unfold callsV at k0
  have hR1 : RH g W (mSet I 43 0 0) J := hR.t
  refine c212_43 (rMo (d := d + 4) (fun t ht et hmo => ⟨fun z => absurd z (by decide), fun _ => ?_⟩) (fun hmo => ⟨fun _ => ?_, fun z => absurd rfl z⟩))
  · subst et
    refine rnt (d := d) hR1 ht e1 e2 (fun I1 J1 f h => ?_)
    have k1 := k I1 J1 (FG.t.tr f.h.fg) h.h
    unfold callsV at k1
    rw [hmo, if_pos rfl, nI_tn (by omega)] at k1
    have z0 : ∀ v : Int32, v + (0 : Int32) = v := fun v => Int32.add_zero v
    have lp : ∀ (n e : Nat), e + n = t + 1 → wp S (d + 6) 212 23 [some (.ref 43), some (.int (nI t)), some (.int (nI (caN (upB g W P H) e))), some (.int (nI e))] [] (wv x I1 J1) (rI x Q) := by
      intro n
      induction n with
      | zero =>
        intro e he
        have he : e = t + 1 := by omega
        subst he
        exact v212_43_23 ⟨fun _ => k1, fun q => absurd (nI_lt (by omega) (by omega)) q⟩
      | succ n ih =>
        intro e he
        have i2 := ih (e + 1) (by omega)
        rw [show caN (upB g W P H) (e + 1) = caN (upB g W P H) e + (if (upB g W P H e && !pvB (upB g W P H) e) = true then 1 else 0) from rfl] at i2
        refine v212_43_23 (d := d + 5) ⟨fun q => absurd q (nI_nlt (by omega) (by omega)), fun _ => rUp (d := d + 4) h h3 (by omega) (by omega) ?_⟩
        rw [z0, ← nI_succ, ← nI_succ]
        cases z : upB g W P H e with
        | false =>
          rw [z] at i2
          exact ⟨fun _ => i2, fun y => absurd rfl y⟩
        | true =>
          rw [z] at i2
          refine ⟨fun y => absurd y (by decide), fun _ => ⟨fun y => ?_, fun y => ?_⟩⟩
          · have y : e = 0 := nI_ij (b := 0) (by omega) (by omega) y
            subst y
            exact i2
          · cases e with
            | zero => exact absurd rfl y
            | succ e =>
              rw [nI_pr]
              refine rUp (d := d + 4) h h3 (by omega) (by omega) ?_
              rw [show pvB (upB g W P H) (e + 1) = upB g W P H e from rfl] at i2
              cases w : upB g W P H e with
              | false =>
                rw [w] at i2
                exact ⟨fun _ => i2, fun y => absurd rfl y⟩
              | true =>
                rw [w] at i2
                exact ⟨fun y => absurd y (by decide), fun _ => i2⟩
    exact lp (t + 1) 0 (by omega)
  · rw [hmo, if_neg (by decide)] at k0
    exact k0
theorem yCarries {p1 : Int32} {Q : Int32 → rI0 → rJ0 → Prop} (hR : RH g W I J) (h3 : gN g 3 ≤ 64) (e1 : ∀ s, s < 64 → bits5 (J 43 16) s = P s) (e2 : ∀ s, s < 64 → bits5 (J 43 17) s = H s) (k : ∀ I' J', FG I J I' J' → RH g W I' J' → Q (carriesV g W P H p1) I' J') : wcI S (d + 6) 215 [.ref 43, .int p1] x I J Q := by
  have k0 := k _ _ (FG.t (v := 0)) hR.t
  unfold carriesV at k0
  have hR1 : RH g W (mSet I 43 0 0) J := hR.t
  refine c215_43 (rIn (a := 0) (b := 1) (by decide) (by decide) (by omega) (fun w _ hw ew hh => ⟨fun z => absurd z (by decide), fun _ => ?_⟩) (fun hh => ⟨fun _ => ?_, fun z => absurd rfl z⟩))
  · refine rht (d := d) hR1 h3 e1 e2 (fun I1 J1 f h h44 h45 => ?_)
    have k1 := k I1 J1 (FG.t.tr f.fg) h.h
    unfold carriesV at k1
    rw [hh, if_pos rfl] at k1
    rw [h44, h45]
    refine ⟨fun z => ?_, fun z => ?_⟩
    · rw [if_pos z] at k1
      exact k1
    · rw [if_neg z] at k1
      by_cases y : gN g 3 ≤ hgt g W P H 60
      · rw [if_pos y] at k1 ⊢
        exact ⟨fun q => absurd q (by decide), fun _ => k1⟩
      · rw [if_neg y] at k1 ⊢
        exact ⟨fun _ => k1, fun q => absurd rfl q⟩
  · rw [hh, if_neg (by decide)] at k0
    exact k0
end AR0
end
section
/-! again, of the reference -/
section AJ0
variable {S : Nat × (Nat → Int32)} {d : Nat} {x : mX} {I : rI0} {J : rJ0} {g : Nat → Int32} {W : Nat → lV} {P H : Nat → Bool}
theorem rAl {a b : Nat} {Q : Int32 → rI0 → rJ0 → Prop} (h : RA g W P H 601 J) (ha : a < 601) (hb : b < 601) (k : Q (nI (if alB g W P H a b = true then 1 else 0)) I J) : wcI S d 213 [.ref 43, .int (nI a), .int (nI b)] x I J Q := by
  have oa : ¬ mOut (nI a) 601 := nI_in (by omega) (by omega)
  have ob : ¬ mOut (nI b) 601 := nI_in (by omega) (by omega)
  have c1 : nt g W P H a = nt g W P H b → Q 1 I J := by
    intro y
    rw [alB_i.mpr y] at k
    exact k
  have c0 : nt g W P H a ≠ nt g W P H b → Q 0 I J := by
    intro y
    rw [show alB g W P H a b = false from ts_nt (fun z => y (alB_i.mp z))] at k
    exact k
  refine c213_43 ?_
  rw [nI_clamp (by omega), nI_clamp (by omega)]
  have e : ∀ (v w : Int64) (p q : Nat → Bool), (∀ s, s < 64 → bits5 v s = p s) → (∀ s, s < 64 → bits5 w s = q s) → (lg_cmp v w = 0 ↔ ∀ s, s < 64 → p s = q s) := by
    intro v w p q hp hq
    rw [lg_eq]
    constructor
    · intro y s hs
      rw [← hp s hs, ← hq s hs, y]
    · intro y
      exact b5_ext (fun s hs => by rw [hp s hs, hq s hs, y s hs])
  have e1 := e (J 52 a) (J 52 b) _ _ (fun s hs => (h a ha s hs).1) (fun s hs => (h b hb s hs).1)
  have e2 := e (J 53 a) (J 53 b) _ _ (fun s hs => (h a ha s hs).2.1) (fun s hs => (h b hb s hs).2.1)
  have e3 := e (J 54 a) (J 54 b) _ _ (fun s hs => (h a ha s hs).2.2.1) (fun s hs => (h b hb s hs).2.2.1)
  have e4 := e (J 55 a) (J 55 b) _ _ (fun s hs => (h a ha s hs).2.2.2) (fun s hs => (h b hb s hs).2.2.2)
  refine ⟨oa, ob, fun q1 => ⟨oa, ob, fun q2 => ⟨oa, ob, fun q3 => ⟨oa, ob, fun q4 => c1 (nt_eq (fun s hs => ⟨e1.mp q1 s hs, e2.mp q2 s hs, e3.mp q3 s hs, e4.mp q4 s hs⟩)), fun q4 => c0 (fun y => q4 (e4.mpr (fun s hs => by rw [y])))⟩, fun q3 => c0 (fun y => q3 (e3.mpr (fun s hs => by rw [y])))⟩, fun q2 => c0 (fun y => q2 (e2.mpr (fun s hs => by rw [y])))⟩, fun q1 => c0 (fun y => q1 (e1.mpr (fun s hs => by rw [y])))⟩
/-- the search -/
theorem ag232 {p1 l2 l3 : Int32} {Q : Int32 → rI0 → rJ0 → Prop} (h : RA g W P H 601 J) : ∀ (n m : Nat), m + n = 601 → Q (ag2 g W P H p1 n m) I J → wp S (d + 1) 214 218 [some (.ref 43), some (.int p1), some (.int l2), some (.int l3), some (.int (nI m)), none] [] (wv x I J) (rI x Q) := by
  intro n
  induction n with
  | zero =>
    intro m hm c
    exact v214_43_218 ⟨fun _ => c, fun q => absurd (nI_lt (a := 600) (by omega) (by omega)) q⟩
  | succ n ih =>
    intro m hm c
    have c : Q (if lkI g W P H m = -1 then ag2 g W P H p1 n (m + 1) else if p1 = 0 then nI m else lkI g W P H m - nI m) I J := c
    refine v214_43_218 ⟨fun q => absurd q (nI_nlt (a := 600) (by omega) (by omega)), fun _ => ?_⟩
    rw [← nI_succ]
    have lp : ∀ (j u : Nat), u + j = 601 → m < u → Q (if fnI (alB g W P H m) j u = -1 then ag2 g W P H p1 n (m + 1) else if p1 = 0 then nI m else fnI (alB g W P H m) j u - nI m) I J → wp S (d + 1) 214 232 [some (.ref 43), some (.int p1), some (.int l2), some (.int l3), some (.int (nI m)), some (.int (nI u))] [] (wv x I J) (rI x Q) := by
      intro j
      induction j with
      | zero =>
        intro u hu hmu c
        have c : Q (if (-1 : Int32) = -1 then ag2 g W P H p1 n (m + 1) else if p1 = 0 then nI m else (-1 : Int32) - nI m) I J := c
        rw [if_pos rfl] at c
        refine v214_43_232 ⟨fun _ => ?_, fun q => absurd (nI_lt (a := 600) (by omega) (by omega)) q⟩
        rw [← nI_succ]
        exact ih (m + 1) (by omega) c
      | succ j ih2 =>
        intro u hu hmu c
        have e : fnI (alB g W P H m) (j + 1) u = if alB g W P H m u = true then nI u else fnI (alB g W P H m) j (u + 1) := rfl
        rw [e] at c
        refine v214_43_232 ⟨fun q => absurd q (nI_nlt (a := 600) (by omega) (by omega)), fun _ => rAl h (by omega) (by omega) ?_⟩
        rw [← nI_succ]
        cases z : alB g W P H m u with
        | false =>
          rw [z, if_neg (show ¬ false = true by decide)] at c
          exact ⟨fun _ => ih2 (u + 1) (by omega) (by omega) c, fun y => absurd rfl y⟩
        | true =>
          rw [z, if_pos (show true = true from rfl)] at c
          have n1 : ¬ nI u = -1 := by
            intro y
            have := congrArg Int32.toInt y
            rw [nI_toInt (by omega), show (-1 : Int32).toInt = -1 by decide] at this
            omega
          rw [if_neg n1] at c
          refine ⟨fun y => absurd y (by decide), fun _ => ⟨fun y => ?_, fun y => ?_⟩⟩
          · rw [if_pos y] at c
            exact c
          · rw [if_neg y] at c
            exact c
    unfold lkI at c
    exact lp (600 - m) (m + 1) (by omega) (by omega) c
theorem yAgain {p1 : Int32} {Q : Int32 → rI0 → rJ0 → Prop} (hR : RH g W I J) (e1 : ∀ s, s < 64 → bits5 (J 43 16) s = P s) (e2 : ∀ s, s < 64 → bits5 (J 43 17) s = H s) (k : ∀ I' J', FG I J I' J' → RH g W I' J' → Q (againV g W P H p1) I' J') : wcI S (d + 6) 214 [.ref 43, .int p1] x I J Q := by
  have k0 := k _ _ (FG.t (v := 0)) hR.t
  unfold againV at k0
  have hR1 : RH g W (mSet I 43 0 0) J := hR.t
  refine c214_43 (rIn (a := 0) (b := 1) (by decide) (by decide) (by omega) (fun w _ hw ew hh => ⟨fun z => absurd z (by decide), fun _ => ?_⟩) (fun hh => ⟨fun _ => ?_, fun z => absurd rfl z⟩))
  · refine rnt (t := 600) (d := d) hR1 (by omega) e1 e2 (fun I1 J1 f h => ?_)
    have k1 := k I1 J1 (FG.t.tr f.h.fg) h.h
    unfold againV at k1
    rw [hh, if_pos rfl] at k1
    obtain ⟨hG, hI, hW, hL, eg, f30, hA, hS, hA6⟩ := h
    obtain ⟨z0, z1, z4, z5, z590, z3⟩ := k0c
    have h8 := hG.1
    have h4 := hG.2.2.1
    have h30 := hG.2.2.2.2.2.1
    have hl := agB_l hG hI
    have hF : agF g P ≤ 600 := by
      unfold agF
      split
      · rename_i z
        rw [Bool.and_eq_true, decide_eq_true_iff] at z
        split <;> omega
      · omega
    have a1 : ∀ i, (591 : Int32) + ((3 : Int32) * nI i) = nI (591 + 3 * i) := by
      intro i
      show nI 591 + (nI 3 * nI i) = _
      rw [nI_mu, nI_add]
    have a2 : ∀ i, nI (591 + 3 * i) + (1 : Int32) = nI (592 + 3 * i) := by
      intro i
      rw [← nI_succ]
      exact congrArg nI (by omega)
    have lR : ∀ r, r ≤ gN g 0 → mxR g r ≤ 600 := fun r hr => (mxR_i r).mpr (fun q hq => by
      have := (hI.2.2.1 q (by omega)).2.2.2
      omega)
    have lC : ∀ i, i ≤ gN g 590 → mxC g (mxR g (gN g 0)) i ≤ 600 := fun i hi => (mxC_i i).mpr ⟨lR _ (Nat.le_refl _), fun q hq => (hG.2.2.2.2.2.2.1 q (by omega)).1⟩
    have fin : ∀ (l2 : Int32) (l3 : Int32), wp S (d + 6) 214 218 [some (.ref 43), some (.int p1), some (.int l2), some (.int l3), some (.int (nI (agF g P))), none] [] (wv x I1 J1) (rI x Q) := fun l2 l3 => ag232 (d := d + 5) hA6 (601 - agF g P) (agF g P) (by omega) k1
    have cu : ∀ (n i : Nat), i + n = gN g 590 → wp S (d + 6) 214 96 [some (.ref 43), some (.int p1), some (.int (nI (mxC g (mxR g (gN g 0)) i))), some (.int (nI (if (decide (0 < nb P 64) || decide (0 < nb (fun i => decide (gN g (592 + 3 * i) = 0)) i)) = true then 1 else 0))), some (.int (nI i)), none] [] (wv x I1 J1) (rI x Q) := by
      intro n
      induction n with
      | zero =>
        intro i hi
        have hi : i = gN g 590 := by omega
        subst hi
        refine v214_43_96 ⟨by decide, fun q => absurd q (by rw [z590, eg, hI.2.2.2.1]; exact nI_nlt (Nat.le_refl _) (by omega)), fun _ => ?_⟩
        have fin2 := fin
        unfold agF at fin2
        rw [z4, eg, hI.1 4 (by omega), ← nI_succ]
        show (nI (if pdB g P = true then 1 else 0) = 0 → _) ∧ (¬ nI (if pdB g P = true then 1 else 0) = 0 → _)
        cases y : pdB g P with
        | false =>
          rw [y, Bool.false_and, if_neg (by decide)] at fin2
          exact ⟨fun _ => fin2 _ _, fun q => absurd rfl q⟩
        | true =>
          rw [y, Bool.true_and] at fin2
          refine ⟨fun q => absurd q (by decide), fun _ => ⟨by decide, fun q => ⟨by decide, fun q2 => ⟨by decide, ?_⟩, fun q2 => ?_⟩, fun q => ?_⟩⟩
          · have q := (nI_ltI (b := 600) (by omega) (by omega)).mp q
            have q2 := (nI_ltI (by have := lC _ (Nat.le_refl (gN g 590)); omega) (by omega)).mp q2
            rw [decide_eq_true q, if_pos rfl, if_pos (show agB g < gN g 4 + 1 from q2)] at fin2
            exact fin2 _ _
          · have q := (nI_ltI (b := 600) (by omega) (by omega)).mp q
            have q2 : ¬ agB g < gN g 4 + 1 := fun z => q2 (nI_lt z (by omega))
            rw [decide_eq_true q, if_pos rfl, if_neg q2] at fin2
            exact fin2 _ _
          · have q : ¬ gN g 4 < 600 := fun z => q (nI_lt (b := 600) z (by omega))
            rw [decide_eq_false q, if_neg (by decide)] at fin2
            exact fin2 _ _
      | succ n ih =>
        intro i hi
        obtain ⟨c1, c2, -⟩ := hI.2.2.2.2 i (by omega)
        obtain ⟨b1, b2, -⟩ := hG.2.2.2.2.2.2.1 i (by omega)
        have lc := lC i (by omega)
        have i2 := ih (i + 1) (by omega)
        have es : decide (0 < nb (fun i => decide (gN g (592 + 3 * i) = 0)) (i + 1)) = (decide (0 < nb (fun i => decide (gN g (592 + 3 * i) = 0)) i) || decide (gN g (592 + 3 * i) = 0)) := by
          rw [nb_s]
          by_cases z : gN g (592 + 3 * i) = 0
          · rw [decide_eq_true z, Bool.or_true, if_pos rfl]
            exact decide_eq_true (by omega)
          · rw [decide_eq_false z, Bool.or_false, if_neg (by decide)]
            rfl
        rw [es, ← Bool.or_assoc] at i2
        have mid : ∀ (s0 l2 : Int32), s0 = nI (mxC g (mxR g (gN g 0)) (i + 1)) → wp S (d + 6) 214 143 [some (.ref 43), some (.int p1), some (.int l2), some (.int (nI (if (decide (0 < nb P 64) || decide (0 < nb (fun i => decide (gN g (592 + 3 * i) = 0)) i)) = true then 1 else 0))), some (.int (nI i)), none] [.int s0] (wv x I1 J1) (rI x Q) := by
          intro s0 l2 e0
          subst e0
          refine v214_43_143 ?_
          rw [a1, a2, nI_clamp (by omega), eg, c2, ← nI_succ]
          cases y : (decide (0 < nb P 64) || decide (0 < nb (fun i => decide (gN g (592 + 3 * i) = 0)) i)) with
          | true =>
            rw [y] at i2
            exact ⟨fun w => absurd w (by decide), fun _ => i2⟩
          | false =>
            rw [y] at i2
            refine ⟨fun _ => ⟨nI_in (by omega) (by omega), fun w => ?_, fun w => ?_⟩, fun w => absurd rfl w⟩
            · rw [decide_eq_true (nI_ij (b := 0) (by omega) (by omega) w)] at i2
              exact i2
            · rw [decide_eq_false (show ¬ gN g (592 + 3 * i) = 0 from fun v => w (by rw [v]; rfl))] at i2
              exact i2
        refine v214_43_96 ⟨by decide, fun _ => ?_, fun q => absurd (by rw [z590, eg, hI.2.2.2.1]; exact nI_lt (by omega) (by omega)) q⟩
        rw [a1, nI_clamp (by omega), eg, c1]
        refine ⟨nI_in (by omega) (by omega), fun q => ⟨nI_in (by omega) (by omega), mid _ _ ?_⟩, fun q => mid _ _ ?_⟩
        · have q := (nI_ltI (by omega) (by omega)).mp q
          show _ = nI (if mxC g (mxR g (gN g 0)) i < gN g (591 + 3 * i) then gN g (591 + 3 * i) else mxC g (mxR g (gN g 0)) i)
          rw [if_pos q]
        · have q : ¬ mxC g (mxR g (gN g 0)) i < gN g (591 + 3 * i) := fun z => q (nI_lt z (by omega))
          show _ = nI (if mxC g (mxR g (gN g 0)) i < gN g (591 + 3 * i) then gN g (591 + 3 * i) else mxC g (mxR g (gN g 0)) i)
          rw [if_neg q]
    have ro : ∀ (n r : Nat), r + n = gN g 0 → wp S (d + 6) 214 43 [some (.ref 43), some (.int p1), some (.int (nI (mxR g r))), some (.int (nI (if decide (0 < nb P 64) = true then 1 else 0))), some (.int (nI r)), none] [] (wv x I1 J1) (rI x Q) := by
      intro n
      induction n with
      | zero =>
        intro r hr
        have hr : r = gN g 0 := by omega
        subst hr
        have c0 := cu (gN g 590) 0 (by omega)
        rw [show nb (fun i => decide (gN g (592 + 3 * i) = 0)) 0 = 0 from rfl, show decide (0 < 0) = false from rfl, Bool.or_false] at c0
        exact v214_43_43 ⟨by decide, fun q => absurd q (by rw [z0, eg, hI.1 0 (by omega)]; exact nI_nlt (Nat.le_refl _) (by omega)), fun _ => c0⟩
      | succ n ih =>
        intro r hr
        obtain ⟨-, -, l78, b78⟩ := hI.2.2.1 r (by omega)
        have lr := lR r (by omega)
        have i78 : ((78 : Int32) + nI r).toNatClampNeg = 78 + r := by
          show (nI 78 + nI r).toNatClampNeg = _
          rw [nI_add, nI_clamp (by omega)]
        have o78 : ¬ mOut ((78 : Int32) + nI r) 681 := by
          show ¬ mOut (nI 78 + nI r) 681
          rw [nI_add]
          exact nI_in (by omega) (by omega)
        have tv : (nI (gN g (78 + r)) - (1 : Int32)).toInt = (gN g (78 + r) : Int) - 1 := i_sub (nI_toInt (by omega)) (by decide : (1 : Int32).toInt = 1) (by omega)
        have tm : (nI (mxR g r)).toInt = (mxR g r : Int) := nI_toInt (by omega)
        refine v214_43_43 ⟨by decide, fun _ => ⟨o78, ?_⟩, fun q => absurd (by rw [z0, eg, hI.1 0 (by omega)]; exact nI_lt (by omega) (by omega)) q⟩
        rw [i78, eg, l78, ← nI_succ]
        have i2 := ih (r + 1) (by omega)
        rw [show mxR g (r + 1) = if mxR g r < gN g (78 + r) - 1 then gN g (78 + r) - 1 else mxR g r from rfl] at i2
        refine ⟨fun q => ⟨o78, ?_⟩, fun q => ?_⟩
        · have q := i_lt q
          have e : nI (gN g (78 + r)) - (1 : Int32) = nI (gN g (78 + r) - 1) := by
            rw [← Int32.toInt_inj, tv, nI_toInt (by omega)]
            omega
          rw [if_pos (by omega)] at i2
          rw [e]
          exact i2
        · have q := i_nlt q
          rw [if_neg (by omega)] at i2
          exact i2
    have ez : J1 43 16 = 0 ↔ decide (0 < nb P 64) = false := by
      have eP : ∀ s, s < 64 → bits5 (J1 43 16) s = P s := fun s hs => by rw [f.2.2.2 16 (by omega)]; exact e1 s hs
      rw [b5_z, decide_eq_false_iff_not, nb_pos]
      constructor
      · rintro h ⟨i, hi, y⟩
        rw [← eP i hi, h i hi] at y
        cases y
      · intro h s hs
        rw [eP s hs]
        exact ts_nt (fun y => h ⟨s, hs, y⟩)
    have r0 := ro (gN g 0) 0 (by omega)
    refine ⟨fun z => ?_, fun z => ?_⟩
    · rw [ez.mp (lg_z.mp z)] at r0
      exact r0
    · rw [show decide (0 < nb P 64) = true from ts_nf (fun y => z (lg_z.mpr (ez.mpr y)))] at r0
      exact r0
  · rw [hh, if_neg (by decide)] at k0
    exact k0
end AJ0
end
