/-! trials: coalitions of the reference; cheapest, hush and coalitions of the class -/
section TR3
def coalV (g : Nat → Int32) (W : Nat → lV) (P H : Nat → Bool) (b : Nat → Int32) (n : Nat) (p : Int32) : Int32 := if hdB g b n = true then coG (mnB (fun X => crB g W (paB P b n X) H)) p (2 ^ n) 0 else -2
variable {S : Nat × (Nat → Int32)} {d : Nat} {x : mX} {I I1 I2 : rI0} {J J1 J2 : rJ0} {g b : Nat → Int32} {W : Nat → lV} {P H : Nat → Bool}
theorem FU.s {a q : Nat} {v : Int32} (f : FU I J I1 J1) (h : a = 57 ∨ a = 58) : FU I J (mSet I1 a q v) J1 := ⟨fun b h1 h2 h3 => (mSet_ne (by omega)).trans (f.1 b h1 h2 h3), fun q' h1 h2 h3 h4 h5 => by rw [mSet_ne (by omega)]; exact f.2.1 q' h1 h2 h3 h4 h5, f.2.2.1, f.2.2.2.1, by rw [mSet_ne (by omega)]; exact f.2.2.2.2⟩
theorem RH.s {a q : Nat} {v : Int32} (h : RH g W I J) (ha : a = 57 ∨ a = 58) : RH g W (mSet I a q v) J := ⟨h.1, h.2.1, h.2.2.1, h.2.2.2.1, (mSet_ne (by omega)).trans h.2.2.2.2.1, fun z => h.2.2.2.2.2 (by rw [mSet_ne (by omega)] at z; exact z)⟩
theorem ni_01 {c : Bool} : vp_nar .boolean (nI (if c = true then 1 else 0)) = nI (if c = true then 1 else 0) := by
  cases c <;> decide
theorem r222x {n : Nat} {p : Int32} {Q : Int32 → rI0 → rJ0 → Prop} (hR : RH g W I J) (h3 : gN g 3 ≤ 64) (e16 : ∀ s, s < 64 → bits5 (J 43 16) s = P s) (e17 : ∀ s, s < 64 → bits5 (J 43 17) s = H s) (hb : ∀ i, i < 940 → I 44 i &&& 255 = b i) (e2 : I 43 2 = nI n) (hn : n ≤ 940) (k : ∀ I' J', FU I J I' J' → RH g W I' J' → Q (coalV g W P H b n p) I' J') : wcI S (d + 6) 222 [.ref 43, .int p] x I J Q := by
  refine c222_43 (d := d + 5) (rHd (d := d + 2) (n := n) (b := b) hR hb e2 hn (fun h I1 f r => ⟨fun _ => ?_, fun z => absurd rfl z⟩) (fun h I1 f r e47 h56 => ⟨fun z => absurd z (by decide), fun _ => ⟨fun q => ?_, fun q => ?_⟩⟩))
  · have kk := k I1 J f r
    unfold coalV at kk
    rw [h] at kk
    exact kk
  · have kk := k I1 J f r
    obtain ⟨n1, n8, hu⟩ := hdB_t h
    have h8 := pw_8 n8
    unfold coalV at kk
    rw [if_pos h, coG_n (2 ^ n) 0 (fun Y _ hY _ z => ?_), if_neg (fun z => ?_)] at kk
    · exact kk
    · rw [z] at q
      exact absurd q (by decide)
    · rw [← z] at q
      have a := nb_le (p := mnB (fun X => crB g W (paB P b n X) H)) Y
      rw [Int32.lt_iff_toInt_lt, nI_toInt (by omega)] at q
      have e : (-1 : Int32).toInt = -1 := by decide
      omega
  · obtain ⟨n1, n8, hu⟩ := hdB_t h
    have h8 := pw_8 n8
    have kk : ∀ I' J', FU I J I' J' → RH g W I' J' → Q (coG (mnB (fun X => crB g W (paB P b n X) H)) p (2 ^ n) 0) I' J' := by
      intro I' J' h1 h2
      have kk := k I' J' h1 h2
      unfold coalV at kk
      rw [if_pos h] at kk
      exact kk
    revert kk
    generalize hcr : (fun X => crB g W (paB P b n X) H) = cr
    intro kk
    have lp : ∀ (j X : Nat) (I2 : rI0) (J2 : rJ0), X + j = 2 ^ n → FU I J I2 J2 → RH g W I2 J2 → I2 43 47 = nI n → (∀ j, j < n → I2 56 j = b j) → (∀ Y, Y < X → I2 57 Y = nI (if cr Y = true then 1 else 0)) → (∀ I' J', FU I J I' J' → RH g W I' J' → Q (coG (mnB cr) p j X) I' J') → wp S (d + 6) 222 26 [some (.ref 43), some (.int p), some (.int (nI (nb (mnB cr) X))), some (.int (nI X)), none, none] [] (wv x I2 J2) (rI x Q) := by
      intro j
      induction j with
      | zero =>
        intro X I2 J2 hX f2 r2 e47b h56b h57 c
        have hX : X = 2 ^ n := by omega
        subst hX
        have cc : Q (if p = -1 then nI (nb (mnB cr) (2 ^ n)) else -1) I2 J2 := c I2 J2 f2 r2
        refine v222_43_26 ⟨fun q => absurd q (by rw [e47b, sh_1 n (by omega)]; exact nI_nlt (Nat.le_refl _) (by omega)), fun _ => ⟨fun z => ?_, fun z => ?_⟩⟩
        · rw [if_pos z] at cc
          exact cc
        · rw [if_neg z] at cc
          exact cc
      | succ j ih =>
        intro X I2 J2 hX f2 r2 e47b h56b h57 c
        have hl := nb_le (p := mnB cr) X
        have c : ∀ I' J', FU I J I' J' → RH g W I' J' → Q (if (mnB cr X && decide (nI (nb (mnB cr) X) = p)) = true then nI X else coG (mnB cr) p j (X + 1)) I' J' := c
        refine v222_43_26 (d := d + 5) ⟨fun _ => r218x (d := d + 4) (b := b) (n := n) (g := g) e47b h56b n8 (by omega) hu (fun v hv => rht (d := d) (P := paB P b n X) (H := H) r2 h3 (paB_e (fun s hs => by rw [f2.2.2.2.1 16 (by omega)]; exact e16 s hs) hv) (fun s hs => by rw [f2.2.2.2.1 17 (by omega)]; exact e17 s hs) (fun I3 J3 f3 h4 h44 h45 => ⟨nI_in (by omega) (by omega), ?_⟩)), fun q => absurd (by rw [e47b, sh_1 n (by omega)]; exact nI_lt (by omega) (by omega)) q⟩
        have ec : I3 43 45 = nI (if cr X = true then 1 else 0) := by
          rw [h45, ← hcr]
          show _ = nI (if decide (gN g 3 ≤ hgt g W (paB P b n X) H 60) = true then 1 else 0)
          by_cases z : gN g 3 ≤ hgt g W (paB P b n X) H 60
          · rw [if_pos z, decide_eq_true z]
            rfl
          · rw [if_neg z, decide_eq_false z]
            rfl
        rw [ec, ni_01, nI_clamp (by omega)]
        have f4 : FU I J (mSet I3 57 X (nI (if cr X = true then 1 else 0))) J3 := (f2.h f3).s (Or.inl rfl)
        have r4 : RH g W (mSet I3 57 X (nI (if cr X = true then 1 else 0))) J3 := h4.h.s (Or.inl rfl)
        have e47d : (mSet I3 57 X (nI (if cr X = true then 1 else 0))) 43 47 = nI n := (f3.2.1 47 (by decide) (by omega)).trans e47b
        have h56d : ∀ j, j < n → (mSet I3 57 X (nI (if cr X = true then 1 else 0))) 56 j = b j := fun j hj => by
          rw [mSet_ne (by decide), f3.1 56 (by decide) (by decide)]
          exact h56b j hj
        have h57d : ∀ Y, Y < X + 1 → (mSet I3 57 X (nI (if cr X = true then 1 else 0))) 57 Y = nI (if cr Y = true then 1 else 0) := fun Y hY => by
          unfold mSet va_up
          rw [if_pos rfl]
          by_cases z : Y = X
          · rw [z, if_pos rfl]
          · rw [if_neg z, f3.1 57 (by decide) (by decide)]
            exact h57 Y (by omega)
        revert f4 r4 e47d h56d h57d
        generalize mSet I3 57 X (nI (if cr X = true then 1 else 0)) = I4
        intro f4 r4 e47d h56d h57d
        have no : mnB cr X = false → wp S (d + 6) 222 26 [some (.ref 43), some (.int p), some (.int (nI (nb (mnB cr) X))), some (.int (nI X + 1)), none, none] [] (wv x I4 J3) (rI x Q) := by
          intro m
          rw [m, Bool.false_and] at c
          have i2 := ih (X + 1) I4 J3 (by omega) f4 r4 e47d h56d h57d (fun I' J' h1 h2 => c I' J' h1 h2)
          rw [nb_s, m, if_neg (by decide), Nat.add_zero] at i2
          rw [← nI_succ]
          exact i2
        have inn : ∀ (q i : Nat), i + q = X → wp S (d + 6) 222 74 [some (.ref 43), some (.int p), some (.int (nI (nb (mnB cr) X))), some (.int (nI X)), some (.int (nI (if (cr X && decide (nb (fun Y => sbB Y X && cr Y) i = 0)) = true then 1 else 0))), some (.int (nI i))] [] (wv x I4 J3) (rI x Q) := by
          intro q
          induction q with
          | zero =>
            intro i hi
            have hi : i = X := by omega
            subst hi
            refine v222_43_74 ⟨fun w => absurd w (nI_nlt (Nat.le_refl _) (by omega)), fun _ => ?_⟩
            rw [show (cr i && decide (nb (fun Y => sbB Y i && cr Y) i = 0)) = mnB cr i from rfl]
            cases m : mnB cr i with
            | false => exact ⟨fun _ => no m, fun z => absurd rfl z⟩
            | true =>
              rw [m, Bool.true_and] at c
              refine ⟨fun z => absurd z (by decide), fun _ => ⟨fun z => ?_, fun z => ?_⟩⟩
              · have cc := c I4 J3 f4 r4
                rw [decide_eq_true z] at cc
                exact cc
              · rw [decide_eq_false z] at c
                have i2 := ih (i + 1) I4 J3 (by omega) f4 r4 e47d h56d h57d (fun I' J' h1 h2 => c I' J' h1 h2)
                rw [nb_s, m, if_pos rfl] at i2
                rw [← nI_succ, ← nI_succ]
                exact i2
          | succ q ihq =>
            intro i hi
            have i2 := ihq (i + 1) (by omega)
            have hm : ∀ m, i ≤ m → m ≤ X → (cr X && decide (nb (fun Y => sbB Y X && cr Y) i = 0)) = false → (cr X && decide (nb (fun Y => sbB Y X && cr Y) m = 0)) = false := by
              intro m h1 h2 h5
              cases z : cr X with
              | false => rfl
              | true =>
                rw [z, Bool.true_and] at h5
                have h5 := of_decide_eq_false h5
                have := nb_mo (p := fun Y => sbB Y X && cr Y) (a := i) m h1
                rw [Bool.true_and]
                exact decide_eq_false (by omega)
            refine v222_43_74 ⟨fun _ => ?_, fun w => absurd (nI_lt (by omega) (by omega)) w⟩
            cases y : (cr X && decide (nb (fun Y => sbB Y X && cr Y) i = 0)) with
            | false =>
              exact ⟨fun _ => ⟨fun _ => no (hm X (by omega) (Nat.le_refl _) y), fun z => absurd rfl z⟩, fun z => absurd rfl z⟩
            | true =>
              rw [Bool.and_eq_true, decide_eq_true_iff] at y
              have es : (cr X && decide (nb (fun Y => sbB Y X && cr Y) (i + 1) = 0)) = !(sbB i X && cr i) := by
                rw [y.1, nb_s, y.2, Bool.true_and]
                cases (sbB i X && cr i) <;> rfl
              rw [es] at i2
              have sr := sb_r X (by omega) i (by omega)
              refine ⟨fun z => absurd z (by decide), fun _ => ⟨fun z => ⟨nI_in (by omega) (by omega), ?_⟩, fun z => ?_⟩⟩
              · rw [decide_eq_true z] at sr
                rw [← sr, Bool.true_and] at i2
                rw [nI_clamp (by omega), h57d i (by omega), ← nI_succ]
                cases w : cr i with
                | true =>
                  rw [w] at i2
                  exact ⟨fun z => absurd z (by decide), fun _ => i2⟩
                | false =>
                  rw [w] at i2
                  exact ⟨fun _ => i2, fun z => absurd rfl z⟩
              · rw [decide_eq_false z] at sr
                rw [← sr, Bool.false_and] at i2
                rw [← nI_succ]
                exact i2
        have st := inn X 0 (by omega)
        have e0 : (cr X && decide (nb (fun Y => sbB Y X && cr Y) 0 = 0)) = cr X := by
          rw [show nb (fun Y => sbB Y X && cr Y) 0 = 0 from rfl]
          exact Bool.and_true _
        rw [e0] at st
        exact st
    exact lp (2 ^ n) 0 I1 J (by omega) f r e47 h56 (fun Y hY => absurd hY (Nat.not_lt_zero _)) kk
/-! the class -/
def FC (I : rI0) (J : rJ0) (I' : rI0) (J' : rJ0) : Prop := (∀ b, b ≠ 1 → b ≠ 38 → b ≠ 39 → b ≠ 41 → I' b = I b) ∧ (∀ q, q ≠ 1 → I' 1 q = I 1 q) ∧ I' 1 1 = 0 ∧ ∀ b, b ≠ 41 → J' b = J b
theorem FK.c (f : FK (mSet I 1 1 0) J I1 J1) : FC I J I1 J1 := ⟨fun b h1 h2 h3 h4 => (f.1 b h2 h3 h4).trans (mSet_ne h1), fun q h => by rw [f.1 1 (by decide) (by decide) (by decide)]; unfold mSet va_up; rw [if_pos rfl, if_neg h], by rw [f.1 1 (by decide) (by decide) (by decide)]; rfl, f.2⟩
theorem CE.tk (h : CE g W P H I J) : CE g W P H (mSet I 1 1 0) J := h
theorem xHd {n : Nat} {Q : Int32 → rI0 → rJ0 → Prop} (hC : CE g W P H I J) (hn : n ≤ 940) (k0 : hdB g (I 2) n = false → Q 0 (mSet I 1 1 0) J) (k1 : hdB g (I 2) n = true → Q 1 (mSet I 1 1 0) J) : wcI S (d + 2) 80 [.ref 37, .int (nI n)] x (mSet I 1 1 0) J Q := by
  refine c80x (d := d) (g := g) (b := I 2) hC.tk.2.1.2.2.2.2.1 rfl hn ?_
  cases y : hdB g (I 2) n with
  | false =>
    have z := y
    unfold hdB at z
    rw [z]
    exact k0 y
  | true =>
    have z := y
    unfold hdB at z
    rw [z]
    exact k1 y
theorem xCheap {n : Nat} {Q : Int32 → rI0 → rJ0 → Prop} (hC : CE g W P H I J) (hp : ∀ r, r < 8 → I 7 r = nI (gN g (70 + r))) (hpl : ∀ r, r < 8 → gN g (70 + r) ≤ 999) (e1 : I 1 1 = nI n) (hn : n ≤ 940) (k : ∀ I' J', FC I J I' J' → Q (cheV g W P H (I 2) n) (stI I' 37 8 (chB g W P H (I 2) n)) J') : wcI S (d + 24) 119 [.ref 0] x I J Q := by
  refine c119_0 (d := d + 23) (c67_1 ?_)
  rw [e1]
  refine xHd (d := d + 21) hC hn (fun h => ⟨fun _ => ?_, fun z => absurd rfl z⟩) (fun h => ⟨fun z => absurd z (by decide), fun _ => ?_⟩)
  · have kk := k _ _ (FK.rf.c)
    unfold cheV stI chB at kk
    rw [h] at kk
    exact kk
  · obtain ⟨n1, n8, hu⟩ := hdB_t h
    have hC1 := hC.tk
    refine c84x (d := d) (b := I 2) hC1.1 hC1.2.1 hC1.2.2.2.2.2.1 hC1.2.2.2.2.2.2 hC1.2.2.1 hC1.2.2.2.1 hC1.2.2.2.2.1 (fun r hr => hp r hr) hpl rfl n8 hu (fun I' J' f => ?_)
    have kk := k I' J' f.k.c
    unfold cheV stI chB at kk
    rw [if_pos h, if_pos h] at kk
    exact kk
theorem xHush {n : Nat} {Q : Int32 → rI0 → rJ0 → Prop} (hC : CE g W P H I J) (e1 : I 1 1 = nI n) (hn : n ≤ 940) (k : ∀ I' J', FC I J I' J' → Q (hushV g W P H (I 2) n) I' J') : wcI S (d + 24) 121 [.ref 0] x I J Q := by
  refine c121_0 (d := d + 23) (c67_1 ?_)
  rw [e1]
  refine xHd (d := d + 21) hC hn (fun h => ⟨fun _ => ?_, fun z => absurd rfl z⟩) (fun h => ⟨fun z => absurd z (by decide), fun _ => ?_⟩)
  · have kk := k _ _ (FK.rf.c)
    unfold hushV at kk
    rw [h] at kk
    exact kk
  · obtain ⟨n1, n8, hu⟩ := hdB_t h
    have hC1 := hC.tk
    refine c85x (d := d) (b := I 2) hC1.1 hC1.2.1 hC1.2.2.2.2.2.1 hC1.2.2.2.2.2.2 hC1.2.2.1 hC1.2.2.2.1 hC1.2.2.2.2.1 rfl n8 hu (fun I' J' f => ?_)
    have kk := k I' J' f.k.c
    unfold hushV at kk
    rw [if_pos h] at kk
    exact kk
theorem xCoal {n : Nat} {p : Int32} {Q : Int32 → rI0 → rJ0 → Prop} (hC : CE g W P H I J) (e1 : I 1 1 = nI n) (hn : n ≤ 940) (k : ∀ I' J', FC I J I' J' → Q (coalV g W P H (I 2) n p) I' J') : wcI S (d + 24) 122 [.ref 0, .int p] x I J Q := by
  refine c122_0 (d := d + 23) (c67_1 ?_)
  rw [e1]
  refine xHd (d := d + 21) hC hn (fun h => ⟨fun _ => ?_, fun z => absurd rfl z⟩) (fun h => ⟨fun z => absurd z (by decide), fun _ => ?_⟩)
  · have kk := k _ _ (FK.rf.c)
    unfold coalV at kk
    rw [h] at kk
    exact kk
  · obtain ⟨n1, n8, hu⟩ := hdB_t h
    have h8 := pw_8 n8
    have hC1 := hC.tk
    refine c86x (d := d) (b := I 2) hC1 rfl n8 hu (fun I' J' f hF => ?_)
    have kk := k I' J' f.c
    unfold coalV at kk
    rw [if_pos h] at kk
    revert kk hF
    generalize (mnB (fun X => crB g W (paB P (I 2) n X) H)) = mn
    intro hF kk
    have hl := nb_le (p := mn) (2 ^ n)
    have lt : ∀ Y, Y < 2 ^ n → mn Y = true → nb mn Y < nb mn (2 ^ n) := by
      intro Y hY h1
      have a := nb_mo (p := mn) (a := Y + 1) (2 ^ n) (by omega)
      rw [nb_s, if_pos h1] at a
      omega
    have e1 : (-1 : Int32).toInt = -1 := by decide
    refine ⟨fun z => ?_, fun z => ⟨fun q => ?_, fun q => ⟨fun q2 => ?_, fun q2 => ?_⟩⟩⟩
    · rw [coG_n (2 ^ n) 0 (fun Y _ hY h1 w => ?_), if_pos z, Nat.zero_add] at kk
      · exact kk
      · rw [z] at w
        have := lt Y (by omega) h1
        exact absurd w (nI_n1 (by omega))
    · rw [coG_n (2 ^ n) 0 (fun Y _ hY h1 w => ?_), if_neg z] at kk
      · exact kk
      · rw [← w] at q
        have := lt Y (by omega) h1
        exact absurd q (nI_n0 (by omega))
    · rw [Int32.lt_iff_toInt_lt] at q q2
      rw [nI_toInt (by omega)] at q2
      have e0 : (0 : Int32).toInt = 0 := by decide
      have ep : p = nI p.toInt.toNat := Int32.toInt_inj.mp (by rw [nI_toInt (by omega)]; omega)
      obtain ⟨Y, hY, h1, h2⟩ := nb_ix (p := mn) (2 ^ n) p.toInt.toNat (by omega)
      rw [coG_y (Y := Y) (by omega) h1 (by rw [h2]; exact ep.symm) (2 ^ n) 0 (Nat.zero_le _) (by omega)] at kk
      have e39 := hF Y hY h1
      rw [h2] at e39
      rw [ep, nI_clamp (by omega), e39]
      exact ⟨nI_in (by omega) (by omega), kk⟩
    · rw [coG_n (2 ^ n) 0 (fun Y _ hY h1 w => ?_), if_neg z] at kk
      · exact kk
      · rw [← w] at q2
        exact absurd (nI_lt (lt Y (by omega) h1) (by omega)) q2
end TR3
