/-! trials: the best set of hands, the reference -/
section TR1
def hdB (g b : Nat → Int32) (n : Nat) : Bool := decide (1 ≤ n ∧ n ≤ 8) && ulB g b 0 n
def chB (g : Nat → Int32) (W : Nat → lV) (P H : Nat → Bool) (b : Nat → Int32) (n : Nat) : Nat := if hdB g b n = true then chN (fun X => crB g W (paB P b n X) H) (fun X => psN g b X n) (2 ^ n) else 256
def cheV (g : Nat → Int32) (W : Nat → lV) (P H : Nat → Bool) (b : Nat → Int32) (n : Nat) : Int32 := if hdB g b n = true then cpI (fun X => psN g b X n) (chB g W P H b n) else -2
def hushV (g : Nat → Int32) (W : Nat → lV) (P H : Nat → Bool) (b : Nat → Int32) (n : Nat) : Int32 := if hdB g b n = true then bI (chN (fun X => !crB g W P (paB H b n X)) (fun _ => 0) (2 ^ n)) else -2
def stI (I : rI0) (a q B : Nat) : rI0 := if B = 256 then I else mSet I a q (nI B)
/-- what a trial of the reference leaves as it was -/
def FU (I : rI0) (J : rJ0) (I' : rI0) (J' : rJ0) : Prop := (∀ b, b ≠ 43 → b ≠ 50 → ¬ (56 ≤ b ∧ b ≤ 58) → I' b = I b) ∧ (∀ q, q ≠ 0 → ¬ (2 ≤ q ∧ q ≤ 5) → q ≠ 30 → ¬ (42 ≤ q ∧ q ≤ 45) → q ≠ 47 → I' 43 q = I 43 q) ∧ (∀ b, b ≠ 43 → ¬ (51 ≤ b ∧ b ≤ 55) → J' b = J b) ∧ (∀ q, ¬ (36 ≤ q ∧ q ≤ 41) → J' 43 q = J 43 q) ∧ I' 43 2 = 0
variable {S : Nat × (Nat → Int32)} {d : Nat} {x : mX} {I I1 I2 : rI0} {J J1 J2 : rJ0} {g b : Nat → Int32} {W : Nat → lV} {P H : Nat → Bool}
theorem FU.h (f : FU I J I1 J1) (h : FH I1 J1 I2 J2) : FU I J I2 J2 := ⟨fun b h1 h2 h3 => (h.1 b h1 h2).trans (f.1 b h1 h2 h3), fun q h1 h2 h3 h4 h5 => (h.2.1 q h3 h4).trans (f.2.1 q h1 h2 h3 h4 h5), fun b h1 h2 => (h.2.2.1 b h1 h2).trans (f.2.2.1 b h1 h2), fun q h1 => (h.2.2.2 q h1).trans (f.2.2.2.1 q h1), (h.2.1 2 (by decide) (by omega)).trans f.2.2.2.2⟩
theorem FT.u {v : Int32} (f : FT (mSet I 43 0 v) I1) : FU I J I1 J := ⟨fun b h1 h2 h3 => (f.1 b h1 (by omega)).trans (mSet_ne h1), fun q h1 h2 _ _ h5 => (f.2.1 q h2 h5).trans (by unfold mSet va_up; rw [if_pos rfl, if_neg h1]), fun _ _ _ => rfl, fun _ _ => rfl, f.2.2⟩
theorem RH.ft (h : RH g W I J) (f : FT I I1) : RH g W I1 J := ⟨h.1, h.2.1, h.2.2.1, h.2.2.2.1, (f.1 45 (by decide) (by decide)).trans h.2.2.2.2.1, fun z => h.2.2.2.2.2 ((f.2.1 30 (by omega) (by decide)).symm.trans z)⟩
/-- areEight -/
theorem rHd {n : Nat} {Q : Int32 → rI0 → rJ0 → Prop} (hR : RH g W I J) (hb : ∀ i, i < 940 → I 44 i &&& 255 = b i) (e2 : I 43 2 = nI n) (hn : n ≤ 940) (k0 : hdB g b n = false → ∀ I', FU I J I' J → RH g W I' J → Q 0 I' J) (k1 : hdB g b n = true → ∀ I', FU I J I' J → RH g W I' J → I' 43 47 = nI n → (∀ j, j < n → I' 56 j = b j) → Q 1 I' J) : wcI S (d + 3) 217 [.ref 43] x (mSet I 43 0 0) J Q := by
  have hR1 : RH g W (mSet I 43 0 0) J := hR.t
  refine r217x (b := b) (d := d) hR1.1 hR1.2.1 hR1.2.2.2.2.1 (fun i hi => hb i hi) (show mSet I 43 0 0 43 2 = nI n from e2) hn (fun I1 f h => ?_)
  cases y : hdB g b n with
  | false =>
    unfold hdB at y
    rw [y]
    exact k0 (by unfold hdB; exact y) I1 f.u (hR1.ft f)
  | true =>
    unfold hdB at y
    rw [y] at h ⊢
    exact k1 (by unfold hdB; exact y) I1 f.u (hR1.ft f) (h rfl).1 (h rfl).2
theorem hdB_t {n : Nat} (h : hdB g b n = true) : 1 ≤ n ∧ n ≤ 8 ∧ ulB g b 0 n = true := by
  unfold hdB at h
  rw [Bool.and_eq_true, decide_eq_true_iff] at h
  exact ⟨h.1.1, h.1.2, h.2⟩
theorem rpI_n {ps : Nat → Nat} {B : Nat} : rpI ps B = nI (if B = 256 then 1000000000 else ps B) := by
  unfold rpI
  split
  · rfl
  · rfl
theorem bI_0 {B : Nat} (h : B = 256) : bI B = -1 := if_pos h
/-- the reference: cheapest -/
theorem r219x {n : Nat} {Q : Int32 → rI0 → rJ0 → Prop} (hR : RH g W I J) (h3 : gN g 3 ≤ 64) (e16 : ∀ s, s < 64 → bits5 (J 43 16) s = P s) (e17 : ∀ s, s < 64 → bits5 (J 43 17) s = H s) (hb : ∀ i, i < 940 → I 44 i &&& 255 = b i) (e2 : I 43 2 = nI n) (hn : n ≤ 940) (k : ∀ I' J', FU I J I' J' → RH g W I' J' → Q (cheV g W P H b n) (stI I' 43 48 (chB g W P H b n)) J') : wcI S (d + 6) 219 [.ref 43] x I J Q := by
  refine c219_43 (d := d + 5) (rHd (d := d + 2) (n := n) (b := b) hR hb e2 hn (fun h I1 f r => ⟨fun _ => ?_, fun z => absurd rfl z⟩) (fun h I1 f r e47 h56 => ⟨fun z => absurd z (by decide), fun _ => ?_⟩))
  · have kk := k I1 J f r
    unfold cheV stI chB at kk
    rw [h] at kk
    exact kk
  obtain ⟨n1, n8, hu⟩ := hdB_t h
  have h8 := pw_8 n8
  have hG := hR.1
  have hI := hR.2.1
  have pl : ∀ Y, psN g b Y n ≤ 7992 := fun Y => by
    have := psN_l (X := Y) (fun r hr => (hI.2.2.1 r hr).2.1) hG n hu
    omega
  have lp : ∀ (j X : Nat) (I2 : rI0) (J2 : rJ0), X + j = 2 ^ n → FH I1 J I2 J2 → RH g W I2 J2 → wp S (d + 6) 219 23 [some (.ref 43), some (.int (bI (chN (fun X => crB g W (paB P b n X) H) (fun X => psN g b X n) X))), some (.int (rpI (fun X => psN g b X n) (chN (fun X => crB g W (paB P b n X) H) (fun X => psN g b X n) X))), some (.int (nI X)), none, none] [] (wv x I2 J2) (rI x Q) := by
    intro j
    induction j with
    | zero =>
      intro X I2 J2 hX f2 r2
      have hX : X = 2 ^ n := by omega
      subst hX
      have kk := k I2 J2 (f.h f2) r2
      have cl := chN_l (cr := fun X => crB g W (paB P b n X) H) (ps := fun X => psN g b X n) (2 ^ n) h8
      have ee : chB g W P H b n = chN (fun X => crB g W (paB P b n X) H) (fun X => psN g b X n) (2 ^ n) := by
        unfold chB
        rw [if_pos h]
      have e47b : I2 43 47 = nI n := (f2.2.1 47 (by decide) (by omega)).trans e47
      unfold cheV at kk
      rw [if_pos h, ee] at kk
      revert kk cl
      generalize chN (fun X => crB g W (paB P b n X) H) (fun X => psN g b X n) (2 ^ n) = B
      intro kk cl
      unfold cpI stI at kk
      refine v219_43_23 ⟨fun q => absurd q (by rw [e47b, sh_1 n (by omega)]; exact nI_nlt (Nat.le_refl _) (by omega)), fun _ => ⟨fun z => ?_, fun z => ?_⟩⟩
      · by_cases y : B = 256
        · rw [if_pos y, if_pos y] at kk
          exact kk
        · rw [bI_y (by omega)] at z
          exact absurd z (nI_n0 (by omega))
      · by_cases y : B = 256
        · rw [bI_0 y] at z
          exact absurd (by decide) z
        · rw [if_neg y, if_neg y] at kk
          rw [bI_y (by omega), show rpI (fun X => psN g b X n) B = nI (psN g b B n) from if_neg y]
          exact kk
    | succ j ih =>
      intro X I2 J2 hX f2 r2
      have cl := chN_l (cr := fun X => crB g W (paB P b n X) H) (ps := fun X => psN g b X n) X (by omega)
      have yes := @chN_y (cr := fun X => crB g W (paB P b n X) H) (ps := fun X => psN g b X n) X
      have noo := @chN_n (cr := fun X => crB g W (paB P b n X) H) (ps := fun X => psN g b X n) X
      have e47b : I2 43 47 = nI n := (f2.2.1 47 (by decide) (by omega)).trans e47
      have h56b : ∀ j, j < n → I2 56 j = b j := fun j hj => by rw [f2.1 56 (by decide) (by decide)]; exact h56 j hj
      have j16 : J2 43 16 = J 43 16 := f2.2.2.2 16 (by omega)
      have j17 : J2 43 17 = J 43 17 := f2.2.2.2 17 (by omega)
      have ih0 := ih (X + 1)
      revert cl yes noo ih0
      generalize chN (fun X => crB g W (paB P b n X) H) (fun X => psN g b X n) (X + 1) = B1
      generalize chN (fun X => crB g W (paB P b n X) H) (fun X => psN g b X n) X = B
      intro cl yes noo ih0
      have nx : btB (fun X => psN g b X n) B X = false → wp S (d + 6) 219 23 [some (.ref 43), some (.int (bI B)), some (.int (rpI (fun X => psN g b X n) B)), some (.int (nI X + 1)), none, none] [] (wv x I2 J2) (rI x Q) := by
        intro hb
        have e := noo (by rw [hb, Bool.false_and])
        subst e
        rw [← nI_succ]
        exact ih0 I2 J2 (by omega) f2 r2
      have mid : btB (fun X => psN g b X n) B X = true → wp S (d + 6) 219 111 [some (.ref 43), some (.int (bI B)), some (.int (rpI (fun X => psN g b X n) B)), some (.int (nI X)), some (.int (nI (psN g b X n))), some (.int (nI n))] [] (wv x I2 J2) (rI x Q) := by
        intro hb
        refine v219_43_111 (d := d + 5) (r218x (d := d + 4) (b := b) (n := n) (g := g) e47b h56b n8 (by omega) hu (fun v hv => rht (d := d) (P := paB P b n X) (H := H) r2 h3 (paB_e (by rw [j16]; exact e16) hv) (by rw [j17]; exact e17) (fun I3 J3 f3 h4 h44 h45 => ?_)))
        rw [h45]
        by_cases c : gN g 3 ≤ hgt g W (paB P b n X) H 60
        · rw [if_pos c]
          refine ⟨fun z => absurd z (by decide), fun _ => ?_⟩
          have e := yes (by
            rw [hb, Bool.true_and]
            exact decide_eq_true c)
          subst e
          rw [← nI_succ]
          have := ih0 I3 J3 (by omega) (f2.tr f3) h4.h
          unfold rpI at this
          rw [bI_y (by omega), if_neg (by omega)] at this
          exact this
        · rw [if_neg c]
          refine ⟨fun _ => ?_, fun z => absurd rfl z⟩
          have e := noo (by
            rw [hb, Bool.true_and]
            exact decide_eq_false c)
          subst e
          rw [← nI_succ]
          exact ih0 I3 J3 (by omega) (f2.tr f3) h4.h
      clear ih ih0 yes noo
      have inn : ∀ (q i : Nat), i + q = n → wp S (d + 6) 219 39 [some (.ref 43), some (.int (bI B)), some (.int (rpI (fun X => psN g b X n) B)), some (.int (nI X)), some (.int (nI (psN g b X i))), some (.int (nI i))] [] (wv x I2 J2) (rI x Q) := by
        intro q
        induction q with
        | zero =>
          intro i hi
          have hi : i = n := by omega
          subst hi
          refine v219_43_39 (d := d + 5) ⟨fun w => absurd w (by rw [e47b]; exact nI_nlt (Nat.le_refl _) (by omega)), fun _ => ?_⟩
          have p1 := pl X
          have p2 := pl B
          by_cases y : B = 256
          · have ep : rpI (fun X => psN g b X i) B = nI 1000000000 := by rw [rpI_n, if_pos y]
            have bb : btB (fun X => psN g b X i) B X = true := by
              unfold btB
              rw [decide_eq_true y, Bool.true_or]
            have mid := mid bb
            rw [ep] at mid ⊢
            exact ⟨fun z => absurd z (nI_nlt (by omega) (by omega)), fun _ => ⟨fun z => absurd (nI_inj (by omega) (by omega) z) (by omega), fun _ => mid⟩⟩
          · have hB : B < 256 := by omega
            have ep : rpI (fun X => psN g b X i) B = nI (psN g b B i) := if_neg y
            have bb : btB (fun X => psN g b X i) B X = (decide (psN g b X i < psN g b B i) || decide (psN g b X i = psN g b B i ∧ bcN X < bcN B)) := by
              unfold btB
              rw [decide_eq_false y, Bool.false_or]
            rw [ep, bI_y hB] at mid nx
            rw [ep, bI_y hB]
            refine ⟨fun z => nx ?_, fun z => ⟨fun z2 => c154x (by omega) (c154x hB ⟨fun z3 => mid ?_, fun z3 => nx ?_⟩), fun z2 => mid ?_⟩⟩
            · have z := (nI_ltI (by omega) (by omega)).mp z
              rw [bb, decide_eq_false (by omega), decide_eq_false (by omega)]
              rfl
            · have z2 := nI_inj (by omega) (by omega) z2
              have z3 := (nI_ltI (by have := @bc_l X; omega) (by have := @bc_l B; omega)).mp z3
              rw [bb, decide_eq_true (show psN g b X i = psN g b B i ∧ bcN X < bcN B from ⟨z2, z3⟩), Bool.or_true]
            · have z2 := nI_inj (by omega) (by omega) z2
              have z3 := fun w => z3 (nI_lt (a := bcN X) (b := bcN B) w (by have := @bc_l B; omega))
              rw [bb, decide_eq_false (by omega), decide_eq_false (fun w => z3 w.2)]
              rfl
            · have z : ¬ psN g b B i < psN g b X i := fun w => z (nI_lt (a := psN g b B i) (b := psN g b X i) w (by omega))
              have z2 : ¬ psN g b X i = psN g b B i := fun w => z2 (by rw [w])
              rw [bb, decide_eq_true (by omega), Bool.true_or]
        | succ q ihq =>
          intro i hi
          have i2 := ihq (i + 1) (by omega)
          rw [show psN g b X (i + 1) = psN g b X i + (if X.testBit i = true then gN g (70 + (b i).toInt.toNat / gN g 1) else 0) from rfl] at i2
          refine v219_43_39 (d := d + 5) ⟨fun _ => c152 ⟨fun w => ⟨fun z => absurd z (by decide), fun _ => ⟨nI_in (by omega) (by omega), ?_⟩⟩, fun w => ⟨fun _ => ?_, fun z => absurd rfl z⟩⟩, fun w => absurd (by rw [e47b]; exact nI_lt (by omega) (by omega)) w⟩
          · have w := (hbt_n (by omega) (by omega)).mp w
            obtain ⟨s, hs, es, hse⟩ := ulB_s hu (show i < n by omega)
            rw [Nat.zero_add] at es
            rw [if_pos w, es, nI_tn (by omega)] at i2
            rw [nI_clamp (by omega), h56b i (by omega), es]
            refine r188x (d := d + 5) hG hI r2.2.2.2.2.1 hse ?_
            rw [nI_add, ← nI_succ]
            exact i2
          · have w := mt (hbt_n (by omega) (by omega)).mpr w
            rw [if_neg w, Nat.add_zero] at i2
            rw [Int32.add_zero, ← nI_succ]
            exact i2
      exact v219_43_23 (d := d + 5) ⟨fun _ => inn n 0 (by omega), fun q => absurd (by rw [e47b, sh_1 n (by omega)]; exact nI_lt (by omega) (by omega)) q⟩
  exact lp (2 ^ n) 0 I1 J (by omega) FH.rf r
/-- the reference: hush -/
theorem r221x {n : Nat} {Q : Int32 → rI0 → rJ0 → Prop} (hR : RH g W I J) (h3 : gN g 3 ≤ 64) (e16 : ∀ s, s < 64 → bits5 (J 43 16) s = P s) (e17 : ∀ s, s < 64 → bits5 (J 43 17) s = H s) (hb : ∀ i, i < 940 → I 44 i &&& 255 = b i) (e2 : I 43 2 = nI n) (hn : n ≤ 940) (k : ∀ I' J', FU I J I' J' → RH g W I' J' → Q (hushV g W P H b n) I' J') : wcI S (d + 6) 221 [.ref 43] x I J Q := by
  refine c221_43 (d := d + 5) (rHd (d := d + 2) (n := n) (b := b) hR hb e2 hn (fun h I1 f r => ⟨fun _ => ?_, fun z => absurd rfl z⟩) (fun h I1 f r e47 h56 => ⟨fun z => absurd z (by decide), fun _ => ?_⟩))
  · have kk := k I1 J f r
    unfold hushV at kk
    rw [h] at kk
    exact kk
  obtain ⟨n1, n8, hu⟩ := hdB_t h
  have h8 := pw_8 n8
  have lp : ∀ (j X : Nat) (I2 : rI0) (J2 : rJ0), X + j = 2 ^ n → FH I1 J I2 J2 → RH g W I2 J2 → wp S (d + 6) 221 19 [some (.ref 43), some (.int (bI (chN (fun X => !crB g W P (paB H b n X)) (fun _ => 0) X))), some (.int (nI X))] [] (wv x I2 J2) (rI x Q) := by
    intro j
    induction j with
    | zero =>
      intro X I2 J2 hX f2 r2
      have hX : X = 2 ^ n := by omega
      subst hX
      have kk := k I2 J2 (f.h f2) r2
      have e47b : I2 43 47 = nI n := (f2.2.1 47 (by decide) (by omega)).trans e47
      unfold hushV at kk
      rw [if_pos h] at kk
      exact v221_43_19 ⟨fun q => absurd q (by rw [e47b, sh_1 n (by omega)]; exact nI_nlt (Nat.le_refl _) (by omega)), fun _ => kk⟩
    | succ j ih =>
      intro X I2 J2 hX f2 r2
      have cl := chN_l (cr := fun X => !crB g W P (paB H b n X)) (ps := fun _ => 0) X (by omega)
      have yes := @chN_y (cr := fun X => !crB g W P (paB H b n X)) (ps := fun _ => 0) X
      have noo := @chN_n (cr := fun X => !crB g W P (paB H b n X)) (ps := fun _ => 0) X
      have e47b : I2 43 47 = nI n := (f2.2.1 47 (by decide) (by omega)).trans e47
      have h56b : ∀ j, j < n → I2 56 j = b j := fun j hj => by rw [f2.1 56 (by decide) (by decide)]; exact h56 j hj
      have j16 : J2 43 16 = J 43 16 := f2.2.2.2 16 (by omega)
      have j17 : J2 43 17 = J 43 17 := f2.2.2.2 17 (by omega)
      have ih0 := ih (X + 1)
      revert cl yes noo ih0
      generalize chN (fun X => !crB g W P (paB H b n X)) (fun _ => 0) (X + 1) = B1
      generalize chN (fun X => !crB g W P (paB H b n X)) (fun _ => 0) X = B
      intro cl yes noo ih0
      have nx : btB (fun _ => 0) B X = false → wp S (d + 6) 221 19 [some (.ref 43), some (.int (bI B)), some (.int (nI X + 1))] [] (wv x I2 J2) (rI x Q) := by
        intro hb
        have e := noo (by rw [hb, Bool.false_and])
        subst e
        rw [← nI_succ]
        exact ih0 I2 J2 (by omega) f2 r2
      have mid : btB (fun _ => 0) B X = true → wp S (d + 6) 221 49 [some (.ref 43), some (.int (bI B)), some (.int (nI X))] [] (wv x I2 J2) (rI x Q) := by
        intro hb
        refine v221_43_49 (d := d + 5) (r218x (d := d + 4) (b := b) (n := n) (g := g) e47b h56b n8 (by omega) hu (fun v hv => rht (d := d) (P := P) (H := paB H b n X) r2 h3 (by rw [j16]; exact e16) (paB_e (by rw [j17]; exact e17) hv) (fun I3 J3 f3 h4 h44 h45 => ?_)))
        rw [h45]
        by_cases c : gN g 3 ≤ hgt g W P (paB H b n X) 60
        · rw [if_pos c]
          refine ⟨fun z => absurd z (by decide), fun _ => ?_⟩
          have e := noo (by
            have c : crB g W P (paB H b n X) = true := decide_eq_true c
            rw [hb, Bool.true_and, c]
            rfl)
          subst e
          rw [← nI_succ]
          exact ih0 I3 J3 (by omega) (f2.tr f3) h4.h
        · rw [if_neg c]
          refine ⟨fun _ => ?_, fun z => absurd rfl z⟩
          have e := yes (by
            have c : crB g W P (paB H b n X) = false := decide_eq_false c
            rw [hb, Bool.true_and, c]
            rfl)
          subst e
          rw [← nI_succ]
          have := ih0 I3 J3 (by omega) (f2.tr f3) h4.h
          rw [bI_y (by omega)] at this
          exact this
      clear ih ih0 yes noo
      refine v221_43_19 (d := d + 5) ⟨fun _ => ?_, fun q => absurd (by rw [e47b, sh_1 n (by omega)]; exact nI_lt (by omega) (by omega)) q⟩
      by_cases y : B = 256
      · refine ⟨fun _ => mid ?_, fun z => absurd (by rw [bI_0 y]; decide) z⟩
        unfold btB
        rw [decide_eq_true y, Bool.true_or]
      · have hB : B < 256 := by omega
        have bb : btB (fun _ => 0) B X = decide (bcN X < bcN B) := by
          unfold btB
          rw [decide_eq_false y, Bool.false_or, decide_eq_false (Nat.lt_irrefl 0), Bool.false_or]
          exact decide_eq_decide.mpr ⟨fun w => w.2, fun w => ⟨rfl, w⟩⟩
        rw [bI_y hB] at mid nx
        rw [bI_y hB]
        refine ⟨fun z => absurd z (nI_n0 (by omega)), fun _ => c154x (by omega) (c154x hB ⟨fun z3 => mid ?_, fun z3 => nx ?_⟩)⟩
        · rw [bb]
          exact decide_eq_true ((nI_ltI (by have := @bc_l X; omega) (by have := @bc_l B; omega)).mp z3)
        · rw [bb]
          exact decide_eq_false (fun w => z3 (nI_lt (a := bcN X) (b := bcN B) w (by have := @bc_l B; omega)))
  exact lp (2 ^ n) 0 I1 J (by omega) FH.rf r
end TR1
