/-! trials: the best set of hands -/
section TR0
/-- how many hands a set has -/
def bcN (X : Nat) : Nat := nb (fun i => X.testBit i) 8
theorem pc_b : ∀ X, X < 256 → pc (nI X).toInt64 = bcN X := by decide +kernel
theorem bt249 : ∀ X, X < 256 → (((((((((nI X) - ((((nI X).toUInt32 >>> ((1 : Int32).toUInt32 &&& Int32.toUInt32 31)).toInt32) &&& (1431655765 : Int32))) &&& (858993459 : Int32)) + (((((nI X) - ((((nI X).toUInt32 >>> ((1 : Int32).toUInt32 &&& Int32.toUInt32 31)).toInt32) &&& (1431655765 : Int32))).toUInt32 >>> ((2 : Int32).toUInt32 &&& Int32.toUInt32 31)).toInt32) &&& (858993459 : Int32))) + ((((((nI X) - ((((nI X).toUInt32 >>> ((1 : Int32).toUInt32 &&& Int32.toUInt32 31)).toInt32) &&& (1431655765 : Int32))) &&& (858993459 : Int32)) + (((((nI X) - ((((nI X).toUInt32 >>> ((1 : Int32).toUInt32 &&& Int32.toUInt32 31)).toInt32) &&& (1431655765 : Int32))).toUInt32 >>> ((2 : Int32).toUInt32 &&& Int32.toUInt32 31)).toInt32) &&& (858993459 : Int32))).toUInt32 >>> ((4 : Int32).toUInt32 &&& Int32.toUInt32 31)).toInt32)) &&& (252645135 : Int32)) + ((((((((nI X) - ((((nI X).toUInt32 >>> ((1 : Int32).toUInt32 &&& Int32.toUInt32 31)).toInt32) &&& (1431655765 : Int32))) &&& (858993459 : Int32)) + (((((nI X) - ((((nI X).toUInt32 >>> ((1 : Int32).toUInt32 &&& Int32.toUInt32 31)).toInt32) &&& (1431655765 : Int32))).toUInt32 >>> ((2 : Int32).toUInt32 &&& Int32.toUInt32 31)).toInt32) &&& (858993459 : Int32))) + ((((((nI X) - ((((nI X).toUInt32 >>> ((1 : Int32).toUInt32 &&& Int32.toUInt32 31)).toInt32) &&& (1431655765 : Int32))) &&& (858993459 : Int32)) + (((((nI X) - ((((nI X).toUInt32 >>> ((1 : Int32).toUInt32 &&& Int32.toUInt32 31)).toInt32) &&& (1431655765 : Int32))).toUInt32 >>> ((2 : Int32).toUInt32 &&& Int32.toUInt32 31)).toInt32) &&& (858993459 : Int32))).toUInt32 >>> ((4 : Int32).toUInt32 &&& Int32.toUInt32 31)).toInt32)) &&& (252645135 : Int32)).toUInt32 >>> ((8 : Int32).toUInt32 &&& Int32.toUInt32 31)).toInt32)) + (((((((((nI X) - ((((nI X).toUInt32 >>> ((1 : Int32).toUInt32 &&& Int32.toUInt32 31)).toInt32) &&& (1431655765 : Int32))) &&& (858993459 : Int32)) + (((((nI X) - ((((nI X).toUInt32 >>> ((1 : Int32).toUInt32 &&& Int32.toUInt32 31)).toInt32) &&& (1431655765 : Int32))).toUInt32 >>> ((2 : Int32).toUInt32 &&& Int32.toUInt32 31)).toInt32) &&& (858993459 : Int32))) + ((((((nI X) - ((((nI X).toUInt32 >>> ((1 : Int32).toUInt32 &&& Int32.toUInt32 31)).toInt32) &&& (1431655765 : Int32))) &&& (858993459 : Int32)) + (((((nI X) - ((((nI X).toUInt32 >>> ((1 : Int32).toUInt32 &&& Int32.toUInt32 31)).toInt32) &&& (1431655765 : Int32))).toUInt32 >>> ((2 : Int32).toUInt32 &&& Int32.toUInt32 31)).toInt32) &&& (858993459 : Int32))).toUInt32 >>> ((4 : Int32).toUInt32 &&& Int32.toUInt32 31)).toInt32)) &&& (252645135 : Int32)) + ((((((((nI X) - ((((nI X).toUInt32 >>> ((1 : Int32).toUInt32 &&& Int32.toUInt32 31)).toInt32) &&& (1431655765 : Int32))) &&& (858993459 : Int32)) + (((((nI X) - ((((nI X).toUInt32 >>> ((1 : Int32).toUInt32 &&& Int32.toUInt32 31)).toInt32) &&& (1431655765 : Int32))).toUInt32 >>> ((2 : Int32).toUInt32 &&& Int32.toUInt32 31)).toInt32) &&& (858993459 : Int32))) + ((((((nI X) - ((((nI X).toUInt32 >>> ((1 : Int32).toUInt32 &&& Int32.toUInt32 31)).toInt32) &&& (1431655765 : Int32))) &&& (858993459 : Int32)) + (((((nI X) - ((((nI X).toUInt32 >>> ((1 : Int32).toUInt32 &&& Int32.toUInt32 31)).toInt32) &&& (1431655765 : Int32))).toUInt32 >>> ((2 : Int32).toUInt32 &&& Int32.toUInt32 31)).toInt32) &&& (858993459 : Int32))).toUInt32 >>> ((4 : Int32).toUInt32 &&& Int32.toUInt32 31)).toInt32)) &&& (252645135 : Int32)).toUInt32 >>> ((8 : Int32).toUInt32 &&& Int32.toUInt32 31)).toInt32)).toUInt32 >>> ((16 : Int32).toUInt32 &&& Int32.toUInt32 31)).toInt32)) &&& (63 : Int32)) = nI (bcN X) := by decide +kernel
theorem sh_1 : ∀ n, n < 9 → (1 : Int32) <<< (nI n &&& 31) = nI (2 ^ n) := by decide +kernel
theorem pw_8 {n : Nat} (h : n ≤ 8) : 2 ^ n ≤ 256 := Nat.pow_le_pow_right (n := 2) (by omega) h
theorem bc_l {X : Nat} : bcN X ≤ 8 := nb_le 8
variable {S : Nat × (Nat → Int32)} {d : Nat} {x : mX} {I : rI0} {J : rJ0} {g b : Nat → Int32} {W : Nat → lV} {P H : Nat → Bool}
theorem c249x {X : Nat} {Q : Int32 → rI0 → rJ0 → Prop} (hX : X < 256) (k : Q (nI (bcN X)) I J) : wcI S d 249 [.int (nI X)] x I J Q := by
  refine c249 ?_
  rw [bt249 X hX]
  exact k
theorem c154x {X : Nat} {Q : Int32 → rI0 → rJ0 → Prop} (hX : X < 256) (k : Q (nI (bcN X)) I J) : wcI S d 154 [.long (nI X).toInt64] x I J Q := by
  refine rbX ?_
  rw [pc_b X hX]
  exact k
/-- the best of the sets below X: 256 for none -/
def btB (ps : Nat → Nat) (B X : Nat) : Bool := decide (B = 256) || (decide (ps X < ps B) || decide (ps X = ps B ∧ bcN X < bcN B))
def chN (cr : Nat → Bool) (ps : Nat → Nat) : Nat → Nat
  | 0 => 256
  | X + 1 => if (btB ps (chN cr ps X) X && cr X) = true then X else chN cr ps X
def bI (B : Nat) : Int32 := if B = 256 then -1 else nI B
def cpI (ps : Nat → Nat) (B : Nat) : Int32 := if B = 256 then -1 else nI (ps B)
def rpI (ps : Nat → Nat) (B : Nat) : Int32 := if B = 256 then 1000000000 else nI (ps B)
variable {cr : Nat → Bool} {ps : Nat → Nat}
theorem chN_l : ∀ X, X ≤ 256 → chN cr ps X = 256 ∨ chN cr ps X < X := by
  intro X
  induction X with
  | zero => exact fun _ => Or.inl rfl
  | succ X ih =>
    intro h
    show (if (btB ps (chN cr ps X) X && cr X) = true then X else chN cr ps X) = 256 ∨ (if (btB ps (chN cr ps X) X && cr X) = true then X else chN cr ps X) < X + 1
    split
    · exact Or.inr (by omega)
    · exact (ih (by omega)).elim Or.inl (fun z => Or.inr (by omega))
theorem chN_n {X : Nat} (h : (btB ps (chN cr ps X) X && cr X) = false) : chN cr ps (X + 1) = chN cr ps X := by
  show (if (btB ps (chN cr ps X) X && cr X) = true then X else chN cr ps X) = _
  rw [h]
  rfl
theorem chN_y {X : Nat} (h : (btB ps (chN cr ps X) X && cr X) = true) : chN cr ps (X + 1) = X := by
  show (if (btB ps (chN cr ps X) X && cr X) = true then X else chN cr ps X) = _
  rw [if_pos h]
theorem nI_n1 {B : Nat} (h : B < 2 ^ 31) : ¬ nI B = -1 := by
  intro z
  have := congrArg Int32.toInt z
  rw [nI_toInt h] at this
  have e : (-1 : Int32).toInt = -1 := by decide
  omega
theorem nI_n0 {B : Nat} (h : B < 2 ^ 31) : ¬ nI B < 0 := nI_nlt (b := 0) (Nat.zero_le _) h
theorem bI_y {B : Nat} (h : B < 256) : bI B = nI B := if_neg (by omega)
/-- does it carry? -/
def crB (g : Nat → Int32) (W : Nat → lV) (P H : Nat → Bool) : Bool := decide (gN g 3 ≤ hgt g W P H 60)
def paB (P : Nat → Bool) (b : Nat → Int32) (n X s : Nat) : Bool := decide (s < 64) && (P s || hSt b n X s)
theorem paB_e {n X : Nat} {v w : Int64} (e : ∀ s, s < 64 → bits5 v s = P s) (h : ∀ u, u < 64 → bits5 w u = hSt b n X u) : ∀ s, s < 64 → bits5 (v ||| w) s = paB P b n X s := by
  intro s hs
  unfold paB
  rw [b5_or, e s hs, h s hs, decide_eq_true hs, Bool.true_and]
theorem paB_s {n X : Nat} (hP : ∀ s, P s = true → seB g s = true) (hu : ulB g b 0 n = true) : ∀ s, paB P b n X s = true → seB g s = true := by
  intro s h
  unfold paB at h
  rw [Bool.and_eq_true, Bool.or_eq_true, decide_eq_true_iff] at h
  exact h.2.elim (hP s) (fun z => hSt_se hu z h.1)
/-- the class: cheapestOf -/
theorem c84x {n : Nat} {Q : Int32 → rI0 → rJ0 → Prop} (hG : GA g) (hM : HM g W I J) (ec : I 4 2 = nI (gN g 3)) (h3 : gN g 3 ≤ 64) (hP : ∀ s, P s = true → seB g s = true) (e5 : ∀ s, s < 64 → bits5 (J 3 5) s = P s) (e6 : ∀ s, s < 64 → bits5 (J 3 6) s = H s) (hp : ∀ r, r < 8 → I 7 r = nI (gN g (70 + r))) (hpl : ∀ r, r < 8 → gN g (70 + r) ≤ 999) (e2 : I 2 = b) (hn : n ≤ 8) (hu : ulB g b 0 n = true) (k : ∀ I' J', F41 I J I' J' → Q (cpI (fun X => psN g b X n) (chN (fun X => crB g W (paB P b n X) H) (fun X => psN g b X n) (2 ^ n))) (if chN (fun X => crB g W (paB P b n X) H) (fun X => psN g b X n) (2 ^ n) = 256 then I' else mSet I' 37 8 (nI (chN (fun X => crB g W (paB P b n X) H) (fun X => psN g b X n) (2 ^ n)))) J') : wcI S (d + 23) 84 [.ref 37, .int (nI n)] x I J Q := by
  have h8 := pw_8 hn
  have lp : ∀ (j X : Nat) (I1 : rI0) (J1 : rJ0), X + j = 2 ^ n → F41 I J I1 J1 → wp S (d + 23) 84 19 [some (.ref 37), some (.int (nI n)), some (.int (nI (gN g 3))), some (.int (bI (chN (fun X => crB g W (paB P b n X) H) (fun X => psN g b X n) X))), some (.int (cpI (fun X => psN g b X n) (chN (fun X => crB g W (paB P b n X) H) (fun X => psN g b X n) X))), some (.int (nI X)), none, none, none, none] [] (wv x I1 J1) (rI x Q) := by
    intro j
    induction j with
    | zero =>
      intro X I1 J1 hX f
      have hX : X = 2 ^ n := by omega
      subst hX
      have kk := k I1 J1 f
      have cl := chN_l (cr := fun X => crB g W (paB P b n X) H) (ps := fun X => psN g b X n) (2 ^ n) h8
      revert kk cl
      generalize chN (fun X => crB g W (paB P b n X) H) (fun X => psN g b X n) (2 ^ n) = B
      intro kk cl
      refine v84_37_19 ⟨fun q => absurd q (by rw [sh_1 n (by omega)]; exact nI_nlt (Nat.le_refl _) (by omega)), fun _ => ⟨fun z => ?_, fun z => ?_⟩⟩
      · by_cases y : B = 256
        · rw [if_pos y] at kk
          exact kk
        · rw [bI_y (by omega)] at z
          exact absurd z (nI_n1 (by omega))
      · by_cases y : B = 256
        · unfold bI at z
          rw [if_pos y] at z
          exact absurd rfl z
        · rw [if_neg y] at kk
          rw [bI_y (by omega)]
          exact kk
    | succ j ih =>
      intro X I1 J1 hX f
      have cl := chN_l (cr := fun X => crB g W (paB P b n X) H) (ps := fun X => psN g b X n) X (by omega)
      have yes := @chN_y (cr := fun X => crB g W (paB P b n X) H) (ps := fun X => psN g b X n) X
      have noo := @chN_n (cr := fun X => crB g W (paB P b n X) H) (ps := fun X => psN g b X n) X
      have pl : ∀ Y, psN g b Y n ≤ 7992 := fun Y => by
        have := psN_l (X := Y) hpl hG n hu
        omega
      have f2 : I1 2 = b := (f.1 2 (by decide)).trans e2
      have hM1 := hM.n41 f
      have ih0 := ih (X + 1)
      revert cl yes noo ih0
      generalize chN (fun X => crB g W (paB P b n X) H) (fun X => psN g b X n) (X + 1) = B1
      generalize chN (fun X => crB g W (paB P b n X) H) (fun X => psN g b X n) X = B
      intro cl yes noo ih0
      refine v84_37_19 (d := d + 22) ⟨fun _ => c82x (d := d + 22) f2 hn (by omega) hu (fun v hv => c83x (d := d + 19) hG hM1 (fun r hr => by rw [f.1 7 (by decide)]; exact hp r hr) f2 hn (by omega) hu ?_), fun q => absurd (by rw [sh_1 n (by omega)]; exact nI_lt (by omega) (by omega)) q⟩
      have mid : ∀ s0 : Int32, (s0 = 0 ∧ btB (fun X => psN g b X n) B X = false) ∨ (s0 = 1 ∧ btB (fun X => psN g b X n) B X = true) → wp S (d + 23) 84 89 [some (.ref 37), some (.int (nI n)), some (.int (nI (gN g 3))), some (.int (bI B)), some (.int (cpI (fun X => psN g b X n) B)), some (.int (nI X)), some (.long ((J1 3 5) ||| v)), none, some (.int (nI (psN g b X n))), none] [.int s0] (wv x I1 J1) (rI x Q) := by
        intro s0 hs
        refine v84_37_89 (d := d + 22) ⟨fun z => ?_, fun z => ?_⟩
        · have hb : btB (fun X => psN g b X n) B X = false := by
            rcases hs with y | y
            · exact y.2
            · rw [y.1] at z
              exact absurd z (by decide)
          have e := noo (by rw [hb, Bool.false_and])
          subst e
          rw [← nI_succ]
          exact ih0 I1 J1 (by omega) f
        · have hb : btB (fun X => psN g b X n) B X = true := by
            rcases hs with y | y
            · exact absurd y.1 z
            · exact y.2
          refine ht_41 (d := d) (P := paB P b n X) (H := H) hG hM1 (paB_s hP hu) (paB_e (by rw [f.2 3 (by decide)]; exact e5) hv) (by rw [f.2 3 (by decide)]; exact e6) (fun I2 J2 r f3 h1 h2 => ⟨fun q => ?_, fun q => ?_⟩)
          · have q := (nI_ltI (by have := hgt_l (g := g) (W := W) (P := paB P b n X) (H := H) (t := 60); omega) (by omega)).mp q
            rw [nI_toInt (by omega)] at h2
            have e := noo (by
              rw [hb, Bool.true_and]
              exact decide_eq_false (by omega))
            subst e
            rw [← nI_succ]
            exact ih0 I2 J2 (by omega) (f.tr f3)
          · have q : ¬ r < gN g 3 := fun w => q (nI_lt w (by omega))
            have e := yes (by
              rw [hb, Bool.true_and]
              exact decide_eq_true (by omega))
            subst e
            rw [← nI_succ]
            have := ih0 I2 J2 (by omega) (f.tr f3)
            unfold cpI at this
            rw [bI_y (by omega), if_neg (by omega)] at this
            exact this
      clear ih ih0 yes noo
      by_cases y : B = 256
      · refine ⟨fun _ => mid 1 (Or.inr ⟨rfl, ?_⟩), fun z => absurd (show bI B = -1 from if_pos y) z⟩
        unfold btB
        rw [decide_eq_true y, Bool.true_or]
      · have hB : B < 256 := by omega
        have bb : btB (fun X => psN g b X n) B X = (decide (psN g b X n < psN g b B n) || decide (psN g b X n = psN g b B n ∧ bcN X < bcN B)) := by
          unfold btB
          rw [decide_eq_false y, Bool.false_or]
        have ep : cpI (fun X => psN g b X n) B = nI (psN g b B n) := if_neg y
        have p1 := pl X
        have p2 := pl B
        rw [ep, bI_y hB] at mid
        rw [ep, bI_y hB]
        refine ⟨fun z => absurd z (nI_n1 (by omega)), fun _ => ⟨fun z => mid 1 (Or.inr ⟨rfl, ?_⟩), fun z => ⟨fun z2 => c249x (by omega) (c249x hB ⟨fun z3 => mid 1 (Or.inr ⟨rfl, ?_⟩), fun z3 => mid 0 (Or.inl ⟨rfl, ?_⟩)⟩), fun z2 => mid 0 (Or.inl ⟨rfl, ?_⟩)⟩⟩⟩
        · rw [bb, decide_eq_true ((nI_ltI (by omega) (by omega)).mp z), Bool.true_or]
        · have z2 := nI_inj (by omega) (by omega) z2
          have z3 := (nI_ltI (by have := @bc_l X; omega) (by have := @bc_l B; omega)).mp z3
          rw [bb, decide_eq_true (show psN g b X n = psN g b B n ∧ bcN X < bcN B from ⟨z2, z3⟩), Bool.or_true]
        · have z := fun w => z (nI_lt (a := psN g b X n) (b := psN g b B n) w (by omega))
          have z3 := fun w => z3 (nI_lt (a := bcN X) (b := bcN B) w (by have := @bc_l B; omega))
          rw [bb, decide_eq_false z, decide_eq_false (fun w => z3 w.2)]
          rfl
        · have z := fun w => z (nI_lt (a := psN g b X n) (b := psN g b B n) w (by omega))
          rw [bb, decide_eq_false z, decide_eq_false (fun w => z2 (by rw [w.1]))]
          rfl
  have st := lp (2 ^ n) 0 I J (by omega) F41.rf
  refine c84_37 ?_
  rw [ec]
  exact st
/-- the class: hushOf -/
theorem c85x {n : Nat} {Q : Int32 → rI0 → rJ0 → Prop} (hG : GA g) (hM : HM g W I J) (ec : I 4 2 = nI (gN g 3)) (h3 : gN g 3 ≤ 64) (hP : ∀ s, P s = true → seB g s = true) (e5 : ∀ s, s < 64 → bits5 (J 3 5) s = P s) (e6 : ∀ s, s < 64 → bits5 (J 3 6) s = H s) (e2 : I 2 = b) (hn : n ≤ 8) (hu : ulB g b 0 n = true) (k : ∀ I' J', F41 I J I' J' → Q (bI (chN (fun X => !crB g W P (paB H b n X)) (fun _ => 0) (2 ^ n))) I' J') : wcI S (d + 23) 85 [.ref 37, .int (nI n)] x I J Q := by
  have h8 := pw_8 hn
  have lp : ∀ (j X : Nat) (I1 : rI0) (J1 : rJ0), X + j = 2 ^ n → F41 I J I1 J1 → wp S (d + 23) 85 16 [some (.ref 37), some (.int (nI n)), some (.int (nI (gN g 3))), some (.int (bI (chN (fun X => !crB g W P (paB H b n X)) (fun _ => 0) X))), some (.int (nI X)), none, none, none] [] (wv x I1 J1) (rI x Q) := by
    intro j
    induction j with
    | zero =>
      intro X I1 J1 hX f
      have hX : X = 2 ^ n := by omega
      subst hX
      exact v85_37_16 ⟨fun q => absurd q (by rw [sh_1 n (by omega)]; exact nI_nlt (Nat.le_refl _) (by omega)), fun _ => k I1 J1 f⟩
    | succ j ih =>
      intro X I1 J1 hX f
      have cl := chN_l (cr := fun X => !crB g W P (paB H b n X)) (ps := fun _ => 0) X (by omega)
      have yes := @chN_y (cr := fun X => !crB g W P (paB H b n X)) (ps := fun _ => 0) X
      have noo := @chN_n (cr := fun X => !crB g W P (paB H b n X)) (ps := fun _ => 0) X
      have f2 : I1 2 = b := (f.1 2 (by decide)).trans e2
      have hM1 := hM.n41 f
      have ih0 := ih (X + 1)
      revert cl yes noo ih0
      generalize chN (fun X => !crB g W P (paB H b n X)) (fun _ => 0) (X + 1) = B1
      generalize chN (fun X => !crB g W P (paB H b n X)) (fun _ => 0) X = B
      intro cl yes noo ih0
      have mid : ∀ s0 : Int32, (s0 = 0 ∧ btB (fun _ => 0) B X = false) ∨ (s0 = 1 ∧ btB (fun _ => 0) B X = true) → wp S (d + 23) 85 46 [some (.ref 37), some (.int (nI n)), some (.int (nI (gN g 3))), some (.int (bI B)), some (.int (nI X)), none, none, none] [.int s0] (wv x I1 J1) (rI x Q) := by
        intro s0 hs
        refine v85_37_46 (d := d + 22) (c82x (d := d + 22) f2 hn (by omega) hu (fun v hv => ⟨fun z => ?_, fun z => ?_⟩))
        · have hb : btB (fun _ => 0) B X = false := by
            rcases hs with y | y
            · exact y.2
            · rw [y.1] at z
              exact absurd z (by decide)
          have e := noo (by rw [hb, Bool.false_and])
          subst e
          rw [← nI_succ]
          exact ih0 I1 J1 (by omega) f
        · have hb : btB (fun _ => 0) B X = true := by
            rcases hs with y | y
            · exact absurd y.1 z
            · exact y.2
          refine ht_41 (d := d) (P := P) (H := paB H b n X) hG hM1 hP (by rw [f.2 3 (by decide)]; exact e5) (paB_e (by rw [f.2 3 (by decide)]; exact e6) hv) (fun I2 J2 r f3 h1 h2 => ⟨fun q => ?_, fun q => ?_⟩)
          · have q := (nI_ltI (by have := hgt_l (g := g) (W := W) (P := P) (H := paB H b n X) (t := 60); omega) (by omega)).mp q
            rw [nI_toInt (by omega)] at h2
            have e := yes (by
              have c : crB g W P (paB H b n X) = false := decide_eq_false (by omega)
              rw [hb, Bool.true_and, c]
              rfl)
            subst e
            rw [← nI_succ]
            have := ih0 I2 J2 (by omega) (f.tr f3)
            rw [bI_y (by omega)] at this
            exact this
          · have q : ¬ r < gN g 3 := fun w => q (nI_lt w (by omega))
            have e := noo (by
              have c : crB g W P (paB H b n X) = true := decide_eq_true (by omega)
              rw [hb, Bool.true_and, c]
              rfl)
            subst e
            rw [← nI_succ]
            exact ih0 I2 J2 (by omega) (f.tr f3)
      clear ih ih0 yes noo
      refine v85_37_16 (d := d + 22) ⟨fun _ => ?_, fun q => absurd (by rw [sh_1 n (by omega)]; exact nI_lt (by omega) (by omega)) q⟩
      by_cases y : B = 256
      · refine ⟨fun _ => mid 1 (Or.inr ⟨rfl, ?_⟩), fun z => absurd (show bI B = -1 from if_pos y) z⟩
        unfold btB
        rw [decide_eq_true y, Bool.true_or]
      · have hB : B < 256 := by omega
        have bb : btB (fun _ => 0) B X = decide (bcN X < bcN B) := by
          unfold btB
          rw [decide_eq_false y, Bool.false_or, decide_eq_false (Nat.lt_irrefl 0), Bool.false_or]
          exact decide_eq_decide.mpr ⟨fun w => w.2, fun w => ⟨rfl, w⟩⟩
        rw [bI_y hB] at mid
        rw [bI_y hB]
        refine ⟨fun z => absurd z (nI_n1 (by omega)), fun _ => c249x (by omega) (c249x hB ⟨fun z3 => mid 1 (Or.inr ⟨rfl, ?_⟩), fun z3 => mid 0 (Or.inl ⟨rfl, ?_⟩)⟩)⟩
        · rw [bb]
          exact decide_eq_true ((nI_ltI (by have := @bc_l X; omega) (by have := @bc_l B; omega)).mp z3)
        · rw [bb]
          exact decide_eq_false (fun w => z3 (nI_lt (a := bcN X) (b := bcN B) w (by have := @bc_l B; omega)))
  have st := lp (2 ^ n) 0 I J (by omega) F41.rf
  refine c85_37 ?_
  rw [ec]
  exact st
end TR0
