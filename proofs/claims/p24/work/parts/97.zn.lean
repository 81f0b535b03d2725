/-! trials: the sets that carry and have no lesser part that does -/
section TR2
def sbB (Y X : Nat) : Bool := decide (Y &&& X = Y)
theorem m1_b : ∀ i, i < 32 → (-1 : Int32).toBitVec.getLsbD i = true := by decide
theorem z0_b : ∀ i, i < 32 → (0 : Int32).toBitVec.getLsbD i = false := by decide
theorem an_x {a c : Int32} : a &&& (c ^^^ (-1 : Int32)) = 0 ↔ a &&& c = a := by
  refine ⟨fun h => Int32.toBitVec_inj.mp (BitVec.eq_of_getLsbD_eq (fun i hi => ?_)), fun h => Int32.toBitVec_inj.mp (BitVec.eq_of_getLsbD_eq (fun i hi => ?_))⟩
  · have h1 : (a &&& (c ^^^ (-1 : Int32))).toBitVec.getLsbD i = (0 : Int32).toBitVec.getLsbD i := by rw [h]
    rw [Int32.toBitVec_and, Int32.toBitVec_xor, BitVec.getLsbD_and, BitVec.getLsbD_xor, m1_b i hi, z0_b i hi] at h1
    rw [Int32.toBitVec_and, BitVec.getLsbD_and]
    revert h1
    cases a.toBitVec.getLsbD i <;> cases c.toBitVec.getLsbD i <;> decide
  · have h1 : (a &&& c).toBitVec.getLsbD i = a.toBitVec.getLsbD i := by rw [h]
    rw [Int32.toBitVec_and, BitVec.getLsbD_and] at h1
    rw [Int32.toBitVec_and, Int32.toBitVec_xor, BitVec.getLsbD_and, BitVec.getLsbD_xor, m1_b i hi, z0_b i hi]
    revert h1
    cases a.toBitVec.getLsbD i <;> cases c.toBitVec.getLsbD i <;> decide
theorem nI_an (Y X : Nat) : nI Y &&& nI X = nI (Y &&& X) := Int32.toBitVec_inj.mp (by
  rw [Int32.toBitVec_and]
  exact BitVec.ofNat_and.symm)
theorem sb_r (X : Nat) (hX : X < 256) (Y : Nat) (hY : Y < 256) : decide (nI Y &&& nI X = nI Y) = sbB Y X := by
  refine decide_eq_decide.mpr ?_
  rw [nI_an]
  have := Nat.and_le_left (n := Y) (m := X)
  exact ⟨fun h => nI_inj (by omega) (by omega) h, fun h => by rw [h]⟩
theorem sb_c (X : Nat) (hX : X < 256) (Y : Nat) (hY : Y < 256) : decide (nI Y &&& (nI X ^^^ (-1 : Int32)) = 0) = sbB Y X := by
  rw [← sb_r X hX Y hY]
  exact decide_eq_decide.mpr an_x
def mnB (cr : Nat → Bool) (X : Nat) : Bool := cr X && decide (nb (fun Y => sbB Y X && cr Y) X = 0)
variable {cr : Nat → Bool}
theorem sb_tr {Z Y X : Nat} (h1 : sbB Z Y = true) (h2 : sbB Y X = true) : sbB Z X = true := by
  have h1 := of_decide_eq_true h1
  have h2 := of_decide_eq_true h2
  refine decide_eq_true ?_
  rw [← h1, Nat.and_assoc, h2]
theorem sb_rf {X : Nat} : sbB X X = true := decide_eq_true (Nat.and_self X)
theorem mn_ex : ∀ Y, cr Y = true → ∃ F, F ≤ Y ∧ mnB cr F = true ∧ sbB F Y = true := by
  intro Y
  induction Y using Nat.strongRecOn with
  | ind Y ih =>
    intro h
    by_cases z : nb (fun Z => sbB Z Y && cr Z) Y = 0
    · exact ⟨Y, Nat.le_refl _, by unfold mnB; rw [h, decide_eq_true z]; rfl, sb_rf⟩
    · obtain ⟨Z, hZ, e⟩ := (nb_pos Y).mp (show 0 < nb (fun Z => sbB Z Y && cr Z) Y by omega)
      rw [Bool.and_eq_true] at e
      obtain ⟨F, h1, h2, h3⟩ := ih Z hZ e.2
      exact ⟨F, by omega, h2, sb_tr h3 e.1⟩
/-- has X a found part? -/
def pfB (cr : Nat → Bool) (X : Nat) : Bool := decide (0 < nb (fun Y => mnB cr Y && sbB Y X) X)
theorem mn_pf {X : Nat} : mnB cr X = (!pfB cr X && cr X) := by
  cases h : cr X with
  | false =>
    unfold mnB
    rw [h, Bool.and_false, Bool.false_and]
  | true =>
    rw [show mnB cr X = decide (nb (fun Y => sbB Y X && cr Y) X = 0) from by unfold mnB; rw [h, Bool.true_and], show pfB cr X = decide (0 < nb (fun Y => mnB cr Y && sbB Y X) X) from rfl, Bool.and_true, ← decide_not]
    refine decide_eq_decide.mpr ⟨fun z w => ?_, fun z => ?_⟩
    · obtain ⟨Y, hY, e⟩ := (nb_pos X).mp w
      rw [Bool.and_eq_true] at e
      have e1 := e.1
      unfold mnB at e1
      rw [Bool.and_eq_true] at e1
      have : 0 < nb (fun Y => sbB Y X && cr Y) X := (nb_pos X).mpr ⟨Y, hY, by rw [e.2, e1.1]; rfl⟩
      omega
    · refine Classical.byContradiction (fun w => z ?_)
      obtain ⟨Y, hY, e⟩ := (nb_pos X).mp (show 0 < nb (fun Y => sbB Y X && cr Y) X by omega)
      rw [Bool.and_eq_true] at e
      obtain ⟨F, h1, h2, h3⟩ := mn_ex Y e.2
      exact (nb_pos X).mpr ⟨F, by omega, by rw [h2, sb_tr h3 e.1]; rfl⟩
theorem nb_ix {p : Nat → Bool} : ∀ n k, k < nb p n → ∃ i, i < n ∧ p i = true ∧ nb p i = k := by
  intro n
  induction n with
  | zero => exact fun k h => absurd h (Nat.not_lt_zero _)
  | succ n ih =>
    intro k h
    rw [nb_s] at h
    by_cases z : k < nb p n
    · obtain ⟨i, h1, h2, h3⟩ := ih k z
      exact ⟨i, by omega, h2, h3⟩
    · by_cases y : p n = true
      · rw [if_pos y] at h
        exact ⟨n, by omega, y, by omega⟩
      · rw [if_neg y] at h
        omega
theorem nb_mo {p : Nat → Bool} {a : Nat} : ∀ c, a ≤ c → nb p a ≤ nb p c := by
  intro c
  induction c with
  | zero => intro h; rw [show a = 0 by omega]; exact Nat.le_refl _
  | succ c ih =>
    intro h
    by_cases z : a = c + 1
    · rw [z]; exact Nat.le_refl _
    · have := ih (by omega)
      rw [nb_s]
      omega
/-- the answer: from the set X on, j sets -/
def coG (mn : Nat → Bool) (p : Int32) : Nat → Nat → Int32
  | 0, X => if p = -1 then nI (nb mn X) else -1
  | j + 1, X => if (mn X && decide (nI (nb mn X) = p)) = true then nI X else coG mn p j (X + 1)
theorem coG_y {mn : Nat → Bool} {p : Int32} {Y : Nat} (hY : Y < 1000) (h1 : mn Y = true) (h2 : nI (nb mn Y) = p) : ∀ j X, X ≤ Y → Y < X + j → coG mn p j X = nI Y := by
  intro j
  induction j with
  | zero => intro X h3 h4; omega
  | succ j ih =>
    intro X h3 h4
    show (if (mn X && decide (nI (nb mn X) = p)) = true then nI X else coG mn p j (X + 1)) = _
    by_cases z : X = Y
    · rw [z, h1, decide_eq_true h2]
      rfl
    · rw [if_neg (fun w => ?_)]
      · exact ih (X + 1) (by omega) (by omega)
      · rw [Bool.and_eq_true, decide_eq_true_iff] at w
        have a := nb_mo (p := mn) (a := X + 1) Y (by omega)
        rw [nb_s, if_pos w.1] at a
        have b := nb_le (p := mn) Y
        have := nI_inj (by omega) (by omega) (w.2.trans h2.symm)
        omega
theorem coG_n {mn : Nat → Bool} {p : Int32} : ∀ j X, (∀ Y, X ≤ Y → Y < X + j → mn Y = true → nI (nb mn Y) ≠ p) → coG mn p j X = if p = -1 then nI (nb mn (X + j)) else -1 := by
  intro j
  induction j with
  | zero => intro X _; rfl
  | succ j ih =>
    intro X h
    show (if (mn X && decide (nI (nb mn X) = p)) = true then nI X else coG mn p j (X + 1)) = _
    rw [if_neg (fun w => ?_), ih (X + 1) (fun Y h1 h2 => h Y (by omega) (by omega)), show X + 1 + j = X + (j + 1) by omega]
    rw [Bool.and_eq_true, decide_eq_true_iff] at w
    exact h X (Nat.le_refl _) (by omega) w.1 w.2
variable {S : Nat × (Nat → Int32)} {d : Nat} {x : mX} {I : rI0} {J : rJ0} {g b : Nat → Int32} {W : Nat → lV} {P H : Nat → Bool}
/-- the class: hasFoundPart -/
theorem c87x {X : Nat} {Q : Int32 → rI0 → rJ0 → Prop} (hX : X < 256) (hF : ∀ Y, Y < X → mnB cr Y = true → I 39 (nb (mnB cr) Y) = nI Y) (k : Q (nI (if pfB cr X = true then 1 else 0)) I J) : wcI S d 87 [.ref 37, .int (nI X), .int (nI (nb (mnB cr) X))] x I J Q := by
  have hl := nb_le (p := mnB cr) X
  have lp : ∀ (j i : Nat), i + j = nb (mnB cr) X → (∀ Y, Y < X → mnB cr Y = true → nb (mnB cr) Y < i → sbB Y X = false) → wp S d 87 2 [some (.ref 37), some (.int (nI X)), some (.int (nI (nb (mnB cr) X))), some (.int (nI i))] [] (wv x I J) (rI x Q) := by
    intro j
    induction j with
    | zero =>
      intro i hi h
      have e : pfB cr X = false := by
        refine decide_eq_false (fun w => ?_)
        obtain ⟨Y, hY, e⟩ := (nb_pos X).mp w
        rw [Bool.and_eq_true] at e
        have a := nb_mo (p := mnB cr) (a := Y + 1) X (by omega)
        rw [nb_s, if_pos e.1] at a
        have := h Y hY e.1 (by omega)
        rw [e.2] at this
        cases this
      rw [e] at k
      exact v87_37_2 ⟨fun q => absurd q (by rw [show i = nb (mnB cr) X by omega]; exact nI_nlt (Nat.le_refl _) (by omega)), fun _ => k⟩
    | succ j ih =>
      intro i hi h
      obtain ⟨Y, hY, h1, h2⟩ := nb_ix (p := mnB cr) X i (by omega)
      refine v87_37_2 ⟨fun _ => ⟨nI_in (by omega) (by omega), ?_⟩, fun q => absurd (nI_lt (by omega) (by omega)) q⟩
      have e39 := hF Y hY h1
      rw [h2] at e39
      rw [nI_clamp (by omega), e39]
      have sc := sb_c X hX Y (by omega)
      refine ⟨fun z => ?_, fun z => ?_⟩
      · rw [decide_eq_true z] at sc
        have e : pfB cr X = true := decide_eq_true ((nb_pos X).mpr ⟨Y, hY, by rw [h1, ← sc]; rfl⟩)
        rw [e] at k
        exact k
      · rw [decide_eq_false z] at sc
        rw [← nI_succ]
        refine ih (i + 1) (by omega) (fun Z hZ h3 h4 => ?_)
        by_cases y : nb (mnB cr) Z < i
        · exact h Z hZ h3 y
        · have y : nb (mnB cr) Z = nb (mnB cr) Y := by omega
          have : Z = Y := by
            rcases Nat.lt_trichotomy Z Y with w | w | w
            · have a := nb_mo (p := mnB cr) (a := Z + 1) Y (by omega)
              rw [nb_s, if_pos h3] at a
              omega
            · exact w
            · have a := nb_mo (p := mnB cr) (a := Y + 1) Z (by omega)
              rw [nb_s, if_pos h1] at a
              omega
          rw [this]
          exact sc.symm
  exact c87_37 (lp (nb (mnB cr) X) 0 (by omega) (fun Y _ _ h => absurd h (Nat.not_lt_zero _)))
/-- what a trial of the class leaves as it was -/
def FK (I : rI0) (J : rJ0) (I' : rI0) (J' : rJ0) : Prop := (∀ b, b ≠ 38 → b ≠ 39 → b ≠ 41 → I' b = I b) ∧ ∀ b, b ≠ 41 → J' b = J b
theorem FK.rf : FK I J I J := ⟨fun _ _ _ _ => rfl, fun _ _ => rfl⟩
theorem FK.tr {I1 I2 : rI0} {J1 J2 : rJ0} (h : FK I J I1 J1) (h2 : FK I1 J1 I2 J2) : FK I J I2 J2 := ⟨fun b h3 h4 h5 => (h2.1 b h3 h4 h5).trans (h.1 b h3 h4 h5), fun b hb => (h2.2 b hb).trans (h.2 b hb)⟩
theorem F41.k {I1 : rI0} {J1 : rJ0} (h : F41 I J I1 J1) : FK I J I1 J1 := ⟨fun b _ _ h5 => h.1 b h5, h.2⟩
theorem FK.s {a q : Nat} {v : Int32} (h : a = 38 ∨ a = 39) : FK I J (mSet I a q v) J := ⟨fun b h1 h2 _ => mSet_ne (by omega), fun _ _ => rfl⟩
theorem CE.k {I1 : rI0} {J1 : rJ0} (h : CE g W P H I J) (f : FK I J I1 J1) : CE g W P H I1 J1 := h.mv (fun b hb => f.1 b (by omega) (by omega) (by omega)) (fun b hb => f.2 b (by omega))
/-- the class: coalitionsOf -/
theorem c86x {n : Nat} {Q : Int32 → rI0 → rJ0 → Prop} (hC : CE g W P H I J) (e2 : I 2 = b) (hn : n ≤ 8) (hu : ulB g b 0 n = true) (k : ∀ I' J', FK I J I' J' → (∀ Y, Y < 2 ^ n → mnB (fun X => crB g W (paB P b n X) H) Y = true → I' 39 (nb (mnB (fun X => crB g W (paB P b n X) H)) Y) = nI Y) → Q (nI (nb (mnB (fun X => crB g W (paB P b n X) H)) (2 ^ n))) I' J') : wcI S (d + 23) 86 [.ref 37, .int (nI n)] x I J Q := by
  have h8 := pw_8 hn
  revert k
  generalize hcr : (fun X => crB g W (paB P b n X) H) = cr
  intro k
  have lp : ∀ (j X : Nat) (I1 : rI0) (J1 : rJ0), X + j = 2 ^ n → FK I J I1 J1 → (∀ Y, Y < X → mnB cr Y = true → I1 39 (nb (mnB cr) Y) = nI Y) → wp S (d + 23) 86 16 [some (.ref 37), some (.int (nI n)), some (.int (nI (gN g 3))), some (.int (nI (nb (mnB cr) X))), some (.int (nI X)), none, none] [] (wv x I1 J1) (rI x Q) := by
    intro j
    induction j with
    | zero =>
      intro X I1 J1 hX f hF
      have hX : X = 2 ^ n := by omega
      subst hX
      exact v86_37_16 ⟨fun q => absurd q (by rw [sh_1 n (by omega)]; exact nI_nlt (Nat.le_refl _) (by omega)), fun _ => k I1 J1 f hF⟩
    | succ j ih =>
      intro X I1 J1 hX f hF
      have hl := nb_le (p := mnB cr) X
      have hC1 := hC.k f
      have f2 : I1 2 = b := (f.1 2 (by decide) (by decide) (by decide)).trans e2
      have no : mnB cr X = false → ∀ (I2 : rI0) (J2 : rJ0), F41 I1 J1 I2 J2 → wp S (d + 23) 86 16 [some (.ref 37), some (.int (nI n)), some (.int (nI (gN g 3))), some (.int (nI (nb (mnB cr) X))), some (.int (nI X + 1)), none, none] [] (wv x I2 J2) (rI x Q) := by
        intro h I2 J2 f3
        have i2 := ih (X + 1) I2 J2 (by omega) (f.tr f3.k) (fun Y hY h1 => by
          by_cases z : Y = X
          · rw [z, h] at h1
            cases h1
          · rw [f3.1 39 (by decide)]
            exact hF Y (by omega) h1)
        rw [nb_s, h, if_neg (by decide), Nat.add_zero] at i2
        rw [← nI_succ]
        exact i2
      refine v86_37_16 (d := d + 22) ⟨fun _ => c87x (by omega) hF ?_, fun q => absurd (by rw [sh_1 n (by omega)]; exact nI_lt (by omega) (by omega)) q⟩
      cases y : pfB cr X with
      | true =>
        exact ⟨fun z => absurd z (by decide), fun _ => no (by rw [mn_pf, y]; rfl) I1 J1 F41.rf⟩
      | false =>
        refine ⟨fun _ => c82x (d := d + 22) f2 hn (by omega) hu (fun v hv => ht_41 (d := d) (P := paB P b n X) (H := H) hC1.1 hC1.2.1 (paB_s hC1.2.2.1 hu) (paB_e hC1.2.2.2.1 hv) hC1.2.2.2.2.1 (fun I2 J2 r f3 h1 h2 => ⟨fun q => ?_, fun q => ⟨nI_in (by omega) (by omega), ?_⟩⟩)), fun z => absurd rfl z⟩
        · have h3 := hC.2.2.2.2.2.2
          have q := (nI_ltI (by have := hgt_l (g := g) (W := W) (P := paB P b n X) (H := H) (t := 60); omega) (by omega)).mp q
          rw [nI_toInt (by omega)] at h2
          have c : cr X = false := by
            rw [← hcr]
            exact decide_eq_false (by omega)
          exact no (by rw [mn_pf, c, Bool.and_false]) I2 J2 f3
        · have h3 := hC.2.2.2.2.2.2
          have q : ¬ r < gN g 3 := fun w => q (nI_lt w (by omega))
          have c : cr X = true := by
            rw [← hcr]
            exact decide_eq_true (by omega)
          have m : mnB cr X = true := by
            rw [mn_pf, c, y]
            rfl
          rw [nI_clamp (by omega), ← nI_succ]
          have i2 := ih (X + 1) (mSet I2 39 (nb (mnB cr) X) (nI X)) J2 (by omega) ((f.tr f3.k).tr (FK.s (Or.inr rfl))) (fun Y hY h1 => by
            unfold mSet va_up
            rw [if_pos rfl]
            by_cases z : Y = X
            · rw [z, if_pos rfl]
            · have a := nb_mo (p := mnB cr) (a := Y + 1) X (by omega)
              rw [nb_s, if_pos h1] at a
              rw [if_neg (by omega), f3.1 39 (by decide)]
              exact hF Y (by omega) h1)
          rw [nb_s, m, if_pos rfl] at i2
          rw [← nI_succ]
          exact i2
  have st := lp (2 ^ n) 0 I J (by omega) FK.rf (fun Y h => absurd h (Nat.not_lt_zero _))
  refine c86_37 ?_
  rw [hC.2.2.2.2.2.1]
  exact st
end TR2
