section
/-! trials: the sets that carry and have no lesser part that does -/
section TR2
def sbB (Y X : Nat) : Bool := decide (Y &&& X = Y)
theorem m1_b : ∀ i, i < 32 → (-1 : Int32).toBitVec.getLsbD i = true := by decide
theorem z0_b : ∀ i, i < 32 → (0 : Int32).toBitVec.getLsbD i = false := by decide
theorem an_x {a c : Int32} : a &&& (c ^^^ (-1 : Int32)) = 0 ↔ a &&& c = a := by
  refine ⟨fun h => Int32.toBitVec_inj.mp (BitVec.eq_of_getLsbD_eq (fun i hi => ?_)), fun h => Int32.toBitVec_inj.mp (BitVec.eq_of_getLsbD_eq (fun i hi => ?_))⟩
  · have h1 : (a &&& (c ^^^ (-1 : Int32))).toBitVec.getLsbD i = (0 : Int32).toBitVec.getLsbD i := by rw [h]
    rw [Int32.toBitVec_and, Int32.toBitVec_xor, BitVec.getLsbD_and, BitVec.getLsbD_xor, m1_b i hi, z0_b i hi] at h1
    rw [Int32.toBitVec_and, BitVec.getLsbD_and]
    revert h1
    cases a.toBitVec.getLsbD i <;> cases c.toBitVec.getLsbD i <;> decide
  · have h1 : (a &&& c).toBitVec.getLsbD i = a.toBitVec.getLsbD i := by rw [h]
    rw [Int32.toBitVec_and, BitVec.getLsbD_and] at h1
    rw [Int32.toBitVec_and, Int32.toBitVec_xor, BitVec.getLsbD_and, BitVec.getLsbD_xor, m1_b i hi, z0_b i hi]
    revert h1
    cases a.toBitVec.getLsbD i <;> cases c.toBitVec.getLsbD i <;> decide
theorem nI_an (Y X : Nat) : nI Y &&& nI X = nI (Y &&& X) := Int32.toBitVec_inj.mp (by
  rw [Int32.toBitVec_and]
  exact BitVec.ofNat_and.symm)
theorem sb_r (X : Nat) (hX : X < 256) (Y : Nat) (hY : Y < 256) : decide (nI Y &&& nI X = nI Y) = sbB Y X := by
  refine decide_eq_decide.mpr ?_
  rw [nI_an]
  have := Nat.and_le_left (n := Y) (m := X)
  exact ⟨fun h => nI_inj (by omega) (by omega) h, fun h => by rw [h]⟩
theorem sb_c (X : Nat) (hX : X < 256) (Y : Nat) (hY : Y < 256) : decide (nI Y &&& (nI X ^^^ (-1 : Int32)) = 0) = sbB Y X := by
  rw [← sb_r X hX Y hY]
  exact decide_eq_decide.mpr an_x
def mnB (cr : Nat → Bool) (X : Nat) : Bool := cr X && decide (nb (fun Y => sbB Y X && cr Y) X = 0)
variable {cr : Nat → Bool}
theorem sb_tr {Z Y X : Nat} (h1 : sbB Z Y = true) (h2 : sbB Y X = true) : sbB Z X = true := by
  have h1 := of_decide_eq_true h1
  have h2 := of_decide_eq_true h2
  refine decide_eq_true ?_
  rw [← h1, Nat.and_assoc, h2]
theorem sb_rf {X : Nat} : sbB X X = true := decide_eq_true (Nat.and_self X)
theorem mn_ex : ∀ Y, cr Y = true → ∃ F, F ≤ Y ∧ mnB cr F = true ∧ sbB F Y = true := by
  intro Y
  induction Y using Nat.strongRecOn with
  | ind Y ih =>
    intro h
    by_cases z : nb (fun Z => sbB Z Y && cr Z) Y = 0
    · exact ⟨Y, Nat.le_refl _, by unfold mnB; rw [h, decide_eq_true z]; rfl, sb_rf⟩
    · obtain ⟨Z, hZ, e⟩ := (nb_pos Y).mp (show 0 < nb (fun Z => sbB Z Y && cr Z) Y by omega)
      rw [Bool.and_eq_true] at e
      obtain ⟨F, h1, h2, h3⟩ := ih Z hZ e.2
      exact ⟨F, by omega, h2, sb_tr h3 e.1⟩
/-- has X a found part? -/
def pfB (cr : Nat → Bool) (X : Nat) : Bool := decide (0 < nb (fun Y => mnB cr Y && sbB Y X) X)
theorem mn_pf {X : Nat} : mnB cr X = (!pfB cr X && cr X) := by
  cases h : cr X with
  | false =>
    unfold mnB
    rw [h, Bool.and_false, Bool.false_and]
  | true =>
    rw [show mnB cr X = decide (nb (fun Y => sbB Y X && cr Y) X = 0) from by unfold mnB; rw [h, Bool.true_and], show pfB cr X = decide (0 < nb (fun Y => mnB cr Y && sbB Y X) X) from rfl, Bool.and_true, ← decide_not]
    refine decide_eq_decide.mpr ⟨fun z w => ?_, fun z => ?_⟩
    · obtain ⟨Y, hY, e⟩ := (nb_pos X).mp w
      rw [Bool.and_eq_true] at e
      have e1 := e.1
      unfold mnB at e1
      rw [Bool.and_eq_true] at e1
      have : 0 < nb (fun Y => sbB Y X && cr Y) X := (nb_pos X).mpr ⟨Y, hY, by rw [e.2, e1.1]; rfl⟩
      omega
    · refine Classical.byContradiction (fun w => z ?_)
      obtain ⟨Y, hY, e⟩ := (nb_pos X).mp (show 0 < nb (fun Y => sbB Y X && cr Y) X by omega)
      rw [Bool.and_eq_true] at e
      obtain ⟨F, h1, h2, h3⟩ := mn_ex Y e.2
      exact (nb_pos X).mpr ⟨F, by omega, by rw [h2, sb_tr h3 e.1]; rfl⟩
theorem nb_ix {p : Nat → Bool} : ∀ n k, k < nb p n → ∃ i, i < n ∧ p i = true ∧ nb p i = k := by
  intro n
  induction n with
  | zero => exact fun k h => absurd h (Nat.not_lt_zero _)
  | succ n ih =>
    intro k h
    rw [nb_s] at h
    by_cases z : k < nb p n
    · obtain ⟨i, h1, h2, h3⟩ := ih k z
      exact ⟨i, by omega, h2, h3⟩
    · by_cases y : p n = true
      · rw [if_pos y] at h
        exact ⟨n, by omega, y, by omega⟩
      · rw [if_neg y] at h
        omega
theorem nb_mo {p : Nat → Bool} {a : Nat} : ∀ c, a ≤ c → nb p a ≤ nb p c := by
  intro c
  induction c with
  | zero => intro h; rw [show a = 0 by omega]; exact Nat.le_refl _
  | succ c ih =>
    intro h
    by_cases z : a = c + 1
    · rw [z]; exact Nat.le_refl _
    · have := ih (by omega)
      rw [nb_s]
      omega
/-- the answer: from the set X on, j sets -/
def coG (mn : Nat → Bool) (p : Int32) : Nat → Nat → Int32
  | 0, X => if p = -1 then nI (nb mn X) else -1
  | j + 1, X => if (mn X && decide (nI (nb mn X) = p)) = true then nI X else coG mn p j (X + 1)
theorem coG_y {mn : Nat → Bool} {p : Int32} {Y : Nat} (hY : Y < 1000) (h1 : mn Y = true) (h2 : nI (nb mn Y) = p) : ∀ j X, X ≤ Y → Y < X + j → coG mn p j X = nI Y := by
  intro j
  induction j with
  | zero => intro X h3 h4; omega
  | succ j ih =>
    intro X h3 h4
    show (if (mn X && decide (nI (nb mn X) = p)) = true then nI X else coG mn p j (X + 1)) = _
    by_cases z : X = Y
    · rw [z, h1, decide_eq_true h2]
      rfl
    · rw [if_neg (fun w => ?_)]
      · exact ih (X + 1) (by omega) (by omega)
      · rw [Bool.and_eq_true, decide_eq_true_iff] at w
        have a := nb_mo (p := mn) (a := X + 1) Y (by omega)
        rw [nb_s, if_pos w.1] at a
        have b := nb_le (p := mn) Y
        have := nI_inj (by omega) (by omega) (w.2.trans h2.symm)
        omega
theorem coG_n {mn : Nat → Bool} {p : Int32} : ∀ j X, (∀ Y, X ≤ Y → Y < X + j → mn Y = true → nI (nb mn Y) ≠ p) → coG mn p j X = if p = -1 then nI (nb mn (X + j)) else -1 := by
  intro j
  induction j with
  | zero => intro X _; rfl
  | succ j ih =>
    intro X h
    show (if (mn X && decide (nI (nb mn X) = p)) = true then nI X else coG mn p j (X + 1)) = _
    rw [if_neg (fun w => ?_), ih (X + 1) (fun Y h1 h2 => h Y (by omega) (by omega)), show X + 1 + j = X + (j + 1) by omega]
    rw [Bool.and_eq_true, decide_eq_true_iff] at w
    exact h X (Nat.le_refl _) (by omega) w.1 w.2
variable {S : Nat × (Nat → Int32)} {d : Nat} {x : mX} {I : rI0} {J : rJ0} {g b : Nat → Int32} {W : Nat → lV} {P H : Nat → Bool}
/-- the class: hasFoundPart -/
theorem c87x {X : Nat} {Q : Int32 → rI0 → rJ0 → Prop} (hX : X < 256) (hF : ∀ Y, Y < X → mnB cr Y = true → I 39 (nb (mnB cr) Y) = nI Y) (k : Q (nI (if pfB cr X = true then 1 else 0)) I J) : wcI S d 87 [.ref 37, .int (nI X), .int (nI (nb (mnB cr) X))] x I J Q := by
  have hl := nb_le (p := mnB cr) X
  have lp : ∀ (j i : Nat), i + j = nb (mnB cr) X → (∀ Y, Y < X → mnB cr Y = true → nb (mnB cr) Y < i → sbB Y X = false) → wp S d 87 2 [some (.ref 37), some (.int (nI X)), some (.int (nI (nb (mnB cr) X))), some (.int (nI i))] [] (wv x I J) (rI x Q) := by
    intro j
    induction j with
    | zero =>
      intro i hi h
      have e : pfB cr X = false := by
        refine decide_eq_false (fun w => ?_)
        obtain ⟨Y, hY, e⟩ := (nb_pos X).mp w
        rw [Bool.and_eq_true] at e
        have a := nb_mo (p := mnB cr) (a := Y + 1) X (by omega)
        rw [nb_s, if_pos e.1] at a
        have := h Y hY e.1 (by omega)
        rw [e.2] at this
        cases this
      rw [e] at k
      exact v87_37_2 ⟨fun q => absurd q (by rw [show i = nb (mnB cr) X by omega]; exact nI_nlt (Nat.le_refl _) (by omega)), fun _ => k⟩
    | succ j ih =>
      intro i hi h
      obtain ⟨Y, hY, h1, h2⟩ := nb_ix (p := mnB cr) X i (by omega)
      refine v87_37_2 ⟨fun _ => ⟨nI_in (by omega) (by omega), ?_⟩, fun q => absurd (nI_lt (by omega) (by omega)) q⟩
      have e39 := hF Y hY h1
      rw [h2] at e39
      rw [nI_clamp (by omega), e39]
      have sc := sb_c X hX Y (by omega)
      refine ⟨fun z => ?_, fun z => ?_⟩
      · rw [decide_eq_true z] at sc
        have e : pfB cr X = true := decide_eq_true ((nb_pos X).mpr ⟨Y, hY, by rw [h1, ← sc]; rfl⟩)
        rw [e] at k
        exact k
      · rw [decide_eq_false z] at sc
        rw [← nI_succ]
        refine ih (i + 1) (by omega) (fun Z hZ h3 h4 => ?_)
        by_cases y : nb (mnB cr) Z < i
        · exact h Z hZ h3 y
        · have y : nb (mnB cr) Z = nb (mnB cr) Y := by omega
          have : Z = Y := by
            rcases Nat.lt_trichotomy Z Y with w | w | w
            · have a := nb_mo (p := mnB cr) (a := Z + 1) Y (by omega)
              rw [nb_s, if_pos h3] at a
              omega
            · exact w
            · have a := nb_mo (p := mnB cr) (a := Y + 1) Z (by omega)
              rw [nb_s, if_pos h1] at a
              omega
          rw [this]
          exact sc.symm
  exact c87_37 (lp (nb (mnB cr) X) 0 (by omega) (fun Y _ _ h => absurd h (Nat.not_lt_zero _)))
/-- what a trial of the class leaves as it was -/
def FK (I : rI0) (J : rJ0) (I' : rI0) (J' : rJ0) : Prop := (∀ b, b ≠ 38 → b ≠ 39 → b ≠ 41 → I' b = I b) ∧ ∀ b, b ≠ 41 → J' b = J b
theorem FK.rf : FK I J I J := ⟨fun _ _ _ _ => rfl, fun _ _ => rfl⟩
theorem FK.tr {I1 I2 : rI0} {J1 J2 : rJ0} (h : FK I J I1 J1) (h2 : FK I1 J1 I2 J2) : FK I J I2 J2 := ⟨fun b h3 h4 h5 => (h2.1 b h3 h4 h5).trans (h.1 b h3 h4 h5), fun b hb => (h2.2 b hb).trans (h.2 b hb)⟩
theorem F41.k {I1 : rI0} {J1 : rJ0} (h : F41 I J I1 J1) : FK I J I1 J1 := ⟨fun b _ _ h5 => h.1 b h5, h.2⟩
theorem FK.s {a q : Nat} {v : Int32} (h : a = 38 ∨ a = 39) : FK I J (mSet I a q v) J := ⟨fun b h1 h2 _ => mSet_ne (by omega), fun _ _ => rfl⟩
theorem CE.k {I1 : rI0} {J1 : rJ0} (h : CE g W P H I J) (f : FK I J I1 J1) : CE g W P H I1 J1 := h.mv (fun b hb => f.1 b (by omega) (by omega) (by omega)) (fun b hb => f.2 b (by omega))
/-- the class: coalitionsOf -/
theorem c86x {n : Nat} {Q : Int32 → rI0 → rJ0 → Prop} (hC : CE g W P H I J) (e2 : I 2 = b) (hn : n ≤ 8) (hu : ulB g b 0 n = true) (k : ∀ I' J', FK I J I' J' → (∀ Y, Y < 2 ^ n → mnB (fun X => crB g W (paB P b n X) H) Y = true → I' 39 (nb (mnB (fun X => crB g W (paB P b n X) H)) Y) = nI Y) → Q (nI (nb (mnB (fun X => crB g W (paB P b n X) H)) (2 ^ n))) I' J') : wcI S (d + 23) 86 [.ref 37, .int (nI n)] x I J Q := by
  have h8 := pw_8 hn
  revert k
  generalize hcr : (fun X => crB g W (paB P b n X) H) = cr
  intro k
  have lp : ∀ (j X : Nat) (I1 : rI0) (J1 : rJ0), X + j = 2 ^ n → FK I J I1 J1 → (∀ Y, Y < X → mnB cr Y = true → I1 39 (nb (mnB cr) Y) = nI Y) → wp S (d + 23) 86 16 [some (.ref 37), some (.int (nI n)), some (.int (nI (gN g 3))), some (.int (nI (nb (mnB cr) X))), some (.int (nI X)), none, none] [] (wv x I1 J1) (rI x Q) := by
    intro j
    induction j with
    | zero =>
      intro X I1 J1 hX f hF
      have hX : X = 2 ^ n := by omega
      subst hX
      exact v86_37_16 ⟨fun q => absurd q (by rw [sh_1 n (by omega)]; exact nI_nlt (Nat.le_refl _) (by omega)), fun _ => k I1 J1 f hF⟩
    | succ j ih =>
      intro X I1 J1 hX f hF
      have hl := nb_le (p := mnB cr) X
      have hC1 := hC.k f
      have f2 : I1 2 = b := (f.1 2 (by decide) (by decide) (by decide)).trans e2
      have no : mnB cr X = false → ∀ (I2 : rI0) (J2 : rJ0), F41 I1 J1 I2 J2 → wp S (d + 23) 86 16 [some (.ref 37), some (.int (nI n)), some (.int (nI (gN g 3))), some (.int (nI (nb (mnB cr) X))), some (.int (nI X + 1)), none, none] [] (wv x I2 J2) (rI x Q) := by
        intro h I2 J2 f3
        have i2 := ih (X + 1) I2 J2 (by omega) (f.tr f3.k) (fun Y hY h1 => by
          by_cases z : Y = X
          · rw [z, h] at h1
            cases h1
          · rw [f3.1 39 (by decide)]
            exact hF Y (by omega) h1)
        rw [nb_s, h, if_neg (by decide), Nat.add_zero] at i2
        rw [← nI_succ]
        exact i2
      refine v86_37_16 (d := d + 22) ⟨fun _ => c87x (by omega) hF ?_, fun q => absurd (by rw [sh_1 n (by omega)]; exact nI_lt (by omega) (by omega)) q⟩
      cases y : pfB cr X with
      | true =>
        exact ⟨fun z => absurd z (by decide), fun _ => no (by rw [mn_pf, y]; rfl) I1 J1 F41.rf⟩
      | false =>
        refine ⟨fun _ => c82x (d := d + 22) f2 hn (by omega) hu (fun v hv => ht_41 (d := d) (P := paB P b n X) (H := H) hC1.1 hC1.2.1 (paB_s hC1.2.2.1 hu) (paB_e hC1.2.2.2.1 hv) hC1.2.2.2.2.1 (fun I2 J2 r f3 h1 h2 => ⟨fun q => ?_, fun q => ⟨nI_in (by omega) (by omega), ?_⟩⟩)), fun z => absurd rfl z⟩
        · have h3 := hC.2.2.2.2.2.2
          have q := (nI_ltI (by have := hgt_l (g := g) (W := W) (P := paB P b n X) (H := H) (t := 60); omega) (by omega)).mp q
          rw [nI_toInt (by omega)] at h2
          have c : cr X = false := by
            rw [← hcr]
            exact decide_eq_false (by omega)
          exact no (by rw [mn_pf, c, Bool.and_false]) I2 J2 f3
        · have h3 := hC.2.2.2.2.2.2
          have q : ¬ r < gN g 3 := fun w => q (nI_lt w (by omega))
          have c : cr X = true := by
            rw [← hcr]
            exact decide_eq_true (by omega)
          have m : mnB cr X = true := by
            rw [mn_pf, c, y]
            rfl
          rw [nI_clamp (by omega), ← nI_succ]
          have i2 := ih (X + 1) (mSet I2 39 (nb (mnB cr) X) (nI X)) J2 (by omega) ((f.tr f3.k).tr (FK.s (Or.inr rfl))) (fun Y hY h1 => by
            unfold mSet va_up
            rw [if_pos rfl]
            by_cases z : Y = X
            · rw [z, if_pos rfl]
            · have a := nb_mo (p := mnB cr) (a := Y + 1) X (by omega)
              rw [nb_s, if_pos h1] at a
              rw [if_neg (by omega), f3.1 39 (by decide)]
              exact hF Y (by omega) h1)
          rw [nb_s, m, if_pos rfl] at i2
          rw [← nI_succ]
          exact i2
  have st := lp (2 ^ n) 0 I J (by omega) FK.rf (fun Y h => absurd h (Nat.not_lt_zero _))
  refine c86_37 ?_
  rw [hC.2.2.2.2.2.1]
  exact st
end TR2
end
section
/-! trials: coalitions of the reference; cheapest, hush and coalitions of the class -/
section TR3
def coalV (g : Nat → Int32) (W : Nat → lV) (P H : Nat → Bool) (b : Nat → Int32) (n : Nat) (p : Int32) : Int32 := if hdB g b n = true then coG (mnB (fun X => crB g W (paB P b n X) H)) p (2 ^ n) 0 else -2
variable {S : Nat × (Nat → Int32)} {d : Nat} {x : mX} {I I1 I2 : rI0} {J J1 J2 : rJ0} {g b : Nat → Int32} {W : Nat → lV} {P H : Nat → Bool}
theorem FU.s {a q : Nat} {v : Int32} (f : FU I J I1 J1) (h : a = 57 ∨ a = 58) : FU I J (mSet I1 a q v) J1 := ⟨fun b h1 h2 h3 => (mSet_ne (by omega)).trans (f.1 b h1 h2 h3), fun q' h1 h2 h3 h4 h5 => by rw [mSet_ne (by omega)]; exact f.2.1 q' h1 h2 h3 h4 h5, f.2.2.1, f.2.2.2.1, by rw [mSet_ne (by omega)]; exact f.2.2.2.2⟩
theorem RH.s {a q : Nat} {v : Int32} (h : RH g W I J) (ha : a = 57 ∨ a = 58) : RH g W (mSet I a q v) J := ⟨h.1, h.2.1, h.2.2.1, h.2.2.2.1, (mSet_ne (by omega)).trans h.2.2.2.2.1, fun z => h.2.2.2.2.2 (by rw [mSet_ne (by omega)] at z; exact z)⟩
theorem ni_01 {c : Bool} : vp_nar .boolean (nI (if c = true then 1 else 0)) = nI (if c = true then 1 else 0) := by
  cases c <;> decide
theorem r222x {n : Nat} {p : Int32} {Q : Int32 → rI0 → rJ0 → Prop} (hR : RH g W I J) (h3 : gN g 3 ≤ 64) (e16 : ∀ s, s < 64 → bits5 (J 43 16) s = P s) (e17 : ∀ s, s < 64 → bits5 (J 43 17) s = H s) (hb : ∀ i, i < 940 → I 44 i &&& 255 = b i) (e2 : I 43 2 = nI n) (hn : n ≤ 940) (k : ∀ I' J', FU I J I' J' → RH g W I' J' → Q (coalV g W P H b n p) I' J') : wcI S (d + 6) 222 [.ref 43, .int p] x I J Q := by
  refine c222_43 (d := d + 5) (rHd (d := d + 2) (n := n) (b := b) hR hb e2 hn (fun h I1 f r => ⟨fun _ => ?_, fun z => absurd rfl z⟩) (fun h I1 f r e47 h56 => ⟨fun z => absurd z (by decide), fun _ => ⟨fun q => ?_, fun q => ?_⟩⟩))
  · have kk := k I1 J f r
    unfold coalV at kk
    rw [h] at kk
    exact kk
  · have kk := k I1 J f r
    obtain ⟨n1, n8, hu⟩ := hdB_t h
    have h8 := pw_8 n8
    unfold coalV at kk
    rw [if_pos h, coG_n (2 ^ n) 0 (fun Y _ hY _ z => ?_), if_neg (fun z => ?_)] at kk
    · exact kk
    · rw [z] at q
      exact absurd q (by decide)
    · rw [← z] at q
      have a := nb_le (p := mnB (fun X => crB g W (paB P b n X) H)) Y
      rw [Int32.lt_iff_toInt_lt, nI_toInt (by omega)] at q
      have e : (-1 : Int32).toInt = -1 := by decide
      omega
  · obtain ⟨n1, n8, hu⟩ := hdB_t h
    have h8 := pw_8 n8
    have kk : ∀ I' J', FU I J I' J' → RH g W I' J' → Q (coG (mnB (fun X => crB g W (paB P b n X) H)) p (2 ^ n) 0) I' J' := by
      intro I' J' h1 h2
      have kk := k I' J' h1 h2
      unfold coalV at kk
      rw [if_pos h] at kk
      exact kk
    revert kk
    generalize hcr : (fun X => crB g W (paB P b n X) H) = cr
    intro kk
    have lp : ∀ (j X : Nat) (I2 : rI0) (J2 : rJ0), X + j = 2 ^ n → FU I J I2 J2 → RH g W I2 J2 → I2 43 47 = nI n → (∀ j, j < n → I2 56 j = b j) → (∀ Y, Y < X → I2 57 Y = nI (if cr Y = true then 1 else 0)) → (∀ I' J', FU I J I' J' → RH g W I' J' → Q (coG (mnB cr) p j X) I' J') → wp S (d + 6) 222 26 [some (.ref 43), some (.int p), some (.int (nI (nb (mnB cr) X))), some (.int (nI X)), none, none] [] (wv x I2 J2) (rI x Q) := by
      intro j
      induction j with
      | zero =>
        intro X I2 J2 hX f2 r2 e47b h56b h57 c
        have hX : X = 2 ^ n := by omega
        subst hX
        have cc : Q (if p = -1 then nI (nb (mnB cr) (2 ^ n)) else -1) I2 J2 := c I2 J2 f2 r2
        refine v222_43_26 ⟨fun q => absurd q (by rw [e47b, sh_1 n (by omega)]; exact nI_nlt (Nat.le_refl _) (by omega)), fun _ => ⟨fun z => ?_, fun z => ?_⟩⟩
        · rw [if_pos z] at cc
          exact cc
        · rw [if_neg z] at cc
          exact cc
      | succ j ih =>
        intro X I2 J2 hX f2 r2 e47b h56b h57 c
        have hl := nb_le (p := mnB cr) X
        have c : ∀ I' J', FU I J I' J' → RH g W I' J' → Q (if (mnB cr X && decide (nI (nb (mnB cr) X) = p)) = true then nI X else coG (mnB cr) p j (X + 1)) I' J' := c
        refine v222_43_26 (d := d + 5) ⟨fun _ => r218x (d := d + 4) (b := b) (n := n) (g := g) e47b h56b n8 (by omega) hu (fun v hv => rht (d := d) (P := paB P b n X) (H := H) r2 h3 (paB_e (fun s hs => by rw [f2.2.2.2.1 16 (by omega)]; exact e16 s hs) hv) (fun s hs => by rw [f2.2.2.2.1 17 (by omega)]; exact e17 s hs) (fun I3 J3 f3 h4 h44 h45 => ⟨nI_in (by omega) (by omega), ?_⟩)), fun q => absurd (by rw [e47b, sh_1 n (by omega)]; exact nI_lt (by omega) (by omega)) q⟩
        have ec : I3 43 45 = nI (if cr X = true then 1 else 0) := by
          rw [h45, ← hcr]
          show _ = nI (if decide (gN g 3 ≤ hgt g W (paB P b n X) H 60) = true then 1 else 0)
          by_cases z : gN g 3 ≤ hgt g W (paB P b n X) H 60
          · rw [if_pos z, decide_eq_true z]
            rfl
          · rw [if_neg z, decide_eq_false z]
            rfl
        rw [ec, ni_01, nI_clamp (by omega)]
        have f4 : FU I J (mSet I3 57 X (nI (if cr X = true then 1 else 0))) J3 := (f2.h f3).s (Or.inl rfl)
        have r4 : RH g W (mSet I3 57 X (nI (if cr X = true then 1 else 0))) J3 := h4.h.s (Or.inl rfl)
        have e47d : (mSet I3 57 X (nI (if cr X = true then 1 else 0))) 43 47 = nI n := (f3.2.1 47 (by decide) (by omega)).trans e47b
        have h56d : ∀ j, j < n → (mSet I3 57 X (nI (if cr X = true then 1 else 0))) 56 j = b j := fun j hj => by
          rw [mSet_ne (by decide), f3.1 56 (by decide) (by decide)]
          exact h56b j hj
        have h57d : ∀ Y, Y < X + 1 → (mSet I3 57 X (nI (if cr X = true then 1 else 0))) 57 Y = nI (if cr Y = true then 1 else 0) := fun Y hY => by
          unfold mSet va_up
          rw [if_pos rfl]
          by_cases z : Y = X
          · rw [z, if_pos rfl]
          · rw [if_neg z, f3.1 57 (by decide) (by decide)]
            exact h57 Y (by omega)
        revert f4 r4 e47d h56d h57d
        generalize mSet I3 57 X (nI (if cr X = true then 1 else 0)) = I4
        intro f4 r4 e47d h56d h57d
        have no : mnB cr X = false → wp S (d + 6) 222 26 [some (.ref 43), some (.int p), some (.int (nI (nb (mnB cr) X))), some (.int (nI X + 1)), none, none] [] (wv x I4 J3) (rI x Q) := by
          intro m
          rw [m, Bool.false_and] at c
          have i2 := ih (X + 1) I4 J3 (by omega) f4 r4 e47d h56d h57d (fun I' J' h1 h2 => c I' J' h1 h2)
          rw [nb_s, m, if_neg (by decide), Nat.add_zero] at i2
          rw [← nI_succ]
          exact i2
        have inn : ∀ (q i : Nat), i + q = X → wp S (d + 6) 222 74 [some (.ref 43), some (.int p), some (.int (nI (nb (mnB cr) X))), some (.int (nI X)), some (.int (nI (if (cr X && decide (nb (fun Y => sbB Y X && cr Y) i = 0)) = true then 1 else 0))), some (.int (nI i))] [] (wv x I4 J3) (rI x Q) := by
          intro q
          induction q with
          | zero =>
            intro i hi
            have hi : i = X := by omega
            subst hi
            refine v222_43_74 ⟨fun w => absurd w (nI_nlt (Nat.le_refl _) (by omega)), fun _ => ?_⟩
            rw [show (cr i && decide (nb (fun Y => sbB Y i && cr Y) i = 0)) = mnB cr i from rfl]
            cases m : mnB cr i with
            | false => exact ⟨fun _ => no m, fun z => absurd rfl z⟩
            | true =>
              rw [m, Bool.true_and] at c
              refine ⟨fun z => absurd z (by decide), fun _ => ⟨fun z => ?_, fun z => ?_⟩⟩
              · have cc := c I4 J3 f4 r4
                rw [decide_eq_true z] at cc
                exact cc
              · rw [decide_eq_false z] at c
                have i2 := ih (i + 1) I4 J3 (by omega) f4 r4 e47d h56d h57d (fun I' J' h1 h2 => c I' J' h1 h2)
                rw [nb_s, m, if_pos rfl] at i2
                rw [← nI_succ, ← nI_succ]
                exact i2
          | succ q ihq =>
            intro i hi
            have i2 := ihq (i + 1) (by omega)
            have hm : ∀ m, i ≤ m → m ≤ X → (cr X && decide (nb (fun Y => sbB Y X && cr Y) i = 0)) = false → (cr X && decide (nb (fun Y => sbB Y X && cr Y) m = 0)) = false := by
              intro m h1 h2 h5
              cases z : cr X with
              | false => rfl
              | true =>
                rw [z, Bool.true_and] at h5
                have h5 := of_decide_eq_false h5
                have := nb_mo (p := fun Y => sbB Y X && cr Y) (a := i) m h1
                rw [Bool.true_and]
                exact decide_eq_false (by omega)
            refine v222_43_74 ⟨fun _ => ?_, fun w => absurd (nI_lt (by omega) (by omega)) w⟩
            cases y : (cr X && decide (nb (fun Y => sbB Y X && cr Y) i = 0)) with
            | false =>
              exact ⟨fun _ => ⟨fun _ => no (hm X (by omega) (Nat.le_refl _) y), fun z => absurd rfl z⟩, fun z => absurd rfl z⟩
            | true =>
              rw [Bool.and_eq_true, decide_eq_true_iff] at y
              have es : (cr X && decide (nb (fun Y => sbB Y X && cr Y) (i + 1) = 0)) = !(sbB i X && cr i) := by
                rw [y.1, nb_s, y.2, Bool.true_and]
                cases (sbB i X && cr i) <;> rfl
              rw [es] at i2
              have sr := sb_r X (by omega) i (by omega)
              refine ⟨fun z => absurd z (by decide), fun _ => ⟨fun z => ⟨nI_in (by omega) (by omega), ?_⟩, fun z => ?_⟩⟩
              · rw [decide_eq_true z] at sr
                rw [← sr, Bool.true_and] at i2
                rw [nI_clamp (by omega), h57d i (by omega), ← nI_succ]
                cases w : cr i with
                | true =>
                  rw [w] at i2
                  exact ⟨fun z => absurd z (by decide), fun _ => i2⟩
                | false =>
                  rw [w] at i2
                  exact ⟨fun _ => i2, fun z => absurd rfl z⟩
              · rw [decide_eq_false z] at sr
                rw [← sr, Bool.false_and] at i2
                rw [← nI_succ]
                exact i2
        have st := inn X 0 (by omega)
        have e0 : (cr X && decide (nb (fun Y => sbB Y X && cr Y) 0 = 0)) = cr X := by
          rw [show nb (fun Y => sbB Y X && cr Y) 0 = 0 from rfl]
          exact Bool.and_true _
        rw [e0] at st
        exact st
    exact lp (2 ^ n) 0 I1 J (by omega) f r e47 h56 (fun Y hY => absurd hY (Nat.not_lt_zero _)) kk
/-! the class -/
def FC (I : rI0) (J : rJ0) (I' : rI0) (J' : rJ0) : Prop := (∀ b, b ≠ 1 → b ≠ 38 → b ≠ 39 → b ≠ 41 → I' b = I b) ∧ (∀ q, q ≠ 1 → I' 1 q = I 1 q) ∧ I' 1 1 = 0 ∧ ∀ b, b ≠ 41 → J' b = J b
theorem FK.c (f : FK (mSet I 1 1 0) J I1 J1) : FC I J I1 J1 := ⟨fun b h1 h2 h3 h4 => (f.1 b h2 h3 h4).trans (mSet_ne h1), fun q h => by rw [f.1 1 (by decide) (by decide) (by decide)]; unfold mSet va_up; rw [if_pos rfl, if_neg h], by rw [f.1 1 (by decide) (by decide) (by decide)]; rfl, f.2⟩
theorem CE.tk (h : CE g W P H I J) : CE g W P H (mSet I 1 1 0) J := h
theorem xHd {n : Nat} {Q : Int32 → rI0 → rJ0 → Prop} (hC : CE g W P H I J) (hn : n ≤ 940) (k0 : hdB g (I 2) n = false → Q 0 (mSet I 1 1 0) J) (k1 : hdB g (I 2) n = true → Q 1 (mSet I 1 1 0) J) : wcI S (d + 2) 80 [.ref 37, .int (nI n)] x (mSet I 1 1 0) J Q := by
  refine c80x (d := d) (g := g) (b := I 2) hC.tk.2.1.2.2.2.2.1 rfl hn ?_
  cases y : hdB g (I 2) n with
  | false =>
    have z := y
    unfold hdB at z
    rw [z]
    exact k0 y
  | true =>
    have z := y
    unfold hdB at z
    rw [z]
    exact k1 y
theorem xCheap {n : Nat} {Q : Int32 → rI0 → rJ0 → Prop} (hC : CE g W P H I J) (hp : ∀ r, r < 8 → I 7 r = nI (gN g (70 + r))) (hpl : ∀ r, r < 8 → gN g (70 + r) ≤ 999) (e1 : I 1 1 = nI n) (hn : n ≤ 940) (k : ∀ I' J', FC I J I' J' → Q (cheV g W P H (I 2) n) (stI I' 37 8 (chB g W P H (I 2) n)) J') : wcI S (d + 24) 119 [.ref 0] x I J Q := by
  refine c119_0 (d := d + 23) (c67_1 ?_)
  rw [e1]
  refine xHd (d := d + 21) hC hn (fun h => ⟨fun _ => ?_, fun z => absurd rfl z⟩) (fun h => ⟨fun z => absurd z (by decide), fun _ => ?_⟩)
  · have kk := k _ _ (FK.rf.c)
    unfold cheV stI chB at kk
    rw [h] at kk
    exact kk
  · obtain ⟨n1, n8, hu⟩ := hdB_t h
    have hC1 := hC.tk
    refine c84x (d := d) (b := I 2) hC1.1 hC1.2.1 hC1.2.2.2.2.2.1 hC1.2.2.2.2.2.2 hC1.2.2.1 hC1.2.2.2.1 hC1.2.2.2.2.1 (fun r hr => hp r hr) hpl rfl n8 hu (fun I' J' f => ?_)
    have kk := k I' J' f.k.c
    unfold cheV stI chB at kk
    rw [if_pos h, if_pos h] at kk
    exact kk
theorem xHush {n : Nat} {Q : Int32 → rI0 → rJ0 → Prop} (hC : CE g W P H I J) (e1 : I 1 1 = nI n) (hn : n ≤ 940) (k : ∀ I' J', FC I J I' J' → Q (hushV g W P H (I 2) n) I' J') : wcI S (d + 24) 121 [.ref 0] x I J Q := by
  refine c121_0 (d := d + 23) (c67_1 ?_)
  rw [e1]
  refine xHd (d := d + 21) hC hn (fun h => ⟨fun _ => ?_, fun z => absurd rfl z⟩) (fun h => ⟨fun z => absurd z (by decide), fun _ => ?_⟩)
  · have kk := k _ _ (FK.rf.c)
    unfold hushV at kk
    rw [h] at kk
    exact kk
  · obtain ⟨n1, n8, hu⟩ := hdB_t h
    have hC1 := hC.tk
    refine c85x (d := d) (b := I 2) hC1.1 hC1.2.1 hC1.2.2.2.2.2.1 hC1.2.2.2.2.2.2 hC1.2.2.1 hC1.2.2.2.1 hC1.2.2.2.2.1 rfl n8 hu (fun I' J' f => ?_)
    have kk := k I' J' f.k.c
    unfold hushV at kk
    rw [if_pos h] at kk
    exact kk
theorem xCoal {n : Nat} {p : Int32} {Q : Int32 → rI0 → rJ0 → Prop} (hC : CE g W P H I J) (e1 : I 1 1 = nI n) (hn : n ≤ 940) (k : ∀ I' J', FC I J I' J' → Q (coalV g W P H (I 2) n p) I' J') : wcI S (d + 24) 122 [.ref 0, .int p] x I J Q := by
  refine c122_0 (d := d + 23) (c67_1 ?_)
  rw [e1]
  refine xHd (d := d + 21) hC hn (fun h => ⟨fun _ => ?_, fun z => absurd rfl z⟩) (fun h => ⟨fun z => absurd z (by decide), fun _ => ?_⟩)
  · have kk := k _ _ (FK.rf.c)
    unfold coalV at kk
    rw [h] at kk
    exact kk
  · obtain ⟨n1, n8, hu⟩ := hdB_t h
    have h8 := pw_8 n8
    have hC1 := hC.tk
    refine c86x (d := d) (b := I 2) hC1 rfl n8 hu (fun I' J' f hF => ?_)
    have kk := k I' J' f.c
    unfold coalV at kk
    rw [if_pos h] at kk
    revert kk hF
    generalize (mnB (fun X => crB g W (paB P (I 2) n X) H)) = mn
    intro hF kk
    have hl := nb_le (p := mn) (2 ^ n)
    have lt : ∀ Y, Y < 2 ^ n → mn Y = true → nb mn Y < nb mn (2 ^ n) := by
      intro Y hY h1
      have a := nb_mo (p := mn) (a := Y + 1) (2 ^ n) (by omega)
      rw [nb_s, if_pos h1] at a
      omega
    have e1 : (-1 : Int32).toInt = -1 := by decide
    refine ⟨fun z => ?_, fun z => ⟨fun q => ?_, fun q => ⟨fun q2 => ?_, fun q2 => ?_⟩⟩⟩
    · rw [coG_n (2 ^ n) 0 (fun Y _ hY h1 w => ?_), if_pos z, Nat.zero_add] at kk
      · exact kk
      · rw [z] at w
        have := lt Y (by omega) h1
        exact absurd w (nI_n1 (by omega))
    · rw [coG_n (2 ^ n) 0 (fun Y _ hY h1 w => ?_), if_neg z] at kk
      · exact kk
      · rw [← w] at q
        have := lt Y (by omega) h1
        exact absurd q (nI_n0 (by omega))
    · rw [Int32.lt_iff_toInt_lt] at q q2
      rw [nI_toInt (by omega)] at q2
      have e0 : (0 : Int32).toInt = 0 := by decide
      have ep : p = nI p.toInt.toNat := Int32.toInt_inj.mp (by rw [nI_toInt (by omega)]; omega)
      obtain ⟨Y, hY, h1, h2⟩ := nb_ix (p := mn) (2 ^ n) p.toInt.toNat (by omega)
      rw [coG_y (Y := Y) (by omega) h1 (by rw [h2]; exact ep.symm) (2 ^ n) 0 (Nat.zero_le _) (by omega)] at kk
      have e39 := hF Y hY h1
      rw [h2] at e39
      rw [ep, nI_clamp (by omega), e39]
      exact ⟨nI_in (by omega) (by omega), kk⟩
    · rw [coG_n (2 ^ n) 0 (fun Y _ hY h1 w => ?_), if_neg z] at kk
      · exact kk
      · rw [← w] at q2
        exact absurd (nI_lt (lt Y (by omega) h1) (by omega)) q2
end TR3
end
section
/-! trials: what each hand adds, over all orders -/
section TR4
def faN : Nat → Nat
  | 0 => 1
  | n + 1 => (n + 1) * faN n
theorem fa_b : ∀ a, a < 8 → ∀ c, c < 8 → a + c ≤ 7 → faN a * faN c ≤ 5040 := by decide
theorem fa_8 : ∀ a, a < 9 → 1 ≤ faN a ∧ faN a ≤ 40320 := by decide
theorem d32 : ∀ a, a < 65 → ∀ c, c < 65 → nI a - nI c = Int32.ofInt ((a : Int) - (c : Int)) := by decide +kernel
theorem d64 : ∀ a, a < 65 → ∀ c, c < 65 → (nI a - nI c).toInt64 = Int64.ofInt ((a : Int) - (c : Int)) := by decide +kernel
theorem ni_64 : ∀ a, a < 10 → (nI a).toInt64 = Int64.ofNat a := by decide +kernel
theorem nI_or (Y X : Nat) : nI Y ||| nI X = nI (Y ||| X) := Int32.toBitVec_inj.mp (by
  rw [Int32.toBitVec_or]
  exact BitVec.ofNat_or.symm)
theorem nI_oi (m : Nat) : nI m = Int32.ofInt (m : Int) := Int32.ofInt_eq_ofNat.symm
/-- what hand i adds behind the sets below X -/
def tmI (h : Nat → Nat) (n i X : Nat) : Int := if X.testBit i = true then 0 else ((faN (bcN X) * faN (n - 1 - bcN X) : Nat) : Int) * ((h (X ||| 2 ^ i) : Int) - (h X : Int))
def adI (h : Nat → Nat) (n i : Nat) : Nat → Int
  | 0 => 0
  | X + 1 => adI h n i X + tmI h n i X
theorem nb_lt1 {p : Nat → Bool} {i : Nat} (hp : p i = false) : ∀ n, i < n → nb p n < n := by
  intro n
  induction n with
  | zero => intro h; omega
  | succ n ih =>
    intro h
    rw [nb_s]
    by_cases z : i = n
    · rw [← z, hp, if_neg (by decide)]
      have := nb_le (p := p) i
      omega
    · have := ih (by omega)
      split <;> omega
theorem bc_n {n X i : Nat} (hn : n ≤ 8) (hX : X < 2 ^ n) (hi : i < n) (ht : ¬ X.testBit i = true) : bcN X + 1 ≤ n := by
  have a := nb_lt1 (p := fun i => X.testBit i) (ts_nt ht) n hi
  have e : bcN X = nb (fun i => X.testBit i) n := by
    show nb (fun i => X.testBit i) 8 = _
    rw [show 8 = n + (8 - n) by omega, nb_ad, nb_none (8 - n) (fun j hj => ?_), Nat.add_zero]
    exact Nat.testBit_lt_two_pow (Nat.lt_of_lt_of_le hX (Nat.pow_le_pow_right (by omega) (by omega)))
  omega
theorem or_l {n X i : Nat} (hX : X < 2 ^ n) (hi : i < n) : X ||| 2 ^ i < 2 ^ n := Nat.or_lt_two_pow hX (Nat.pow_lt_pow_right (by decide) hi)
theorem tm_b {h : Nat → Nat} {n i X : Nat} (hh : ∀ Y, h Y ≤ 64) (hn : n ≤ 8) (hX : X < 2 ^ n) (hi : i < n) : -322560 ≤ tmI h n i X ∧ tmI h n i X ≤ 322560 := by
  unfold tmI
  split
  · omega
  · rename_i ht
    have b := bc_n hn hX hi ht
    have c := fa_b (bcN X) (by omega) (n - 1 - bcN X) (by omega) (by omega)
    have h1 := hh (X ||| 2 ^ i)
    have h2 := hh X
    revert c
    generalize faN (bcN X) * faN (n - 1 - bcN X) = q
    generalize h (X ||| 2 ^ i) = u at *
    generalize h X = w at *
    intro c
    have m1 : (q : Int) * ((u : Int) - (w : Int)) ≤ (q : Int) * 64 := Int.mul_le_mul_of_nonneg_left (by omega) (by omega)
    have m2 : (q : Int) * (-64) ≤ (q : Int) * ((u : Int) - (w : Int)) := Int.mul_le_mul_of_nonneg_left (by omega) (by omega)
    omega
theorem ad_b {h : Nat → Nat} {n i : Nat} (hh : ∀ Y, h Y ≤ 64) (hn : n ≤ 8) (hi : i < n) : ∀ X : Nat, X ≤ 2 ^ n → -(322560 * (X : Int)) ≤ adI h n i X ∧ adI h n i X ≤ 322560 * (X : Int) := by
  intro X
  induction X with
  | zero =>
    intro _
    show -(322560 * ((0 : Nat) : Int)) ≤ (0 : Int) ∧ (0 : Int) ≤ 322560 * ((0 : Nat) : Int)
    decide
  | succ X ih =>
    intro hX
    have a := ih (by omega)
    have b := tm_b (h := h) hh hn (show X < 2 ^ n by omega) hi
    show -(322560 * ((X + 1 : Nat) : Int)) ≤ adI h n i X + tmI h n i X ∧ adI h n i X + tmI h n i X ≤ _
    omega
variable {S : Nat × (Nat → Int32)} {d : Nat} {x : mX} {I : rI0} {J : rJ0} {g b : Nat → Int32} {W : Nat → lV} {P H : Nat → Bool}
/-- the class: factorial -/
theorem c90x {v : Int32} {m : Nat} {Q : Int32 → rI0 → rJ0 → Prop} (hm : m ≤ 8) (hv : v.toInt = (m : Int)) (k : Q (nI (faN m)) I J) : wcI S d 90 [.ref 37, .int v] x I J Q := by
  have ev : v = nI m := Int32.toInt_inj.mp (by rw [nI_toInt (by omega)]; exact hv)
  subst ev
  have lp : ∀ (j i : Nat), i + j = m → wp S d 90 4 [some (.ref 37), some (.int (nI m)), some (.int (nI (faN i))), some (.int (nI (i + 1)))] [] (wv x I J) (rI x Q) := by
    intro j
    induction j with
    | zero =>
      intro i hi
      have hi : i = m := by omega
      subst hi
      exact v90_37_4 ⟨fun _ => k, fun q => absurd (nI_lt (by omega) (by omega)) q⟩
    | succ j ih =>
      intro i hi
      refine v90_37_4 ⟨fun q => absurd q (nI_nlt (by omega) (by omega)), fun _ => ⟨fun q => absurd q (nI_nlt (a := 8) (by omega) (by omega)), fun _ => ?_⟩⟩
      have i2 := ih (i + 1) (by omega)
      rw [nI_mu, ← nI_succ, Nat.mul_comm]
      exact i2
  by_cases z : m = 0
  · subst z
    exact c90_37 (v90_37_4 ⟨fun _ => k, fun q => absurd (by decide) q⟩)
  · exact c90_37 (lp (m - 1) 1 (by omega))
/-- the reference: factorial -/
theorem r223x {v : Int32} {m : Nat} {Q : Int64 → rI0 → rJ0 → Prop} (hm : m ≤ 8) (hv : v.toInt = (m : Int)) (k : Q (Int64.ofNat (faN m)) I J) : wcJ S d 223 [.int v] x I J Q := by
  have ev : v = nI m := Int32.toInt_inj.mp (by rw [nI_toInt (by omega)]; exact hv)
  subst ev
  have lp : ∀ (j i : Nat), i + j = m → wp S d 223 4 [some (.int (nI m)), some (.long (Int64.ofNat (faN i))), none, some (.int (nI (i + 1)))] [] (wv x I J) (rJ x Q) := by
    intro j
    induction j with
    | zero =>
      intro i hi
      have hi : i = m := by omega
      subst hi
      exact v223_4 ⟨fun _ => k, fun q => absurd (nI_lt (by omega) (by omega)) q⟩
    | succ j ih =>
      intro i hi
      refine v223_4 ⟨fun q => absurd q (nI_nlt (by omega) (by omega)), fun _ => ?_⟩
      have i2 := ih (i + 1) (by omega)
      rw [ni_64 (i + 1) (by omega), ← Int64.ofNat_mul, ← nI_succ, Nat.mul_comm]
      exact i2
  by_cases z : m = 0
  · subst z
    exact c223 (v223_4 ⟨fun _ => k, fun q => absurd (by decide) q⟩)
  · exact c223 (lp (m - 1) 1 (by omega))
theorem n1_b {n q : Nat} (hn : n ≤ 8) (h : q + 1 ≤ n) : ((nI n - 1) - nI q).toInt = ((n - 1 - q : Nat) : Int) := by
  have e : nI n - 1 = nI (n - 1) := by
    rw [show n = n - 1 + 1 by omega, nI_pr]
    congr 1
  rw [e, i_sub (nI_toInt (by omega)) (nI_toInt (by omega)) (by omega)]
  omega
/-- the class: addsOf -/
theorem c89x {h : Nat → Nat} {n i : Nat} {Q : Int32 → rI0 → rJ0 → Prop} (hh : ∀ Y, h Y ≤ 64) (hn : n ≤ 8) (hi : i < n) (h38 : ∀ Y, Y < 2 ^ n → I 38 Y = nI (h Y)) (k : Q (Int32.ofInt (adI h n i (2 ^ n))) I J) : wcI S (d + 1) 89 [.ref 37, .int (nI i), .int (nI n)] x I J Q := by
  have h8 := pw_8 hn
  have lp : ∀ (j X : Nat), X + j = 2 ^ n → wp S (d + 1) 89 5 [some (.ref 37), some (.int (nI i)), some (.int (nI n)), some (.int (Int32.ofInt (adI h n i X))), some (.int (nI X)), none, none] [] (wv x I J) (rI x Q) := by
    intro j
    induction j with
    | zero =>
      intro X hX
      have hX : X = 2 ^ n := by omega
      subst hX
      exact v89_37_5 ⟨fun q => absurd q (by rw [sh_1 n (by omega)]; exact nI_nlt (Nat.le_refl _) (by omega)), fun _ => k⟩
    | succ j ih =>
      intro X hX
      have i2 := ih (X + 1) (by omega)
      rw [show adI h n i (X + 1) = adI h n i X + tmI h n i X from rfl] at i2
      refine v89_37_5 (d := d) ⟨fun _ => ⟨fun q => ?_, fun q => ?_⟩, fun q => absurd (by rw [sh_1 n (by omega)]; exact nI_lt (by omega) (by omega)) q⟩
      · have q := (hcu_n (by omega) (by omega)).mp q
        have bn := bc_n hn (show X < 2 ^ n by omega) hi q
        have ol := or_l (show X < 2 ^ n by omega) hi
        refine c249x (by omega) (c90x (m := bcN X) (by omega) (nI_toInt (by omega)) (c90x (m := n - 1 - bcN X) (by omega) (n1_b hn bn) ?_))
        rw [sh_1 i (by omega), nI_or, nI_clamp (by omega), nI_clamp (by omega), h38 _ ol, h38 X (by omega), d32 _ (by have := hh (X ||| 2 ^ i); omega) _ (by have := hh X; omega), nI_mu, nI_oi (faN (bcN X) * faN (n - 1 - bcN X)), ← Int32.ofInt_mul, ← Int32.ofInt_add, ← nI_succ]
        refine ⟨nI_in (by omega) (by omega), nI_in (by omega) (by omega), ?_⟩
        rw [show tmI h n i X = ((faN (bcN X) * faN (n - 1 - bcN X) : Nat) : Int) * ((h (X ||| 2 ^ i) : Int) - (h X : Int)) from if_neg q] at i2
        exact i2
      · have q : X.testBit i = true := Classical.not_not.mp (fun w => q ((hcu_n (by omega) (by omega)).mpr w))
        rw [show tmI h n i X = 0 from if_pos q, Int.add_zero] at i2
        rw [← nI_succ]
        exact i2
  exact c89_37 (lp (2 ^ n) 0 (by omega))
/-- HEIGHT of a set of hands alone -/
def hhN (g : Nat → Int32) (W : Nat → lV) (H : Nat → Bool) (b : Nat → Int32) (n X : Nat) : Nat := hgt g W (paB (fun _ => false) b n X) H 60
theorem hh_l {n X : Nat} : hhN g W H b n X ≤ 64 := hgt_l
theorem pa0_e {n X : Nat} {v : Int64} (h : ∀ u, u < 64 → bits5 v u = hSt b n X u) : ∀ s, s < 64 → bits5 v s = paB (fun _ => false) b n X s := by
  intro s hs
  unfold paB
  rw [h s hs, decide_eq_true hs, Bool.true_and, Bool.false_or]
/-- the class: worthOfAll -/
theorem c88x {n : Nat} {Q : Int32 → rI0 → rJ0 → Prop} (hC : CE g W P H I J) (e2 : I 2 = b) (n1 : 1 ≤ n) (hn : n ≤ 8) (hu : ulB g b 0 n = true) (k : ∀ I1 J1 I2, FK I J I1 J1 → (∀ b, b ≠ 40 → I2 b = I1 b) → (∀ i, i < n → I2 40 i = Int32.ofInt (adI (hhN g W H b n) n i (2 ^ n))) → Q (nI (hhN g W H b n (2 ^ n - 1))) (mSet I2 37 7 (nI n)) J1) : wcI S (d + 23) 88 [.ref 37, .int (nI n)] x I J Q := by
  have h8 := pw_8 hn
  have hp0 : 0 < 2 ^ n := Nat.pow_pos (by decide)
  have lq : ∀ (I1 : rI0) (J1 : rJ0), FK I J I1 J1 → (∀ Y, Y < 2 ^ n → I1 38 Y = nI (hhN g W H b n Y)) → ∀ (j i : Nat) (I2 : rI0), i + j = n → (∀ b, b ≠ 40 → I2 b = I1 b) → (∀ q, q < i → I2 40 q = Int32.ofInt (adI (hhN g W H b n) n q (2 ^ n))) → wp S (d + 23) 88 47 [some (.ref 37), some (.int (nI n)), some (.int (nI (2 ^ n))), some (.int (nI i))] [] (wv x I2 J1) (rI x Q) := by
    intro I1 J1 f h38 j
    induction j with
    | zero =>
      intro i I2 hi f2 h40
      have hi : i = n := by omega
      subst hi
      refine v88_37_47 ⟨fun q => absurd q (nI_nlt (Nat.le_refl _) (by omega)), fun _ => ?_⟩
      rw [show nI (2 ^ i) - 1 = nI (2 ^ i - 1) from by rw [show 2 ^ i = 2 ^ i - 1 + 1 by omega, nI_pr]; congr 1, nI_clamp (by omega), f2 38 (by decide), h38 _ (by omega)]
      exact ⟨nI_in (by omega) (by omega), k I1 J1 I2 f f2 h40⟩
    | succ j ih =>
      intro i I2 hi f2 h40
      refine v88_37_47 (d := d + 22) ⟨fun _ => c89x (d := d + 21) (h := hhN g W H b n) (fun _ => hh_l) hn (by omega) (fun Y hY => by rw [f2 38 (by decide)]; exact h38 Y hY) ⟨nI_in (by omega) (by omega), ?_⟩, fun q => absurd (nI_lt (by omega) (by omega)) q⟩
      rw [nI_clamp (by omega), ← nI_succ]
      refine ih (i + 1) _ (by omega) (fun b hb => (mSet_ne hb).trans (f2 b hb)) (fun q hq => ?_)
      unfold mSet va_up
      rw [if_pos rfl]
      by_cases z : q = i
      · rw [z, if_pos rfl]
      · rw [if_neg z]
        exact h40 q (by omega)
  have lp : ∀ (j X : Nat) (I1 : rI0) (J1 : rJ0), X + j = 2 ^ n → FK I J I1 J1 → (∀ Y, Y < X → I1 38 Y = nI (hhN g W H b n Y)) → wp S (d + 23) 88 6 [some (.ref 37), some (.int (nI n)), some (.int (nI (2 ^ n))), some (.int (nI X))] [] (wv x I1 J1) (rI x Q) := by
    intro j
    induction j with
    | zero =>
      intro X I1 J1 hX f h38
      have hX : X = 2 ^ n := by omega
      subst hX
      exact v88_37_6 ⟨fun q => absurd q (nI_nlt (Nat.le_refl _) (by omega)), fun _ => lq I1 J1 f h38 n 0 I1 (by omega) (fun _ _ => rfl) (fun q hq => absurd hq (Nat.not_lt_zero _))⟩
    | succ j ih =>
      intro X I1 J1 hX f h38
      have hC1 := hC.k f
      have f2 : I1 2 = b := (f.1 2 (by decide) (by decide) (by decide)).trans e2
      refine v88_37_6 (d := d + 22) ⟨fun _ => c82x (d := d + 22) f2 hn (by omega) hu (fun v hv => ht_41 (d := d) (P := paB (fun _ => false) b n X) (H := H) hC1.1 hC1.2.1 (paB_s (fun _ z => by cases z) hu) (pa0_e hv) hC1.2.2.2.2.1 (fun I2 J2 r f3 h1 h2 => ⟨nI_in (by omega) (by omega), ?_⟩)), fun q => absurd (nI_lt (by omega) (by omega)) q⟩
      have er : r = hhN g W H b n X := by
        have a := hgt_l (g := g) (W := W) (P := paB (fun _ => false) b n X) (H := H) (t := 60)
        have e : (64 : Int32).toInt = 64 := by decide
        rw [e] at h2
        show r = hgt g W (paB (fun _ => false) b n X) H 60
        omega
      rw [nI_clamp (by omega), ← nI_succ, er]
      refine ih (X + 1) _ J2 (by omega) ((f.tr f3.k).tr (FK.s (Or.inl rfl))) (fun Y hY => ?_)
      unfold mSet va_up
      rw [if_pos rfl]
      by_cases z : Y = X
      · rw [z, if_pos rfl]
      · rw [if_neg z, f3.1 38 (by decide)]
        exact h38 Y (by omega)
  refine c88_37 ?_
  rw [sh_1 n (by omega)]
  exact lp (2 ^ n) 0 I J (by omega) FK.rf (fun Y h => absurd h (Nat.not_lt_zero _))
end TR4
end
section
/-! trials: worth of the reference; worthOf -/
section TR5
def worthV (g : Nat → Int32) (W : Nat → lV) (H : Nat → Bool) (b : Nat → Int32) (n : Nat) : Int32 := if hdB g b n = true then nI (hhN g W H b n (2 ^ n - 1)) else -1
variable {S : Nat × (Nat → Int32)} {d : Nat} {x : mX} {I I1 I2 : rI0} {J J1 J2 : rJ0} {g b : Nat → Int32} {W : Nat → lV} {P H : Nat → Bool}
theorem pw_m1 {n : Nat} (hn : n ≤ 8) : nI (2 ^ n) - 1 = nI (2 ^ n - 1) := by
  have hp0 : 0 < 2 ^ n := Nat.pow_pos (by decide)
  rw [show 2 ^ n = 2 ^ n - 1 + 1 by omega, nI_pr]
  congr 1
theorem r224x {n : Nat} {Q : Int32 → rI0 → rJ0 → Prop} (hR : RH g W I J) (h3 : gN g 3 ≤ 64) (e17 : ∀ s, s < 64 → bits5 (J 43 17) s = H s) (hb : ∀ i, i < 940 → I 44 i &&& 255 = b i) (e2 : I 43 2 = nI n) (hn : n ≤ 940) (k0 : hdB g b n = false → ∀ I', FU I J I' J → RH g W I' J → Q (-1) I' J) (k1 : hdB g b n = true → ∀ I1 J1 J2, FU I J I1 J1 → RH g W I1 J1 → (∀ b, b ≠ 59 → J2 b = J1 b) → (∀ i, i < n → J2 59 i = Int64.ofInt (adI (hhN g W H b n) n i (2 ^ n))) → Q (nI (hhN g W H b n (2 ^ n - 1))) (mSet I1 43 52 (nI n)) (mSet J2 43 53 (Int64.ofNat (faN n)))) : wcI S (d + 6) 224 [.ref 43] x I J Q := by
  refine c224_43 (d := d + 5) (rHd (d := d + 2) (n := n) (b := b) hR hb e2 hn (fun h I1 f r => ⟨fun _ => k0 h I1 f r, fun z => absurd rfl z⟩) (fun h I1 f r e47 h56 => ⟨fun z => absurd z (by decide), fun _ => ?_⟩))
  have k := k1 h
  obtain ⟨n1, n8, hu⟩ := hdB_t h
  have h8 := pw_8 n8
  have hp0 : 0 < 2 ^ n := Nat.pow_pos (by decide)
  have hhl : ∀ Y, hhN g W H b n Y ≤ 64 := fun _ => hh_l
  have lq : ∀ (I2 : rI0) (J2 : rJ0), FU I J I2 J2 → RH g W I2 J2 → I2 43 47 = nI n → (∀ Y, Y < 2 ^ n → I2 58 Y = nI (hhN g W H b n Y)) → ∀ (j i : Nat) (J3 : rJ0), i + j = n → (∀ b, b ≠ 59 → J3 b = J2 b) → (∀ q, q < i → J3 59 q = Int64.ofInt (adI (hhN g W H b n) n q (2 ^ n))) → wp S (d + 6) 224 53 [some (.ref 43), some (.int (nI i)), none, none] [] (wv x I2 J3) (rI x Q) := by
    intro I2 J2 f2 r2 e47b h58
    revert k
    generalize hhN g W H b n = hh at *
    intro k j
    induction j with
    | zero =>
      intro i J3 hi f3 h59
      have hi : i = n := by omega
      subst hi
      refine v224_43_53 (d := d + 5) ⟨fun q => absurd q (by rw [e47b]; exact nI_nlt (Nat.le_refl _) (by omega)), fun _ => ?_⟩
      rw [e47b]
      refine r223x (m := i) n8 (nI_toInt (by omega)) ?_
      rw [show mSet I2 43 52 (nI i) 43 47 = nI i from e47b, sh_1 i (by omega), pw_m1 n8, nI_clamp (by omega), mSet_ne (by decide), h58 _ (by omega)]
      exact ⟨nI_in (by omega) (by omega), k I2 J2 J3 f2 r2 f3 h59⟩
    | succ j ih =>
      intro i J3 hi f3 h59
      have inn : ∀ (q X : Nat) (J4 : rJ0), X + q = 2 ^ n → (∀ b, b ≠ 59 → J4 b = J2 b) → (∀ q, q < i → J4 59 q = Int64.ofInt (adI hh n q (2 ^ n))) → J4 59 i = Int64.ofInt (adI hh n i X) → wp S (d + 6) 224 70 [some (.ref 43), some (.int (nI i)), some (.int (nI X)), none] [] (wv x I2 J4) (rI x Q) := by
        intro q
        induction q with
        | zero =>
          intro X J4 hX f4 h59a hi4
          have hX : X = 2 ^ n := by omega
          subst hX
          refine v224_43_70 (d := d + 5) ⟨fun w => absurd w (by rw [e47b, sh_1 n (by omega)]; exact nI_nlt (Nat.le_refl _) (by omega)), fun _ => ?_⟩
          rw [← nI_succ]
          refine ih (i + 1) J4 (by omega) f4 (fun q hq => ?_)
          by_cases z : q = i
          · rw [z]
            exact hi4
          · exact h59a q (by omega)
        | succ q ihq =>
          intro X J4 hX f4 h59a hi4
          refine v224_43_70 (d := d + 5) ⟨fun _ => c152 ⟨fun w => ⟨fun z => absurd z (by decide), fun _ => ?_⟩, fun w => ⟨fun _ => ?_, fun z => absurd rfl z⟩⟩, fun w => absurd (by rw [e47b, sh_1 n (by omega)]; exact nI_lt (by omega) (by omega)) w⟩
          · have w := (hbt_n (by omega) (by omega)).mp w
            rw [← nI_succ]
            refine ihq (X + 1) J4 (by omega) f4 h59a ?_
            rw [show adI hh n i (X + 1) = adI hh n i X + tmI hh n i X from rfl, show tmI hh n i X = 0 from if_pos w, Int.add_zero]
            exact hi4
          · have w := mt (hbt_n (by omega) (by omega)).mpr w
            have bn := bc_n n8 (show X < 2 ^ n by omega) (show i < n by omega) w
            have ol := or_l (show X < 2 ^ n by omega) (show i < n by omega)
            refine c154x (by omega) ⟨nI_in (by omega) (by omega), r223x (m := bcN X) (by omega) (nI_toInt (by omega)) ?_⟩
            rw [e47b]
            refine r223x (m := n - 1 - bcN X) (by omega) (n1_b n8 bn) ?_
            rw [sh_1 i (by omega), nI_or, nI_clamp (show X ||| 2 ^ i < 2 ^ 31 by omega), nI_clamp (show X < 2 ^ 31 by omega), nI_clamp (show i < 2 ^ 31 by omega), h58 _ ol, h58 X (by omega), d64 _ (by have := hhl (X ||| 2 ^ i); omega) _ (by have := hhl X; omega), ← Int64.ofNat_mul, ← Int64.ofInt_eq_ofNat, ← Int64.ofInt_mul, hi4, ← Int64.ofInt_add, ← nI_succ]
            refine ⟨nI_in (by omega) (by omega), nI_in (by omega) (by omega), nI_in (by omega) (by omega), ?_⟩
            refine ihq (X + 1) _ (by omega) (fun b hb => (mSet_ne hb).trans (f4 b hb)) (fun q hq => ?_) ?_
            · unfold mSet va_up
              rw [if_pos rfl, if_neg (by omega)]
              exact h59a q hq
            · unfold mSet va_up
              rw [if_pos rfl, if_pos rfl, show adI hh n i (X + 1) = adI hh n i X + tmI hh n i X from rfl, show tmI hh n i X = ((faN (bcN X) * faN (n - 1 - bcN X) : Nat) : Int) * ((hh (X ||| 2 ^ i) : Int) - (hh X : Int)) from if_neg w]
      refine v224_43_53 (d := d + 5) ⟨fun _ => ⟨nI_in (by omega) (by omega), ?_⟩, fun q => absurd (by rw [e47b]; exact nI_lt (by omega) (by omega)) q⟩
      rw [nI_clamp (by omega)]
      refine inn (2 ^ n) 0 _ (by omega) (fun b hb => (mSet_ne hb).trans (f3 b hb)) (fun q hq => ?_) ?_
      · unfold mSet va_up
        rw [if_pos rfl, if_neg (by omega)]
        exact h59 q hq
      · unfold mSet va_up
        rw [if_pos rfl, if_pos rfl]
        rfl
  have lp : ∀ (j X : Nat) (I2 : rI0) (J2 : rJ0), X + j = 2 ^ n → FU I J I2 J2 → RH g W I2 J2 → I2 43 47 = nI n → (∀ j, j < n → I2 56 j = b j) → (∀ Y, Y < X → I2 58 Y = nI (hhN g W H b n Y)) → wp S (d + 6) 224 16 [some (.ref 43), some (.int (nI X)), none, none] [] (wv x I2 J2) (rI x Q) := by
    intro j
    induction j with
    | zero =>
      intro X I2 J2 hX f2 r2 e47b h56b h58
      have hX : X = 2 ^ n := by omega
      subst hX
      exact v224_43_16 ⟨fun q => absurd q (by rw [e47b, sh_1 n (by omega)]; exact nI_nlt (Nat.le_refl _) (by omega)), fun _ => lq I2 J2 f2 r2 e47b h58 n 0 J2 (by omega) (fun _ _ => rfl) (fun q hq => absurd hq (Nat.not_lt_zero _))⟩
    | succ j ih =>
      intro X I2 J2 hX f2 r2 e47b h56b h58
      refine v224_43_16 (d := d + 5) ⟨fun _ => r218x (d := d + 4) (b := b) (n := n) (g := g) e47b h56b n8 (by omega) hu (fun v hv => rht (d := d) (P := paB (fun _ => false) b n X) (H := H) r2 h3 (pa0_e hv) (fun s hs => by rw [f2.2.2.2.1 17 (by omega)]; exact e17 s hs) (fun I3 J3 f3 h4 h44 h45 => ⟨nI_in (by omega) (by omega), ?_⟩)), fun q => absurd (by rw [e47b, sh_1 n (by omega)]; exact nI_lt (by omega) (by omega)) q⟩
      rw [nI_clamp (by omega), ← nI_succ]
      refine ih (X + 1) _ J3 (by omega) ((f2.h f3).s (Or.inr rfl)) (h4.h.s (Or.inr rfl)) ((f3.2.1 47 (by decide) (by omega)).trans e47b) (fun j hj => by rw [mSet_ne (by decide), f3.1 56 (by decide) (by decide)]; exact h56b j hj) (fun Y hY => ?_)
      unfold mSet va_up
      rw [if_pos rfl]
      by_cases z : Y = X
      · rw [z, if_pos rfl]
        rfl
      · rw [if_neg z, f3.1 58 (by decide) (by decide)]
        exact h58 Y (by omega)
  exact lp (2 ^ n) 0 I1 J (by omega) f r e47 h56 (fun Y hY => absurd hY (Nat.not_lt_zero _))
/-- the class: worth -/
theorem xWorth {n : Nat} {Q : Int32 → rI0 → rJ0 → Prop} (hC : CE g W P H I J) (e1 : I 1 1 = nI n) (hn : n ≤ 940) (k0 : hdB g (I 2) n = false → Q (-1) (mSet I 1 1 0) J) (k1 : hdB g (I 2) n = true → ∀ I1 J1 I2, FC I J I1 J1 → (∀ b, b ≠ 40 → I2 b = I1 b) → (∀ i, i < n → I2 40 i = Int32.ofInt (adI (hhN g W H (I 2) n) n i (2 ^ n))) → Q (nI (hhN g W H (I 2) n (2 ^ n - 1))) (mSet I2 37 7 (nI n)) J1) : wcI S (d + 24) 123 [.ref 0] x I J Q := by
  refine c123_0 (d := d + 23) (c67_1 ?_)
  rw [e1]
  refine xHd (d := d + 21) hC hn (fun h => ⟨fun _ => k0 h, fun z => absurd rfl z⟩) (fun h => ⟨fun z => absurd z (by decide), fun _ => ?_⟩)
  obtain ⟨n1, n8, hu⟩ := hdB_t h
  exact c88x (d := d) (b := I 2) hC.tk rfl n1 n8 hu (fun I1 J1 I2 f h2 h3 => k1 h I1 J1 I2 f.c h2 h3)
end TR5
end
