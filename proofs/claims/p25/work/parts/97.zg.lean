section
/-! answers of the night, and the class's methods that give them -/
section AN0
def seI (g : Nat → Int32) (p : Int32) : Bool := decide (0 ≤ p.toInt ∧ p.toInt < 64) && seB g p.toInt.toNat
def moI (p : Int32) : Bool := decide (0 ≤ p.toInt ∧ p.toInt ≤ 600)
/-- the first of m from i on for which it holds; -1: none -/
def fnI (p : Nat → Bool) : Nat → Nat → Int32
  | 0, _ => -1
  | m + 1, i => if p i = true then nI i else fnI p m (i + 1)
theorem fnI_n {p : Nat → Bool} : ∀ m i, (∀ j, i ≤ j → j < i + m → p j = false) → fnI p m i = -1 := by
  intro m
  induction m with
  | zero => intro i _; rfl
  | succ m ih =>
    intro i h
    show (if p i = true then _ else _) = _
    rw [h i (by omega) (by omega), if_neg (by decide)]
    exact ih (i + 1) (fun j h1 h2 => h j (by omega) (by omega))
variable {S : Nat × (Nat → Int32)} {d : Nat} {x : mX} {I : rI0} {J : rJ0} {g : Nat → Int32} {W : Nat → lV} {P H : Nat → Bool}
theorem seI_n {s : Nat} (hs : s < 64) : seI g (nI s) = seB g s := by
  unfold seI
  rw [nI_toInt (by omega), decide_eq_true (by omega), Bool.true_and]
  rfl
theorem seI_t {p : Int32} (h : seI g p = true) : ∃ s, s < 64 ∧ p = nI s ∧ seB g s = true := by
  unfold seI at h
  rw [Bool.and_eq_true] at h
  have h1 := of_decide_eq_true h.1
  exact ⟨p.toInt.toNat, by omega, Int32.toInt_inj.mp (by rw [nI_toInt (by omega)]; omega), h.2⟩
theorem moI_t {p : Int32} (h : moI p = true) : ∃ t, t ≤ 600 ∧ p = nI t := by
  have h1 := of_decide_eq_true h
  exact ⟨p.toInt.toNat, by omega, Int32.toInt_inj.mp (by rw [nI_toInt (by omega)]; omega)⟩
theorem rng_t {p : Int32} {a b : Nat} (hb : b < 1000) (h : decide ((a : Int) ≤ p.toInt ∧ p.toInt ≤ (b : Int)) = true) : ∃ t, a ≤ t ∧ t ≤ b ∧ p = nI t := by
  have h1 := of_decide_eq_true h
  exact ⟨p.toInt.toNat, by omega, by omega, Int32.toInt_inj.mp (by rw [nI_toInt (by omega)]; omega)⟩
/-- isSeat, of the class -/
theorem cIs {p : Int32} {Q : Int32 → rI0 → rJ0 → Prop} (hb : ∀ s, s < 64 → bits5 (J 4 5) s = seB g s) (k1 : ∀ s, s < 64 → p = nI s → seB g s = true → seI g p = true → Q 1 I J) (k0 : seI g p = false → Q 0 I J) : wcI S d 24 [.ref 4, .int p] x I J Q := by
  refine isSeatE_4 (fun f => k0 (ts_nt (fun h => ?_))) (fun s hs e h => ?_)
  · obtain ⟨s, hs, e, h2⟩ := seI_t h
    refine f s hs e ?_
    rw [b5_SB, hb s hs]
    exact h2
  · rw [b5_SB, hb s hs] at h
    exact k1 s hs e h (by rw [e, seI_n hs]; exact h)
/-- isSeat, of the reference -/
theorem rIs {p : Int32} {Q : Int32 → rI0 → rJ0 → Prop} (hG : GA g) (hI : GI g) (eg : I 45 = g) (k1 : ∀ s, s < 64 → p = nI s → seB g s = true → seI g p = true → Q 1 I J) (k0 : seI g p = false → Q 0 I J) : wcI S (d + 1) 183 [.ref 43, .int p] x I J Q := by
  have hRC : gN g 0 * gN g 1 ≤ 64 := Nat.le_trans (Nat.mul_le_mul hG.1 hG.2.1) (by omega)
  refine rSeatE hG.1 hG.2.1 (by rw [eg]; exact hI.1 0 (by omega)) (by rw [eg]; exact hI.1 1 (by omega)) (fun f => k0 (ts_nt (fun h => ?_))) (fun s hs e h => ?_)
  · obtain ⟨s, hs, e, h2⟩ := seI_t h
    refine f s (hG.2.2.2.2.1 s h2).1 e ?_
    rw [eg]
    unfold seB at h2
    rw [Bool.and_eq_true] at h2
    exact of_decide_eq_true h2.2
  · have h2 : seB g s = true := by
      unfold seB
      rw [eg] at h
      rw [decide_eq_true (show s < 64 by omega), decide_eq_true h]
      rfl
    exact k1 s (by omega) e h2 (by rw [e, seI_n (by omega)]; exact h2)
theorem cMo {p : Int32} {Q : Int32 → rI0 → rJ0 → Prop} (k1 : ∀ t, t ≤ 600 → p = nI t → moI p = true → Q 1 I J) (k0 : moI p = false → Q 0 I J) : wcI S d 141 [.int p] x I J Q := by
  have l0 : (0 : Int32).toInt = 0 := by decide
  have l6 : (600 : Int32).toInt = 600 := by decide
  refine c141 ⟨fun q => k0 (decide_eq_false (fun h => ?_)), fun q => ⟨fun q2 => k0 (decide_eq_false (fun h => ?_)), fun q2 => ?_⟩⟩
  · have := i_lt q
    omega
  · have := i_lt q2
    omega
  · have q := i_nlt q
    have q2 := i_nlt q2
    have h : moI p = true := decide_eq_true (by omega)
    obtain ⟨t, ht, e⟩ := moI_t h
    exact k1 t ht e h
theorem rIn {p : Int32} {a b : Nat} {pa pb : Int32} {Q : Int32 → rI0 → rJ0 → Prop} (ea : pa.toInt = (a : Int)) (eb : pb.toInt = (b : Int)) (hb : b < 1000) (k1 : ∀ t, a ≤ t → t ≤ b → p = nI t → decide ((a : Int) ≤ p.toInt ∧ p.toInt ≤ (b : Int)) = true → Q 1 I J) (k0 : decide ((a : Int) ≤ p.toInt ∧ p.toInt ≤ (b : Int)) = false → Q 0 I J) : wcI S d 151 [.int p, .int pa, .int pb] x I J Q := by
  refine c151 ⟨fun q => k0 (decide_eq_false (fun h => ?_)), fun q => ⟨fun q2 => k0 (decide_eq_false (fun h => ?_)), fun q2 => ?_⟩⟩
  · have := i_lt q
    omega
  · have := i_lt q2
    omega
  · have q := i_nlt q
    have q2 := i_nlt q2
    have h : decide ((a : Int) ≤ p.toInt ∧ p.toInt ≤ (b : Int)) = true := decide_eq_true (by omega)
    obtain ⟨t, h1, h2, e⟩ := rng_t hb h
    exact k1 t h1 h2 e h
theorem bO {p : Int64} {s : Nat} {Q : Int32 → rI0 → rJ0 → Prop} (hs : s < 64) (k : Q (nI (if bits5 p s = true then 1 else 0)) I J) : wcI S d 142 [.long p, .int (nI s)] x I J Q := by
  refine c142 ?_
  rw [b5_o hs]
  exact k
/-- nights at 41 and 42 and the diary alone have moved -/
def FA (I : rI0) (J : rJ0) (I' : rI0) (J' : rJ0) : Prop := (∀ b, ¬ ((31 ≤ b ∧ b ≤ 36) ∨ b = 41 ∨ b = 42) → I' b = I b) ∧ ∀ b, ¬ ((31 ≤ b ∧ b ≤ 36) ∨ b = 41 ∨ b = 42) → J' b = J b
theorem FA.rf : FA I J I J := ⟨fun _ _ => rfl, fun _ _ => rfl⟩
theorem FA.tr {I1 I2 : rI0} {J1 J2 : rJ0} (h : FA I J I1 J1) (h2 : FA I1 J1 I2 J2) : FA I J I2 J2 := ⟨fun b hb => (h2.1 b hb).trans (h.1 b hb), fun b hb => (h2.2 b hb).trans (h.2 b hb)⟩
theorem FD.a {I1 : rI0} {J1 : rJ0} (h : FD I J I1 J1) : FA I J I1 J1 := ⟨fun b hb => h.1 b (by omega), fun b hb => h.2 b (by omega)⟩
theorem F41.a {I1 : rI0} {J1 : rJ0} (h : F41 I J I1 J1) : FA I J I1 J1 := ⟨fun b hb => h.1 b (by omega), fun b hb => h.2 b (by omega)⟩
theorem F42.a {I1 : rI0} {J1 : rJ0} (h : F42 I J I1 J1) : FA I J I1 J1 := ⟨fun b hb => h.1 b (by omega), fun b hb => h.2 b (by omega)⟩
theorem CE.a {I' : rI0} {J' : rJ0} (h : CE g W P H I J) (f : FA I J I' J') : CE g W P H I' J' := h.mv (fun b hb => f.1 b (by omega)) (fun b hb => f.2 b (by omega))
theorem DI.mv {I' : rI0} {J' : rJ0} (h : DI g W P H I J) (hi : ∀ b, 31 ≤ b ∧ b ≤ 36 → I' b = I b) (hj : ∀ b, 31 ≤ b ∧ b ≤ 36 → J' b = J b) : DI g W P H I' J' := by
  rcases h with h | ⟨k, k1, k2, k3, k4, k5⟩
  · exact Or.inl (by rw [hi 31 (by omega)]; exact h)
  · refine Or.inr ⟨k, k1, k2, by rw [hi 31 (by omega)]; exact k3, fun m hm s hs => ?_, k5.mv (hi 36 (by omega)) (hj 36 (by omega))⟩
    rw [hj 32 (by omega), hj 33 (by omega), hj 34 (by omega), hj 35 (by omega)]
    exact k4 m hm s hs
/-! the answers -/
def seesV (g : Nat → Int32) (W : Nat → lV) (P H : Nat → Bool) (p1 p2 p3 p4 : Int32) : Int32 := if (seI g p1 && (moI p2 && (decide (((0 : Nat) : Int) ≤ p3.toInt ∧ p3.toInt ≤ ((5 : Nat) : Int)) && decide (((1 : Nat) : Int) ≤ p4.toInt ∧ p4.toInt ≤ ((2 : Nat) : Int))))) = true then nI (nb (fun u => arB g p3.toInt.toNat p1.toInt.toNat u && decide (p4.toInt.toNat ≤ (nt g W P H p2.toInt.toNat).1 u)) 64) else -1
def atV (g : Nat → Int32) (W : Nat → lV) (P H : Nat → Bool) (p1 p2 p3 : Int32) : Int32 := if (seI g p1 && (moI p2 && decide (((0 : Nat) : Int) ≤ p3.toInt ∧ p3.toInt ≤ ((1 : Nat) : Int)))) = true then (if p3 = 0 then nI ((nt g W P H p2.toInt.toNat).1 p1.toInt.toNat) else nI ((nt g W P H p2.toInt.toNat).2 p1.toInt.toNat)) else -1
def manyV (g : Nat → Int32) (W : Nat → lV) (P H : Nat → Bool) (p1 p2 : Int32) : Int32 := if (moI p1 && decide (((0 : Nat) : Int) ≤ p2.toInt ∧ p2.toInt ≤ ((2 : Nat) : Int))) = true then (if p2 = 0 then nI (nb (seB g) 64) else nI (nb (fun s => decide (p2.toInt.toNat ≤ (nt g W P H p1.toInt.toNat).1 s)) 64)) else -1
def wouldV (g : Nat → Int32) (W : Nat → lV) (P H : Nat → Bool) (p1 p2 p3 : Int32) : Int32 := if (seI g p1 && (moI p2 && decide (((0 : Nat) : Int) ≤ p3.toInt ∧ p3.toInt ≤ ((1 : Nat) : Int)))) = true then (if tlB g (2 * kdN g p1.toInt.toNat + p3.toInt.toNat) = true then nI (if lwB g W (nt g W P H p2.toInt.toNat).1 (nt g W P H p2.toInt.toNat).2 (2 * kdN g p1.toInt.toNat + p3.toInt.toNat) p1.toInt.toNat = true then 1 else 0) else -1) else -1
def standsV (g : Nat → Int32) (W : Nat → lV) (P H : Nat → Bool) (p1 : Int32) : Int32 := if seI g p1 = true then fnI (fun t => decide (2 ≤ (nt g W P H t).1 p1.toInt.toNat)) 601 0 else -1
def anywayV (g : Nat → Int32) (W : Nat → lV) (P H : Nat → Bool) (p1 : Int32) : Int32 := if moI p1 = true then nI (nb (fun s => decide (2 ≤ (nt g W P H p1.toInt.toNat).1 s) && decide (2 ≤ (nt g W (fun _ => false) H p1.toInt.toNat).1 s)) 64) else -1
def upB (g : Nat → Int32) (W : Nat → lV) (P H : Nat → Bool) (t : Nat) : Bool := decide (gN g 3 ≤ stP g W P H t)
def upV (g : Nat → Int32) (W : Nat → lV) (P H : Nat → Bool) : Int32 := fnI (upB g W P H) 601 0
def pvB (p : Nat → Bool) : Nat → Bool
  | 0 => false
  | j + 1 => p j
def caN (p : Nat → Bool) : Nat → Nat
  | 0 => 0
  | k + 1 => caN p k + (if (p k && !pvB p k) = true then 1 else 0)
theorem bt4 : (true && (true && (true && true))) = true := rfl
theorem bt3 : (true && (true && true)) = true := rfl
theorem bt2 : (true && true) = true := rfl
def callsV (g : Nat → Int32) (W : Nat → lV) (P H : Nat → Bool) (p1 : Int32) : Int32 := if moI p1 = true then nI (caN (upB g W P H) (p1.toInt.toNat + 1)) else -1
def carriesV (g : Nat → Int32) (W : Nat → lV) (P H : Nat → Bool) (p1 : Int32) : Int32 := if decide (((0 : Nat) : Int) ≤ p1.toInt ∧ p1.toInt ≤ ((1 : Nat) : Int)) = true then (if p1 = 1 then nI (hgt g W P H 60) else nI (if gN g 3 ≤ hgt g W P H 60 then 1 else 0)) else -1
theorem caN_l {p : Nat → Bool} : ∀ k, caN p k ≤ k := by
  intro k
  induction k with
  | zero => exact Nat.le_refl _
  | succ k ih =>
    show caN p k + (if (p k && !pvB p k) = true then 1 else 0) ≤ k + 1
    split <;> omega
theorem nI_tn {n : Nat} (h : n < 2 ^ 31) : (nI n).toInt.toNat = n := by
  rw [nI_toInt h]
  exact Int.toNat_natCast n
/-! the class -/
theorem xSees {p1 p2 p3 p4 : Int32} {Q : Int32 → rI0 → rJ0 → Prop} (hC : CE g W P H I J) (hD : DI g W P H I J) (k : ∀ I' J', FA I J I' J' → DI g W P H I' J' → Q (seesV g W P H p1 p2 p3 p4) I' J') : wcI S (d + 23) 109 [.ref 0, .int p1, .int p2, .int p3, .int p4] x I J Q := by
  have k0 := k I J FA.rf hD
  unfold seesV at k0
  have l0 : (0 : Int32).toInt = 0 := by decide
  have l1 : (1 : Int32).toInt = 1 := by decide
  have l2 : (2 : Int32).toInt = 2 := by decide
  have l6 : (6 : Int32).toInt = 6 := by decide
  refine c109_0 (cIs hC.2.1.2.2.2.2.1 (fun s hs e1 hse hsi => ⟨fun z => absurd z (by decide), fun _ => cMo (fun t ht e2 hmo => ⟨fun z => absurd z (by decide), fun _ => ⟨fun q => ?_, fun q3 => ⟨fun q3b => ⟨fun q => ?_, fun q4 => ⟨fun q => ?_, fun q4b => ?_⟩⟩, fun q => ?_⟩⟩⟩) (fun hmo => ⟨fun _ => ?_, fun z => absurd rfl z⟩)⟩) (fun hsi => ⟨fun _ => ?_, fun z => absurd rfl z⟩))
  · rw [hsi, hmo, decide_eq_false (by have := i_lt q; omega)] at k0
    exact k0
  · rw [hsi, hmo, decide_eq_false (show ¬ (((1 : Nat) : Int) ≤ p4.toInt ∧ p4.toInt ≤ ((2 : Nat) : Int)) by have := i_lt q; omega)] at k0
    rw [Bool.and_false] at k0
    exact k0
  · rw [hsi, hmo, decide_eq_false (show ¬ (((1 : Nat) : Int) ≤ p4.toInt ∧ p4.toInt ≤ ((2 : Nat) : Int)) by have := i_lt q; omega)] at k0
    rw [Bool.and_false] at k0
    exact k0
  · have h3 : decide (((0 : Nat) : Int) ≤ p3.toInt ∧ p3.toInt ≤ ((5 : Nat) : Int)) = true := decide_eq_true (by have := i_nlt q3; have := i_lt q3b; omega)
    have h4 : decide (((1 : Nat) : Int) ≤ p4.toInt ∧ p4.toInt ≤ ((2 : Nat) : Int)) = true := decide_eq_true (by have := i_nlt q4; have := i_nlt q4b; omega)
    obtain ⟨a, -, ha, e3⟩ := rng_t (by omega) h3
    obtain ⟨l, hl1, hl2, e4⟩ := rng_t (by omega) h4
    subst e1 e2 e3 e4
    refine re_31 (d := d) ht hC hD (fun I1 J1 m kk f h hm hr _ => ?_)
    have hk := h.2.1
    have k1 := k I1 J1 f.a h.i
    unfold seesV at k1
    rw [hsi, hmo, h3, h4, nI_tn (by omega), nI_tn (by omega), nI_tn (by omega), nI_tn (by omega), if_pos bt4] at k1
    have ix : nI a * (64 : Int32) + nI s = nI (64 * a + s) := by
      show nI a * nI 64 + nI s = _
      rw [nI_mu, nI_add]
      exact congrArg nI (by omega)
    have fin : ∀ w : Int64, (∀ u, u < 64 → bits5 w u = decide (l ≤ (nt g W P H t).1 u)) → wp S (d + 23) 109 86 [some (.ref 0), some (.int (nI s)), some (.int (nI t)), some (.int (nI a)), some (.int (nI l)), some (.int (nI m)), none, none] [.long w] (wv x I1 J1) (rI x Q) := by
      intro w hw
      refine v109_0_86 (d := d + 22) ⟨by rw [ix]; exact nI_in (by omega) (by omega), bcX ?_⟩
      rw [ix, nI_clamp (by omega)]
      have e : pc (w &&& J1 11 (64 * a + s)) = nb (fun u => arB g a s u && decide (l ≤ (nt g W P H t).1 u)) 64 := by
        refine nb_cg 64 (fun u hu => ?_)
        rw [b5_and, hw u hu, f.2 11 (by omega), hC.2.1.2.2.2.2.2.2.2.2.1 a (by omega) s hse u hu, Bool.and_comm]
      rw [e]
      exact k1
    rw [nI_clamp (by omega), ← hr.2.1] at *
    refine ⟨fun z => ⟨nI_in (by omega) (by omega), fin _ (fun u hu => ?_)⟩, fun z => ⟨nI_in (by omega) (by omega), fin _ (fun u hu => ?_)⟩⟩
    · rw [nI_ij (b := 1) (by omega) (by omega) z]
      exact (h.2.2.2.1 m hm u hu).1
    · rw [show l = 2 by have : l ≠ 1 := fun y => z (by rw [y]; rfl); omega]
      exact (h.2.2.2.1 m hm u hu).2.1
  · rw [hsi, hmo, decide_eq_false (show ¬ (((0 : Nat) : Int) ≤ p3.toInt ∧ p3.toInt ≤ ((5 : Nat) : Int)) by have := i_nlt q; omega)] at k0
    exact k0
  · rw [hsi, hmo] at k0
    exact k0
  · rw [hsi] at k0
    exact k0
theorem xAt {p1 p2 p3 : Int32} {Q : Int32 → rI0 → rJ0 → Prop} (hC : CE g W P H I J) (hD : DI g W P H I J) (k : ∀ I' J', FA I J I' J' → DI g W P H I' J' → Q (atV g W P H p1 p2 p3) I' J') : wcI S (d + 23) 110 [.ref 0, .int p1, .int p2, .int p3] x I J Q := by
  have k0 := k I J FA.rf hD
  unfold atV at k0
  have l0 : (0 : Int32).toInt = 0 := by decide
  have l1 : (1 : Int32).toInt = 1 := by decide
  refine c110_0 (cIs hC.2.1.2.2.2.2.1 (fun s hs e1 hse hsi => ⟨fun z => absurd z (by decide), fun _ => cMo (fun t ht e2 hmo => ⟨fun z => absurd z (by decide), fun _ => ⟨fun q => ?_, fun q3 => ⟨fun q => ?_, fun q3b => ?_⟩⟩⟩) (fun hmo => ⟨fun _ => ?_, fun z => absurd rfl z⟩)⟩) (fun hsi => ⟨fun _ => ?_, fun z => absurd rfl z⟩))
  · rw [hsi, hmo, decide_eq_false (by have := i_lt q; omega)] at k0
    exact k0
  · rw [hsi, hmo, decide_eq_false (by have := i_lt q; omega)] at k0
    exact k0
  · have h3 : decide (((0 : Nat) : Int) ≤ p3.toInt ∧ p3.toInt ≤ ((1 : Nat) : Int)) = true := decide_eq_true (by have := i_nlt q3; have := i_nlt q3b; omega)
    subst e1 e2
    refine re_31 (d := d) ht hC hD (fun I1 J1 m kk f h hm hr _ => ?_)
    have hk := h.2.1
    obtain ⟨a1, a2, a3, a4⟩ := h.2.2.2.1 m hm s hs
    have oN := (nt_o (g := g) (W := W) (P := P) (H := H) m).1 s
    have oH := (nt_o (g := g) (W := W) (P := P) (H := H) m).2 s
    have k1 := k I1 J1 f.a h.i
    unfold atV at k1
    rw [hsi, hmo, h3, nI_tn (by omega), nI_tn (by omega), if_pos bt3, ← hr.2.1] at k1
    have io : ¬ mOut (nI m) 601 := nI_in (by omega) (by omega)
    rw [nI_clamp (by omega)]
    refine ⟨fun z => ⟨io, bO hs ⟨io, bO hs ?_⟩⟩, fun z => ⟨io, bO hs ⟨io, bO hs ?_⟩⟩⟩
    · rw [if_pos z] at k1
      rw [a1, a2]
      rcases (show (nt g W P H m).1 s = 0 ∨ (nt g W P H m).1 s = 1 ∨ (nt g W P H m).1 s = 2 by omega) with y | y | y <;> rw [y] at k1 ⊢ <;> exact k1
    · rw [if_neg z] at k1
      rw [a3, a4]
      rcases (show (nt g W P H m).2 s = 0 ∨ (nt g W P H m).2 s = 1 ∨ (nt g W P H m).2 s = 2 ∨ (nt g W P H m).2 s = 3 by omega) with y | y | y | y <;> rw [y] at k1 ⊢ <;> exact k1
  · rw [hsi, hmo] at k0
    exact k0
  · rw [hsi] at k0
    exact k0
theorem xMany {p1 p2 : Int32} {Q : Int32 → rI0 → rJ0 → Prop} (hC : CE g W P H I J) (hD : DI g W P H I J) (k : ∀ I' J', FA I J I' J' → DI g W P H I' J' → Q (manyV g W P H p1 p2) I' J') : wcI S (d + 23) 111 [.ref 0, .int p1, .int p2] x I J Q := by
  have k0 := k I J FA.rf hD
  unfold manyV at k0
  have l0 : (0 : Int32).toInt = 0 := by decide
  have l2 : (2 : Int32).toInt = 2 := by decide
  refine c111_0 (cMo (fun t ht e1 hmo => ⟨fun z => absurd z (by decide), fun _ => ⟨fun q => ?_, fun q3 => ⟨fun q => ?_, fun q3b => ⟨fun z => bcX ?_, fun z => ?_⟩⟩⟩⟩) (fun hmo => ⟨fun _ => ?_, fun z => absurd rfl z⟩))
  · rw [hmo, decide_eq_false (by have := i_lt q; omega)] at k0
    exact k0
  · rw [hmo, decide_eq_false (by have := i_lt q; omega)] at k0
    exact k0
  · have h3 : decide (((0 : Nat) : Int) ≤ p2.toInt ∧ p2.toInt ≤ ((2 : Nat) : Int)) = true := decide_eq_true (by have := i_nlt q3; have := i_nlt q3b; omega)
    rw [hmo, h3, if_pos bt2, if_pos z] at k0
    rw [show pc (J 4 5) = nb (seB g) 64 from nb_cg 64 (fun s hs => hC.2.1.2.2.2.2.1 s hs)]
    exact k0
  · have h3 : decide (((0 : Nat) : Int) ≤ p2.toInt ∧ p2.toInt ≤ ((2 : Nat) : Int)) = true := decide_eq_true (by have := i_nlt q3; have := i_nlt q3b; omega)
    obtain ⟨l, -, hl2, e2⟩ := rng_t (by omega) h3
    subst e1 e2
    have zl : l ≠ 0 := fun y => z (by rw [y]; rfl)
    refine re_31 (d := d) ht hC hD (fun I1 J1 m kk f h hm hr _ => ?_)
    have hk := h.2.1
    have k1 := k I1 J1 f.a h.i
    unfold manyV at k1
    rw [hmo, h3, nI_tn (by omega), nI_tn (by omega), if_pos bt2, if_neg z, ← hr.2.1] at k1
    have io : ¬ mOut (nI m) 601 := nI_in (by omega) (by omega)
    rw [nI_clamp (by omega)]
    refine ⟨fun y => ⟨io, bcX ?_⟩, fun y => ⟨io, bcX ?_⟩⟩
    · rw [nI_ij (b := 1) (by omega) (by omega) y] at k1
      rw [DA.cn1 h.2.2.2.1 hm]
      exact k1
    · rw [show l = 2 by have : l ≠ 1 := fun w => y (by rw [w]; rfl); omega] at k1
      rw [DA.cn h.2.2.2.1 hm]
      exact k1
  · rw [hmo] at k0
    exact k0
theorem xStands {p1 : Int32} {Q : Int32 → rI0 → rJ0 → Prop} (hC : CE g W P H I J) (hD : DI g W P H I J) (k : ∀ I' J', FA I J I' J' → DI g W P H I' J' → Q (standsV g W P H p1) I' J') : wcI S (d + 23) 113 [.ref 0, .int p1] x I J Q := by
  refine c113_0 (cIs hC.2.1.2.2.2.2.1 (fun s hs e1 hse hsi => ⟨fun z => absurd z (by decide), fun _ => ?_⟩) (fun hsi => ⟨fun _ => ?_, fun z => absurd rfl z⟩))
  · subst e1
    have lp : ∀ (n t : Nat) (I1 : rI0) (J1 : rJ0), t + n = 601 → FA I J I1 J1 → DI g W P H I1 J1 → (∀ u, u < t → decide (2 ≤ (nt g W P H u).1 s) = false) → (∀ I' J', FA I J I' J' → DI g W P H I' J' → Q (fnI (fun t => decide (2 ≤ (nt g W P H t).1 s)) n t) I' J') → wp S (d + 23) 113 18 [some (.ref 0), some (.int (nI s)), some (.int (nI t)), none] [] (wv x I1 J1) (rI x Q) := by
      intro n
      induction n with
      | zero =>
        intro t I1 J1 ht f h hv c
        exact v113_0_18 ⟨fun _ => c I1 J1 f h, fun q => absurd (nI_lt (a := 600) (by omega) (by omega)) q⟩
      | succ n ih =>
        intro t I1 J1 ht f h hv c
        refine v113_0_18 (d := d + 22) ⟨fun q => absurd q (nI_nlt (a := 600) (by omega) (by omega)), fun _ => re_31 (d := d) (by omega) (hC.a f) h (fun I2 J2 m kk f2 h2 hm hr _ => ⟨fun q => ?_, fun q => ⟨nI_in (N := 601) (by have := h2.2.1; omega) (by omega), bO hs ?_⟩⟩)⟩
        · have q := (nI_ltI (by have := h2.2.1; omega) (by omega)).mp q
          have cc := c I2 J2 (f.tr f2.a) h2.i
          rcases hr.2.2 with z | z
          · omega
          · rw [fnI_n (p := fun t => decide (2 ≤ (nt g W P H t).1 s)) (n + 1) t (fun j h1 h3 => by
              show decide (2 ≤ (nt g W P H j).1 s) = false
              rw [z j (by omega) (by omega)]
              exact hv m q)] at cc
            exact cc
        · have q : m = t := by
            have := mt (fun z => nI_lt (a := m) (b := t) z (by omega)) q
            have := hr.1
            omega
          subst q
          rw [nI_clamp (by omega), (h2.2.2.2.1 m hm s hs).2.1, ← nI_succ]
          have cc : ∀ I' J', FA I J I' J' → DI g W P H I' J' → Q (if decide (2 ≤ (nt g W P H m).1 s) = true then nI m else fnI (fun t => decide (2 ≤ (nt g W P H t).1 s)) n (m + 1)) I' J' := c
          cases z : decide (2 ≤ (nt g W P H m).1 s) with
          | true =>
            rw [z] at cc
            exact ⟨fun _ => cc I2 J2 (f.tr f2.a) h2.i, fun y => absurd rfl y⟩
          | false =>
            rw [z] at cc
            exact ⟨fun y => absurd y (by decide), fun _ => ih (m + 1) I2 J2 (by omega) (f.tr f2.a) h2.i (fun u hu => by
              by_cases y : u = m
              · rw [y]
                exact z
              · exact hv u (by omega)) cc⟩
    refine lp 601 0 I J rfl FA.rf hD (fun u hu => absurd hu (by omega)) (fun I' J' f h => ?_)
    have kk := k I' J' f h
    unfold standsV at kk
    rw [hsi, if_pos rfl, nI_tn (by omega)] at kk
    exact kk
  · have k0 := k I J FA.rf hD
    unfold standsV at k0
    rw [hsi, if_neg (by decide)] at k0
    exact k0
end AN0
end
section
/-! would, anyway, up, calls, carries, again of the class -/
section AH0
variable {S : Nat × (Nat → Int32)} {d : Nat} {x : mX} {I : rI0} {J : rJ0} {g : Nat → Int32} {W : Nat → lV} {P H : Nat → Bool}
theorem NO41.np {t : Nat} (h : NO41 g W P H t I J) : NP 41 J (nt g W P H t).1 (nt g W P H t).2 := h.2.2.2.2.2.2.1
theorem xWould {p1 p2 p3 : Int32} {Q : Int32 → rI0 → rJ0 → Prop} (hC : CE g W P H I J) (hD : DI g W P H I J) (hK : ∀ s, seB g s = true → I 5 s = nI (kdN g s)) (k : ∀ I' J', FA I J I' J' → DI g W P H I' J' → Q (wouldV g W P H p1 p2 p3) I' J') : wcI S (d + 23) 112 [.ref 0, .int p1, .int p2, .int p3] x I J Q := by
  have k0 := k I J FA.rf hD
  unfold wouldV at k0
  have l0 : (0 : Int32).toInt = 0 := by decide
  have l1 : (1 : Int32).toInt = 1 := by decide
  refine c112_0 (cIs hC.2.1.2.2.2.2.1 (fun s hs e1 hse hsi => ⟨fun z => absurd z (by decide), fun _ => cMo (fun t ht e2 hmo => ⟨fun z => absurd z (by decide), fun _ => ⟨fun q => ?_, fun q3 => ⟨fun q => ?_, fun q3b => ?_⟩⟩⟩) (fun hmo => ⟨fun _ => ?_, fun z => absurd rfl z⟩)⟩) (fun hsi => ⟨fun _ => ?_, fun z => absurd rfl z⟩))
  · rw [hsi, hmo, decide_eq_false (by have := i_lt q; omega)] at k0
    exact k0
  · rw [hsi, hmo, decide_eq_false (by have := i_lt q; omega)] at k0
    exact k0
  · have h3 : decide (((0 : Nat) : Int) ≤ p3.toInt ∧ p3.toInt ≤ ((1 : Nat) : Int)) = true := decide_eq_true (by have := i_nlt q3; have := i_nlt q3b; omega)
    obtain ⟨w, -, hw, e3⟩ := rng_t (by omega) h3
    subst e1 e2 e3
    have k6 := (hC.1.2.2.2.2.1 s hse).2
    have il : (2 : Int32) * nI (kdN g s) + nI w = nI (2 * kdN g s + w) := by
      show nI 2 * nI (kdN g s) + nI w = _
      rw [nI_mu, nI_add]
    rw [nI_clamp (by omega), hK s hse, il, nI_clamp (by omega)]
    rw [hsi, hmo, h3, nI_tn (by omega), nI_tn (by omega), nI_tn (by omega), if_pos bt3] at k0
    refine ⟨nI_in (by omega) (by omega), nI_in (by omega) (by omega), fun z => ?_, fun z => ?_⟩
    · rcases hC.2.1.2.2.2.2.2.2.2.1 (2 * kdN g s + w) (by omega) with ⟨_, a2⟩ | ⟨sz, a1, a2, a3, a4, a5⟩
      · rw [a2, if_neg (by decide)] at k0
        exact k0
      · rw [a3] at z
        have := congrArg Int32.toInt z
        rw [nI_toInt (by omega), show (-1 : Int32).toInt = -1 by decide] at this
        omega
    · have tl : tlB g (2 * kdN g s + w) = true := by
        rcases hC.2.1.2.2.2.2.2.2.2.1 (2 * kdN g s + w) (by omega) with ⟨a1, _⟩ | ⟨sz, a1, a2, a3, a4, a5⟩
        · exact absurd a1 z
        · exact a4
      refine re_31 (d := d) ht hC hD (fun I1 J1 m kk f h hm hr _ => ?_)
      have hk := h.2.1
      have io : ¬ mOut (nI m) 601 := nI_in (by omega) (by omega)
      refine c50_41_31 ⟨io, io, io, io, ?_⟩
      rw [nI_clamp (by omega)]
      have f2 : FA I1 J1 I1 (mSet (mSet (mSet (mSet J1 41 8 (J1 32 m)) 41 9 (J1 33 m)) 41 10 (J1 34 m)) 41 11 (J1 35 m)) := ⟨fun _ _ => rfl, fun b hb => by rw [mSet_ne (by omega), mSet_ne (by omega), mSet_ne (by omega), mSet_ne (by omega)]⟩
      have np : NP 41 (mSet (mSet (mSet (mSet J1 41 8 (J1 32 m)) 41 9 (J1 33 m)) 41 10 (J1 34 m)) 41 11 (J1 35 m)) (nt g W P H m).1 (nt g W P H m).2 := fun u hu => h.2.2.2.1 m hm u hu
      have hC2 := (hC.a f.a).a f2
      obtain ⟨oN, oH⟩ := nt_o (g := g) (W := W) (P := P) (H := H) m
      have hD2 : DI g W P H I1 (mSet (mSet (mSet (mSet J1 41 8 (J1 32 m)) 41 9 (J1 33 m)) 41 10 (J1 34 m)) 41 11 (J1 35 m)) := h.i.mv (fun _ _ => rfl) (fun b hb => by rw [mSet_ne (by omega), mSet_ne (by omega), mSet_ne (by omega), mSet_ne (by omega)])
      have k1 := k _ _ (f.a.tr f2) hD2
      unfold wouldV at k1
      rw [hsi, hmo, h3, nI_tn (by omega), nI_tn (by omega), nI_tn (by omega), if_pos bt3, tl, if_pos rfl, ← hr.2.1] at k1
      refine c51_41 (d := d + 21) ⟨nI_in (by omega) (by omega), ?_⟩
      have e20 : nI (2 * kdN g s + w) * (20 : Int32) = nI (20 * (2 * kdN g s + w)) := by
        show _ * nI 20 = _
        rw [nI_mu]
        exact congrArg nI (by omega)
      rw [nI_clamp (by omega)]
      refine jl_41 (d := d + 2) (l := 2 * kdN g s + w) np oN oH hC2.2.1 (by omega) e20 (fun u hu y => ?_) (fun v hv => ?_)
      · rw [b5_1 hs] at y
        rw [of_decide_eq_true y]
        exact hse
      · have ev : v = 0 ↔ lwB g W (nt g W P H m).1 (nt g W P H m).2 (2 * kdN g s + w) s = false := by
          rw [b5_z]
          constructor
          · intro y
            have := y s hs
            rw [hv s hs, b5_1 hs, decide_eq_true rfl, Bool.true_and] at this
            exact this
          · intro y u hu
            rw [hv u hu, b5_1 hs]
            by_cases q : u = s
            · rw [q, y, Bool.and_false]
            · rw [decide_eq_false q, Bool.false_and]
        refine ⟨fun y => ⟨fun _ => ?_, fun z => absurd rfl z⟩, fun y => ⟨fun z => absurd z (by decide), fun _ => ?_⟩⟩
        · rw [ev.mp (lg_z.mp y)] at k1
          exact k1
        · rw [show lwB g W (nt g W P H m).1 (nt g W P H m).2 (2 * kdN g s + w) s = true from ts_nf (fun q => y (lg_z.mpr (ev.mpr q)))] at k1
          exact k1
  · rw [hsi, hmo] at k0
    exact k0
  · rw [hsi] at k0
    exact k0
theorem xAnyway {p1 : Int32} {Q : Int32 → rI0 → rJ0 → Prop} (hC : CE g W P H I J) (hD : DI g W P H I J) (k : ∀ I' J', FA I J I' J' → DI g W P H I' J' → Q (anywayV g W P H p1) I' J') : wcI S (d + 23) 114 [.ref 0, .int p1] x I J Q := by
  refine c114_0 (cMo (fun t ht e1 hmo => ⟨fun z => absurd z (by decide), fun _ => ?_⟩) (fun hmo => ⟨fun _ => ?_, fun z => absurd rfl z⟩))
  · subst e1
    refine be_41 (d := d + 19) (P := fun _ => false) hC.1 hC.2.1 (fun s y => absurd y (by decide)) (fun s _ => b5_0) hC.2.2.2.2.1 (fun I1 J1 f1 n1 => go_41 (d := d) (P := fun _ => false) hC.1 (fun s y => absurd y (by decide)) ht (Nat.zero_le _) (hC.2.1.n41 f1) n1 (fun I2 J2 v f2 hv n2 e2 => ?_))
    have f12 := f1.a.tr f2.a
    have hD2 : DI g W P H I2 J2 := hD.mv (fun b hb => (f2.1 b (by omega)).trans (f1.1 b (by omega))) (fun b hb => (f2.2 b (by omega)).trans (f1.2 b (by omega)))
    refine re_31 (d := d) ht (hC.a f12) hD2 (fun I3 J3 m kk f3 h3 hm hr _ => ⟨nI_in (N := 601) (by have := h3.2.1; omega) (by omega), bcX ?_⟩)
    have hk := h3.2.1
    have k1 := k I3 J3 (f12.tr f3.a) h3.i
    unfold anywayV at k1
    rw [hmo, if_pos rfl, nI_tn (by omega), ← hr.2.1, ← e2] at k1
    rw [nI_clamp (by omega)]
    have e : pc (J3 33 m &&& J3 41 9) = nb (fun s => decide (2 ≤ (nt g W P H m).1 s) && decide (2 ≤ (nt g W (fun _ => false) H v).1 s)) 64 := by
      refine nb_cg 64 (fun s hs => ?_)
      rw [b5_and, (h3.2.2.2.1 m hm s hs).2.1, f3.2 41 (by omega), (n2.np s hs).2.1]
    rw [e]
    exact k1
  · have k0 := k I J FA.rf hD
    unfold anywayV at k0
    rw [hmo, if_neg (by decide)] at k0
    exact k0
theorem upB_i {m : Nat} : nI (if gN g 3 ≤ stP g W P H m then 1 else 0) = nI (if upB g W P H m = true then 1 else 0) := by
  unfold upB
  by_cases z : gN g 3 ≤ stP g W P H m
  · rw [if_pos z, decide_eq_true z, if_pos rfl]
  · rw [if_neg z, decide_eq_false z, if_neg (by decide)]
theorem upB_c {a b : Nat} (h : nt g W P H a = nt g W P H b) : upB g W P H a = upB g W P H b := by
  unfold upB stP
  rw [h]
theorem xUp {Q : Int32 → rI0 → rJ0 → Prop} (hC : CE g W P H I J) (hD : DI g W P H I J) (k : ∀ I' J', FA I J I' J' → DI g W P H I' J' → Q (upV g W P H) I' J') : wcI S (d + 23) 115 [.ref 0] x I J Q := by
  have lp : ∀ (n t : Nat) (I1 : rI0) (J1 : rJ0), t + n = 601 → FA I J I1 J1 → DI g W P H I1 J1 → (∀ u, u < t → upB g W P H u = false) → (∀ I' J', FA I J I' J' → DI g W P H I' J' → Q (fnI (upB g W P H) n t) I' J') → wp S (d + 23) 115 2 [some (.ref 0), some (.int (nI t)), none] [] (wv x I1 J1) (rI x Q) := by
    intro n
    induction n with
    | zero =>
      intro t I1 J1 ht f h hv c
      exact v115_0_2 ⟨fun _ => c I1 J1 f h, fun q => absurd (nI_lt (a := 600) (by omega) (by omega)) q⟩
    | succ n ih =>
      intro t I1 J1 ht f h hv c
      refine v115_0_2 (d := d + 22) ⟨fun q => absurd q (nI_nlt (a := 600) (by omega) (by omega)), fun _ => re_31 (d := d) (by omega) (hC.a f) h (fun I2 J2 m kk f2 h2 hm hr _ => ⟨fun q => ?_, fun q => up_31 (d := d + 21) (hC.a (f.tr f2.a)) h2 hm ?_⟩)⟩
      · have q := (nI_ltI (by have := h2.2.1; omega) (by omega)).mp q
        have cc := c I2 J2 (f.tr f2.a) h2.i
        rcases hr.2.2 with z | z
        · omega
        · rw [fnI_n (n + 1) t (fun j h1 h3 => by rw [upB_c (z j (by omega) (by omega))]; exact hv m q)] at cc
          exact cc
      · have q : m = t := by
          have := mt (fun z => nI_lt (a := m) (b := t) z (by omega)) q
          have := hr.1
          omega
        subst q
        rw [upB_i, ← nI_succ]
        have cc : ∀ I' J', FA I J I' J' → DI g W P H I' J' → Q (if upB g W P H m = true then nI m else fnI (upB g W P H) n (m + 1)) I' J' := c
        cases z : upB g W P H m with
        | true =>
          rw [z] at cc
          exact ⟨fun y => absurd y (by decide), fun _ => cc I2 J2 (f.tr f2.a) h2.i⟩
        | false =>
          rw [z] at cc
          exact ⟨fun _ => ih (m + 1) I2 J2 (by omega) (f.tr f2.a) h2.i (fun u hu => by
            by_cases y : u = m
            · rw [y]
              exact z
            · exact hv u (by omega)) cc, fun y => absurd rfl y⟩
  exact c115_0 (lp 601 0 I J rfl FA.rf hD (fun u hu => absurd hu (by omega)) k)
theorem caN_c {p : Nat → Bool} {e : Nat} : ∀ n, e ≤ n → (∀ k, e ≤ k → k < n → p k = pvB p k) → caN p n = caN p e := by
  intro n
  induction n with
  | zero => intro h _; rw [show e = 0 by omega]
  | succ n ih =>
    intro h hp
    by_cases z : e = n + 1
    · rw [z]
    · show caN p n + (if (p n && !pvB p n) = true then 1 else 0) = _
      rw [ih (by omega) (fun k h1 h2 => hp k h1 (by omega)), hp n (by omega) (by omega)]
      cases pvB p n <;> rfl
theorem xCalls {p1 : Int32} {Q : Int32 → rI0 → rJ0 → Prop} (hC : CE g W P H I J) (hD : DI g W P H I J) (k : ∀ I' J', FA I J I' J' → DI g W P H I' J' → Q (callsV g W P H p1) I' J') : wcI S (d + 23) 116 [.ref 0, .int p1] x I J Q := by
  refine c116_0 (cMo (fun t ht e1 hmo => ⟨fun z => absurd z (by decide), fun _ => ?_⟩) (fun hmo => ⟨fun _ => ?_, fun z => absurd rfl z⟩))
  · subst e1
    have k2 : ∀ I' J', FA I J I' J' → DI g W P H I' J' → Q (nI (caN (upB g W P H) (t + 1))) I' J' := by
      intro I' J' f h
      have kk := k I' J' f h
      unfold callsV at kk
      rw [hmo, if_pos rfl, nI_tn (by omega)] at kk
      exact kk
    have lp : ∀ (n e : Nat) (I1 : rI0) (J1 : rJ0), e + n = t + 1 → FA I J I1 J1 → DI g W P H I1 J1 → wp S (d + 23) 116 16 [some (.ref 0), some (.int (nI t)), some (.int (nI (caN (upB g W P H) e))), some (.int (nI (if pvB (upB g W P H) e = true then 1 else 0))), some (.int (nI e)), none, none] [] (wv x I1 J1) (rI x Q) := by
      intro n
      induction n with
      | zero =>
        intro e I1 J1 he f h
        have he : e = t + 1 := by omega
        subst he
        exact v116_0_16 ⟨fun _ => k2 I1 J1 f h, fun q => absurd (nI_lt (by omega) (by omega)) q⟩
      | succ n ih =>
        intro e I1 J1 he f h
        refine v116_0_16 (d := d + 22) ⟨fun q => absurd q (nI_nlt (by omega) (by omega)), fun _ => re_31 (d := d) (by omega) (hC.a f) h (fun I2 J2 m kk f2 h2 hm hr _ => ⟨fun q => ?_, fun q => up_31 (d := d + 21) (hC.a (f.tr f2.a)) h2 hm ?_⟩)⟩
        · have q := (nI_ltI (by have := h2.2.1; omega) (by omega)).mp q
          rcases hr.2.2 with z | z
          · omega
          · rw [← caN_c (p := upB g W P H) (e := e) (t + 1) (by omega) (fun j h1 h3 => ?_)]
            · exact k2 I2 J2 (f.tr f2.a) h2.i
            · cases j with
              | zero => omega
              | succ j =>
                show upB g W P H (j + 1) = upB g W P H j
                rw [upB_c (z (j + 1) (by omega) (by omega)), upB_c (z j (by omega) (by omega))]
        · have q : m = e := by
            have := mt (fun z => nI_lt (a := m) (b := e) z (by omega)) q
            have := hr.1
            omega
          subst q
          rw [upB_i, ← nI_succ, ← nI_succ]
          have i2 := ih (m + 1) I2 J2 (by omega) (f.tr f2.a) h2.i
          rw [show pvB (upB g W P H) (m + 1) = upB g W P H m from rfl, show caN (upB g W P H) (m + 1) = caN (upB g W P H) m + (if (upB g W P H m && !pvB (upB g W P H) m) = true then 1 else 0) from rfl] at i2
          cases z : upB g W P H m with
          | false =>
            rw [z] at i2
            exact ⟨fun _ => i2, fun y => absurd rfl y⟩
          | true =>
            rw [z] at i2
            refine ⟨fun y => absurd y (by decide), fun _ => ?_⟩
            cases w : pvB (upB g W P H) m with
            | false =>
              rw [w] at i2
              exact ⟨fun _ => i2, fun y => absurd rfl y⟩
            | true =>
              rw [w] at i2
              exact ⟨fun y => absurd y (by decide), fun _ => i2⟩
    exact lp (t + 1) 0 I J (by omega) FA.rf hD
  · have k0 := k I J FA.rf hD
    unfold callsV at k0
    rw [hmo, if_neg (by decide)] at k0
    exact k0
theorem xCarries {p1 : Int32} {Q : Int32 → rI0 → rJ0 → Prop} (hC : CE g W P H I J) (hD : DI g W P H I J) (k : ∀ I' J', FA I J I' J' → DI g W P H I' J' → Q (carriesV g W P H p1) I' J') : wcI S (d + 24) 118 [.ref 0, .int p1] x I J Q := by
  have l0 : (0 : Int32).toInt = 0 := by decide
  have l1 : (1 : Int32).toInt = 1 := by decide
  have k0 := k I J FA.rf hD
  unfold carriesV at k0
  have h3 := hC.2.2.2.2.2.2
  refine c118_0 ⟨fun q => ?_, fun q => ⟨fun q2 => ?_, fun q2 => hg_31 (d := d) hC hD (fun I1 J1 f h => ?_)⟩⟩
  · rw [decide_eq_false (by have := i_lt q; omega)] at k0
    exact k0
  · rw [decide_eq_false (by have := i_lt q2; omega)] at k0
    exact k0
  · have hl := hgt_l (g := g) (W := W) (P := P) (H := H) (t := 60)
    have k1 := k I1 J1 f.a h
    unfold carriesV at k1
    rw [decide_eq_true (show ((0 : Nat) : Int) ≤ p1.toInt ∧ p1.toInt ≤ ((1 : Nat) : Int) by have := i_nlt q; have := i_nlt q2; omega), if_pos rfl] at k1
    refine ⟨fun z => ?_, fun z => ?_⟩
    · rw [if_pos z] at k1
      exact k1
    · rw [if_neg z] at k1
      rw [show I1 4 2 = nI (gN g 3) by rw [f.1 4 (by omega)]; exact hC.2.2.2.2.2.1]
      refine ⟨fun y => ?_, fun y => ?_⟩
      · have y := (nI_ltI (by omega) (by omega)).mp y
        rw [if_neg (by omega)] at k1
        exact k1
      · have y : ¬ hgt g W P H 60 < gN g 3 := fun w => y (nI_lt w (by omega))
        rw [if_pos (by omega)] at k1
        exact k1
/-! again -/
def mxR (g : Nat → Int32) : Nat → Nat
  | 0 => 0
  | r + 1 => if mxR g r < gN g (78 + r) - 1 then gN g (78 + r) - 1 else mxR g r
def mxC (g : Nat → Int32) (F : Nat) : Nat → Nat
  | 0 => F
  | i + 1 => if mxC g F i < gN g (591 + 3 * i) then gN g (591 + 3 * i) else mxC g F i
theorem mxR_i {Z : Nat} : ∀ r, mxR g r ≤ Z ↔ ∀ q, q < r → gN g (78 + q) - 1 ≤ Z := by
  intro r
  induction r with
  | zero => exact iff_of_true (Nat.zero_le _) (fun q hq => absurd hq (by omega))
  | succ r ih =>
    show (if mxR g r < gN g (78 + r) - 1 then gN g (78 + r) - 1 else mxR g r) ≤ Z ↔ _
    constructor
    · intro h q hq
      have h1 : mxR g r ≤ Z ∧ gN g (78 + r) - 1 ≤ Z := by split at h <;> omega
      by_cases y : q = r
      · rw [y]
        exact h1.2
      · exact ih.mp h1.1 q (by omega)
    · intro h
      have h1 := ih.mpr (fun q hq => h q (by omega))
      have h2 := h r (by omega)
      split <;> omega
theorem mxC_i {F Z : Nat} : ∀ r, mxC g F r ≤ Z ↔ F ≤ Z ∧ ∀ q, q < r → gN g (591 + 3 * q) ≤ Z := by
  intro r
  induction r with
  | zero => exact ⟨fun h => ⟨h, fun q hq => absurd hq (by omega)⟩, fun h => h.1⟩
  | succ r ih =>
    show (if mxC g F r < gN g (591 + 3 * r) then gN g (591 + 3 * r) else mxC g F r) ≤ Z ↔ _
    constructor
    · intro h
      have h1 : mxC g F r ≤ Z ∧ gN g (591 + 3 * r) ≤ Z := by split at h <;> omega
      refine ⟨(ih.mp h1.1).1, fun q hq => ?_⟩
      by_cases y : q = r
      · rw [y]
        exact h1.2
      · exact (ih.mp h1.1).2 q (by omega)
    · intro h
      have h1 := ih.mpr ⟨h.1, fun q hq => h.2 q (by omega)⟩
      have h2 := h.2 r (by omega)
      split <;> omega
def agB (g : Nat → Int32) : Nat := mxC g (mxR g (gN g 0)) (gN g 590)
def pdB (g : Nat → Int32) (P : Nat → Bool) : Bool := decide (0 < nb P 64) || decide (0 < nb (fun i => decide (gN g (592 + 3 * i) = 0)) (gN g 590))
def agF (g : Nat → Int32) (P : Nat → Bool) : Nat := if (pdB g P && decide (gN g 4 < 600)) = true then (if agB g < gN g 4 + 1 then gN g 4 + 1 else agB g) else agB g
def alB (g : Nat → Int32) (W : Nat → lV) (P H : Nat → Bool) (a b : Nat) : Bool := decide (nb (fun s => decide ((nt g W P H a).1 s = (nt g W P H b).1 s) && decide ((nt g W P H a).2 s = (nt g W P H b).2 s)) 64 = 64)
theorem nb_full {p : Nat → Bool} : ∀ n, nb p n = n → ∀ i, i < n → p i = true := by
  intro n
  induction n with
  | zero => intro _ i hi; exact absurd hi (by omega)
  | succ n ih =>
    intro h i hi
    rw [nb_s] at h
    have hl := nb_le (p := p) n
    by_cases z : p n = true
    · rw [if_pos z] at h
      by_cases y : i = n
      · rw [y]
        exact z
      · exact ih (by omega) i (by omega)
    · rw [if_neg z] at h
      omega
theorem alB_i {a b : Nat} : alB g W P H a b = true ↔ nt g W P H a = nt g W P H b := by
  unfold alB
  rw [decide_eq_true_iff]
  constructor
  · intro h
    have e := nb_full 64 h
    refine nt_eq (fun s hs => ?_)
    have := e s hs
    rw [Bool.and_eq_true, decide_eq_true_iff, decide_eq_true_iff] at this
    rw [this.1, this.2]
    exact ⟨rfl, rfl, rfl, rfl⟩
  · intro h
    rw [h]
    exact nb_all 64 (fun i _ => by rw [decide_eq_true rfl, decide_eq_true rfl]; rfl)
def lkI (g : Nat → Int32) (W : Nat → lV) (P H : Nat → Bool) (t : Nat) : Int32 := fnI (alB g W P H t) (600 - t) (t + 1)
def ag2 (g : Nat → Int32) (W : Nat → lV) (P H : Nat → Bool) (p1 : Int32) : Nat → Nat → Int32
  | 0, _ => -1
  | n + 1, m => if lkI g W P H m = -1 then ag2 g W P H p1 n (m + 1) else if p1 = 0 then nI m else lkI g W P H m - nI m
def againV (g : Nat → Int32) (W : Nat → lV) (P H : Nat → Bool) (p1 : Int32) : Int32 := if decide (((0 : Nat) : Int) ≤ p1.toInt ∧ p1.toInt ≤ ((1 : Nat) : Int)) = true then ag2 g W P H p1 (601 - agF g P) (agF g P) else -1
theorem agB_l (hG : GA g) (hI : GI g) : agB g ≤ 600 := by
  unfold agB
  rw [mxC_i]
  refine ⟨mxR_i _ |>.mpr (fun q hq => ?_), fun q hq => (hG.2.2.2.2.2.2.1 q hq).1⟩
  have := (hI.2.2.1 q (by have := hG.1; omega)).2.2.2
  omega
theorem fnI_at {p : Nat → Bool} : ∀ m i u, i ≤ u → u < i + m → p u = true → (∀ v, i ≤ v → v < u → p v = false) → fnI p m i = nI u := by
  intro m
  induction m with
  | zero => intro i u h1 h2; exact absurd h2 (by omega)
  | succ m ih =>
    intro i u h1 h2 h3 h4
    show (if p i = true then nI i else fnI p m (i + 1)) = _
    by_cases z : i = u
    · rw [z, if_pos h3]
    · rw [h4 i (by omega) (by omega), if_neg (by decide)]
      exact ih (i + 1) u (by omega) (by omega) h3 (fun v h5 h6 => h4 v (by omega) h6)
theorem ag_l600 {p1 : Int32} : ∀ n m, m + n = 600 → ag2 g W P H p1 (n + 1) m = ag2 g W P H p1 n m := by
  intro n
  induction n with
  | zero =>
    intro m hm
    show (if lkI g W P H m = -1 then _ else _) = -1
    have : lkI g W P H m = -1 := by
      unfold lkI
      rw [show 600 - m = 0 by omega]
      rfl
    rw [if_pos this]
    rfl
  | succ n ih =>
    intro m hm
    show (if lkI g W P H m = -1 then ag2 g W P H p1 (n + 1) (m + 1) else _) = (if lkI g W P H m = -1 then ag2 g W P H p1 n (m + 1) else _)
    rw [ih (m + 1) (by omega)]
theorem sp_19 {Q : Int32 → rI0 → rJ0 → Prop} (hG : GA g) (hM : HM g W I J) (eP : ∀ s, s < 64 → bits5 (J 3 5) s = P s) (k : Q (nI (if pdB g P = true then 1 else 0)) I J) : wcI S d 19 [.ref 3] x I J Q := by
  have h30 := hG.2.2.2.2.2.1
  have ez : J 3 5 = 0 ↔ decide (0 < nb P 64) = false := by
    rw [b5_z, decide_eq_false_iff_not, nb_pos]
    constructor
    · rintro h ⟨i, hi, y⟩
      rw [← eP i hi, h i hi] at y
      cases y
    · intro h s hs
      rw [eP s hs]
      exact ts_nt (fun y => h ⟨s, hs, y⟩)
  have b01 : ∀ b : Bool, nI (if b = true then 1 else 0) = 0 ∨ nI (if b = true then 1 else 0) = 1 := by decide
  have lp : ∀ (m i : Nat), i + m = gN g 590 → wp S d 19 17 [some (.ref 3), some (.int (nI (if (decide (0 < nb P 64) || decide (0 < nb (fun i => decide (gN g (592 + 3 * i) = 0)) i)) = true then 1 else 0))), some (.int (nI i))] [] (wv x I J) (rI x Q) := by
    intro m
    induction m with
    | zero =>
      intro i hi
      have hi : i = gN g 590 := by omega
      subst hi
      exact v19_3_17 ⟨fun q => absurd q (by rw [hM.2.2.2.2.2.2.2.2.2.1]; exact nI_nlt (Nat.le_refl _) (by omega)), fun _ => ⟨b01 _, k⟩⟩
    | succ m ih =>
      intro i hi
      have c2 := (hM.2.2.2.2.2.2.2.2.2.2 i (by omega)).2.1
      have d3 := (hG.2.2.2.2.2.2.1 i (by omega)).2.1
      have i2 := ih (i + 1) (by omega)
      refine v19_3_17 ⟨fun _ => ⟨fun _ => ?_, fun q => absurd (nI_lt (b := 30) (by omega) (by omega)) q⟩, fun q => absurd (by rw [hM.2.2.2.2.2.2.2.2.2.1]; exact nI_lt (by omega) (by omega)) q⟩
      rw [nI_clamp (by omega), c2, ← nI_succ]
      have es : decide (0 < nb (fun i => decide (gN g (592 + 3 * i) = 0)) (i + 1)) = (decide (0 < nb (fun i => decide (gN g (592 + 3 * i) = 0)) i) || decide (gN g (592 + 3 * i) = 0)) := by
        rw [nb_s]
        by_cases z : gN g (592 + 3 * i) = 0
        · rw [decide_eq_true z, Bool.or_true, if_pos rfl]
          exact decide_eq_true (by omega)
        · rw [decide_eq_false z, Bool.or_false, if_neg (by decide)]
          rfl
      rw [es, ← Bool.or_assoc] at i2
      cases y : (decide (0 < nb P 64) || decide (0 < nb (fun i => decide (gN g (592 + 3 * i) = 0)) i)) with
      | true =>
        rw [y] at i2
        exact ⟨fun w => absurd w (by decide), fun _ => i2⟩
      | false =>
        rw [y] at i2
        refine ⟨fun _ => ⟨nI_in (by omega) (by omega), fun w => ?_, fun w => ?_⟩, fun w => absurd rfl w⟩
        · rw [decide_eq_true (nI_ij (b := 0) (by omega) (by omega) w)] at i2
          exact i2
        · rw [decide_eq_false (show ¬ gN g (592 + 3 * i) = 0 from fun v => w (by rw [v]; rfl))] at i2
          exact i2
  have l0 := lp (gN g 590) 0 (by omega)
  refine c19_3 ⟨fun z => ?_, fun z => ?_⟩
  · rw [ez.mp (lg_z.mp z)] at l0
    exact l0
  · rw [show decide (0 < nb P 64) = true from ts_nf (fun y => z (lg_z.mpr (ez.mpr y)))] at l0
    exact l0
theorem af_18 {Q : Int32 → rI0 → rJ0 → Prop} (hI : GI g) (hC : CE g W P H I J) (k : Q (nI (agF g P)) I J) : wcI S (d + 3) 18 [.ref 3] x I J Q := by
  have hG := hC.1
  have h4 := hG.2.2.1
  have hl := agB_l hG hI
  refine c18_3 (le_17 hG hC.2.1 (fun v h1 h6 hz => ?_))
  have e0 : (if (0 : Int32) < v then v else (0 : Int32)) = nI (agB g) := by
    have t : ((if (0 : Int32) < v then v else (0 : Int32))).toInt = if 0 < v.toInt then v.toInt else 0 := by
      by_cases z : (0 : Int32) < v
      · have := i_lt z
        rw [if_pos z, if_pos (show 0 < v.toInt from this)]
      · have := i_nlt z
        rw [if_neg z, if_neg (by have e : (0 : Int32).toInt = 0 := by decide
                                 omega)]
        rfl
    have eZ : ∀ Z : Nat, (if 0 < v.toInt then v.toInt else 0) ≤ (Z : Int) ↔ agB g ≤ Z := by
      intro Z
      have q := hz (Z : Int) (by omega)
      unfold agB
      rw [mxC_i, mxR_i]
      constructor
      · intro y
        have y1 : v.toInt ≤ (Z : Int) := by split at y <;> omega
        obtain ⟨q1, q2⟩ := q.mp y1
        exact ⟨fun r hr => by have := q1 r hr; omega, fun i hi => by have := q2 i hi; omega⟩
      · rintro ⟨y1, y2⟩
        have y3 := q.mpr ⟨fun r hr => by have := y1 r hr; omega, fun i hi => by have := y2 i hi; omega⟩
        split <;> omega
    rw [← Int32.toInt_inj, t, nI_toInt (by omega)]
    have e1 := (eZ (agB g)).mpr (Nat.le_refl _)
    have e2 := (eZ ((if 0 < v.toInt then v.toInt else 0).toNat)).mp (by split <;> omega)
    split at e1 <;> split at e2 <;> omega
  unfold agF at k
  rw [e0, hC.2.1.2.2.1]
  refine ⟨fun q => sp_19 hG hC.2.1 hC.2.2.2.1 ?_, fun q => ?_⟩
  · have q := (nI_ltI (b := 600) (by omega) (by omega)).mp q
    rw [decide_eq_true q, Bool.and_true] at k
    rw [hC.2.1.2.2.1, ← nI_succ]
    cases y : pdB g P with
    | false =>
      rw [y] at k
      exact ⟨fun _ => k, fun w => absurd rfl w⟩
    | true =>
      rw [y, if_pos rfl] at k
      refine ⟨fun w => absurd w (by decide), fun _ => ?_⟩
      by_cases z : agB g < gN g 4 + 1
      · rw [if_pos z] at k
        rw [if_pos (nI_lt z (by omega))]
        exact k
      · rw [if_neg z] at k
        rw [if_neg (nI_nlt (by omega) (by omega))]
        exact k
  · have q : ¬ gN g 4 < 600 := fun z => q (nI_lt (b := 600) z (by omega))
    rw [decide_eq_false q, Bool.and_false] at k
    exact k
theorem xAgain {p1 : Int32} {Q : Int32 → rI0 → rJ0 → Prop} (hI : GI g) (hC : CE g W P H I J) (hD : DI g W P H I J) (k : ∀ I' J', FA I J I' J' → DI g W P H I' J' → Q (againV g W P H p1) I' J') : wcI S (d + 24) 117 [.ref 0, .int p1] x I J Q := by
  have l0 : (0 : Int32).toInt = 0 := by decide
  have l1 : (1 : Int32).toInt = 1 := by decide
  have k0 := k I J FA.rf hD
  unfold againV at k0
  have hF : agF g P ≤ 600 := by
    have := agB_l hC.1 hI
    have := hC.1.2.2.1
    unfold agF
    split
    · rename_i z
      rw [Bool.and_eq_true, decide_eq_true_iff] at z
      split <;> omega
    · omega
  refine c117_0 ⟨fun q => ?_, fun q => ⟨fun q2 => ?_, fun q2 => af_18 (d := d + 20) hI hC ?_⟩⟩
  · rw [decide_eq_false (by have := i_lt q; omega)] at k0
    exact k0
  · rw [decide_eq_false (by have := i_lt q2; omega)] at k0
    exact k0
  · have kk : ∀ I' J', FA I J I' J' → DI g W P H I' J' → Q (ag2 g W P H p1 (600 - agF g P) (agF g P)) I' J' := by
      intro I' J' f h
      have k1 := k I' J' f h
      unfold againV at k1
      rw [decide_eq_true (show ((0 : Nat) : Int) ≤ p1.toInt ∧ p1.toInt ≤ ((1 : Nat) : Int) by have := i_nlt q; have := i_nlt q2; omega), if_pos rfl, show 601 - agF g P = 600 - agF g P + 1 by omega, ag_l600 _ _ (by omega)] at k1
      exact k1
    have lp : ∀ (n m : Nat) (I1 : rI0) (J1 : rJ0), m + n = 600 → FA I J I1 J1 → DI g W P H I1 J1 → (∀ I' J', FA I J I' J' → DI g W P H I' J' → Q (ag2 g W P H p1 n m) I' J') → wp S (d + 24) 117 19 [some (.ref 0), some (.int p1), some (.int (nI m)), none] [] (wv x I1 J1) (rI x Q) := by
      intro n
      induction n with
      | zero =>
        intro m I1 J1 hm f h c
        exact v117_0_19 ⟨fun q => absurd q (nI_nlt (b := 600) (by omega) (by omega)), fun _ => c I1 J1 f h⟩
      | succ n ih =>
        intro m I1 J1 hm f h c
        have cc : ∀ I' J', FA I J I' J' → DI g W P H I' J' → Q (if lkI g W P H m = -1 then ag2 g W P H p1 n (m + 1) else if p1 = 0 then nI m else lkI g W P H m - nI m) I' J' := c
        refine v117_0_19 (d := d + 23) ⟨fun _ => lb_31 (d := d) (by omega) (hC.a f) h (fun I2 J2 u f2 h2 hu h6 eu hv => ?_) (fun I2 J2 f2 h2 hv => ?_), fun q => absurd (nI_lt (b := 600) (by omega) (by omega)) q⟩
        · have el : lkI g W P H m = nI u := fnI_at (600 - m) (m + 1) u (by omega) (by omega) (alB_i.mpr eu.symm) (fun v h3 h4 => ts_nt (fun y => hv v (by omega) h4 (alB_i.mp y).symm))
          have n1 : ¬ nI u = -1 := by
            intro y
            have := congrArg Int32.toInt y
            rw [nI_toInt (by omega), show (-1 : Int32).toInt = -1 by decide] at this
            omega
          rw [el, if_neg n1] at cc
          refine ⟨fun y => absurd y n1, fun _ => ⟨fun y => ?_, fun y => ?_⟩⟩
          · rw [if_pos y] at cc
            exact cc I2 J2 (f.tr f2.a) h2
          · rw [if_neg y] at cc
            exact cc I2 J2 (f.tr f2.a) h2
        · have el : lkI g W P H m = -1 := fnI_n (600 - m) (m + 1) (fun v h3 h4 => ts_nt (fun y => hv v (by omega) (by omega) (alB_i.mp y).symm))
          rw [el, if_pos rfl] at cc
          rw [← nI_succ]
          exact ⟨fun _ => ih (m + 1) I2 J2 (by omega) (f.tr f2.a) h2 cc, fun y => absurd rfl y⟩
    exact lp (600 - agF g P) (agF g P) I J (by omega) FA.rf hD kk
end AH0
end
