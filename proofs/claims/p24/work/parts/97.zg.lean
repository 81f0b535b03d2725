/-! answers of the night, and the class's methods that give them -/
section AN0
def seI (g : Nat → Int32) (p : Int32) : Bool := decide (0 ≤ p.toInt ∧ p.toInt < 64) && seB g p.toInt.toNat
def moI (p : Int32) : Bool := decide (0 ≤ p.toInt ∧ p.toInt ≤ 600)
/-- the first of m from i on for which it holds; -1: none -/
def fnI (p : Nat → Bool) : Nat → Nat → Int32
  | 0, _ => -1
  | m + 1, i => if p i = true then nI i else fnI p m (i + 1)
theorem fnI_n {p : Nat → Bool} : ∀ m i, (∀ j, i ≤ j → j < i + m → p j = false) → fnI p m i = -1 := by
  intro m
  induction m with
  | zero => intro i _; rfl
  | succ m ih =>
    intro i h
    show (if p i = true then _ else _) = _
    rw [h i (by omega) (by omega), if_neg (by decide)]
    exact ih (i + 1) (fun j h1 h2 => h j (by omega) (by omega))
variable {S : Nat × (Nat → Int32)} {d : Nat} {x : mX} {I : rI0} {J : rJ0} {g : Nat → Int32} {W : Nat → lV} {P H : Nat → Bool}
theorem seI_n {s : Nat} (hs : s < 64) : seI g (nI s) = seB g s := by
  unfold seI
  rw [nI_toInt (by omega), decide_eq_true (by omega), Bool.true_and]
  rfl
theorem seI_t {p : Int32} (h : seI g p = true) : ∃ s, s < 64 ∧ p = nI s ∧ seB g s = true := by
  unfold seI at h
  rw [Bool.and_eq_true] at h
  have h1 := of_decide_eq_true h.1
  exact ⟨p.toInt.toNat, by omega, Int32.toInt_inj.mp (by rw [nI_toInt (by omega)]; omega), h.2⟩
theorem moI_t {p : Int32} (h : moI p = true) : ∃ t, t ≤ 600 ∧ p = nI t := by
  have h1 := of_decide_eq_true h
  exact ⟨p.toInt.toNat, by omega, Int32.toInt_inj.mp (by rw [nI_toInt (by omega)]; omega)⟩
theorem rng_t {p : Int32} {a b : Nat} (hb : b < 1000) (h : decide ((a : Int) ≤ p.toInt ∧ p.toInt ≤ (b : Int)) = true) : ∃ t, a ≤ t ∧ t ≤ b ∧ p = nI t := by
  have h1 := of_decide_eq_true h
  exact ⟨p.toInt.toNat, by omega, by omega, Int32.toInt_inj.mp (by rw [nI_toInt (by omega)]; omega)⟩
/-- isSeat, of the class -/
theorem cIs {p : Int32} {Q : Int32 → rI0 → rJ0 → Prop} (hb : ∀ s, s < 64 → bits5 (J 4 5) s = seB g s) (k1 : ∀ s, s < 64 → p = nI s → seB g s = true → seI g p = true → Q 1 I J) (k0 : seI g p = false → Q 0 I J) : wcI S d 24 [.ref 4, .int p] x I J Q := by
  refine isSeatE_4 (fun f => k0 (ts_nt (fun h => ?_))) (fun s hs e h => ?_)
  · obtain ⟨s, hs, e, h2⟩ := seI_t h
    refine f s hs e ?_
    rw [b5_SB, hb s hs]
    exact h2
  · rw [b5_SB, hb s hs] at h
    exact k1 s hs e h (by rw [e, seI_n hs]; exact h)
/-- isSeat, of the reference -/
theorem rIs {p : Int32} {Q : Int32 → rI0 → rJ0 → Prop} (hG : GA g) (hI : GI g) (eg : I 45 = g) (k1 : ∀ s, s < 64 → p = nI s → seB g s = true → seI g p = true → Q 1 I J) (k0 : seI g p = false → Q 0 I J) : wcI S (d + 1) 183 [.ref 43, .int p] x I J Q := by
  have hRC : gN g 0 * gN g 1 ≤ 64 := Nat.le_trans (Nat.mul_le_mul hG.1 hG.2.1) (by omega)
  refine rSeatE hG.1 hG.2.1 (by rw [eg]; exact hI.1 0 (by omega)) (by rw [eg]; exact hI.1 1 (by omega)) (fun f => k0 (ts_nt (fun h => ?_))) (fun s hs e h => ?_)
  · obtain ⟨s, hs, e, h2⟩ := seI_t h
    refine f s (hG.2.2.2.2.1 s h2).1 e ?_
    rw [eg]
    unfold seB at h2
    rw [Bool.and_eq_true] at h2
    exact of_decide_eq_true h2.2
  · have h2 : seB g s = true := by
      unfold seB
      rw [eg] at h
      rw [decide_eq_true (show s < 64 by omega), decide_eq_true h]
      rfl
    exact k1 s (by omega) e h2 (by rw [e, seI_n (by omega)]; exact h2)
theorem cMo {p : Int32} {Q : Int32 → rI0 → rJ0 → Prop} (k1 : ∀ t, t ≤ 600 → p = nI t → moI p = true → Q 1 I J) (k0 : moI p = false → Q 0 I J) : wcI S d 141 [.int p] x I J Q := by
  have l0 : (0 : Int32).toInt = 0 := by decide
  have l6 : (600 : Int32).toInt = 600 := by decide
  refine c141 ⟨fun q => k0 (decide_eq_false (fun h => ?_)), fun q => ⟨fun q2 => k0 (decide_eq_false (fun h => ?_)), fun q2 => ?_⟩⟩
  · have := i_lt q
    omega
  · have := i_lt q2
    omega
  · have q := i_nlt q
    have q2 := i_nlt q2
    have h : moI p = true := decide_eq_true (by omega)
    obtain ⟨t, ht, e⟩ := moI_t h
    exact k1 t ht e h
theorem rIn {p : Int32} {a b : Nat} {pa pb : Int32} {Q : Int32 → rI0 → rJ0 → Prop} (ea : pa.toInt = (a : Int)) (eb : pb.toInt = (b : Int)) (hb : b < 1000) (k1 : ∀ t, a ≤ t → t ≤ b → p = nI t → decide ((a : Int) ≤ p.toInt ∧ p.toInt ≤ (b : Int)) = true → Q 1 I J) (k0 : decide ((a : Int) ≤ p.toInt ∧ p.toInt ≤ (b : Int)) = false → Q 0 I J) : wcI S d 151 [.int p, .int pa, .int pb] x I J Q := by
  refine c151 ⟨fun q => k0 (decide_eq_false (fun h => ?_)), fun q => ⟨fun q2 => k0 (decide_eq_false (fun h => ?_)), fun q2 => ?_⟩⟩
  · have := i_lt q
    omega
  · have := i_lt q2
    omega
  · have q := i_nlt q
    have q2 := i_nlt q2
    have h : decide ((a : Int) ≤ p.toInt ∧ p.toInt ≤ (b : Int)) = true := decide_eq_true (by omega)
    obtain ⟨t, h1, h2, e⟩ := rng_t hb h
    exact k1 t h1 h2 e h
theorem bO {p : Int64} {s : Nat} {Q : Int32 → rI0 → rJ0 → Prop} (hs : s < 64) (k : Q (nI (if bits5 p s = true then 1 else 0)) I J) : wcI S d 142 [.long p, .int (nI s)] x I J Q := by
  refine c142 ?_
  rw [b5_o hs]
  exact k
/-- nights at 41 and 42 and the diary alone have moved -/
def FA (I : rI0) (J : rJ0) (I' : rI0) (J' : rJ0) : Prop := (∀ b, ¬ ((31 ≤ b ∧ b ≤ 36) ∨ b = 41 ∨ b = 42) → I' b = I b) ∧ ∀ b, ¬ ((31 ≤ b ∧ b ≤ 36) ∨ b = 41 ∨ b = 42) → J' b = J b
theorem FA.rf : FA I J I J := ⟨fun _ _ => rfl, fun _ _ => rfl⟩
theorem FA.tr {I1 I2 : rI0} {J1 J2 : rJ0} (h : FA I J I1 J1) (h2 : FA I1 J1 I2 J2) : FA I J I2 J2 := ⟨fun b hb => (h2.1 b hb).trans (h.1 b hb), fun b hb => (h2.2 b hb).trans (h.2 b hb)⟩
theorem FD.a {I1 : rI0} {J1 : rJ0} (h : FD I J I1 J1) : FA I J I1 J1 := ⟨fun b hb => h.1 b (by omega), fun b hb => h.2 b (by omega)⟩
theorem F41.a {I1 : rI0} {J1 : rJ0} (h : F41 I J I1 J1) : FA I J I1 J1 := ⟨fun b hb => h.1 b (by omega), fun b hb => h.2 b (by omega)⟩
theorem F42.a {I1 : rI0} {J1 : rJ0} (h : F42 I J I1 J1) : FA I J I1 J1 := ⟨fun b hb => h.1 b (by omega), fun b hb => h.2 b (by omega)⟩
theorem CE.a {I' : rI0} {J' : rJ0} (h : CE g W P H I J) (f : FA I J I' J') : CE g W P H I' J' := h.mv (fun b hb => f.1 b (by omega)) (fun b hb => f.2 b (by omega))
theorem DI.mv {I' : rI0} {J' : rJ0} (h : DI g W P H I J) (hi : ∀ b, 31 ≤ b ∧ b ≤ 36 → I' b = I b) (hj : ∀ b, 31 ≤ b ∧ b ≤ 36 → J' b = J b) : DI g W P H I' J' := by
  rcases h with h | ⟨k, k1, k2, k3, k4, k5⟩
  · exact Or.inl (by rw [hi 31 (by omega)]; exact h)
  · refine Or.inr ⟨k, k1, k2, by rw [hi 31 (by omega)]; exact k3, fun m hm s hs => ?_, k5.mv (hi 36 (by omega)) (hj 36 (by omega))⟩
    rw [hj 32 (by omega), hj 33 (by omega), hj 34 (by omega), hj 35 (by omega)]
    exact k4 m hm s hs
/-! the answers -/
def seesV (g : Nat → Int32) (W : Nat → lV) (P H : Nat → Bool) (p1 p2 p3 p4 : Int32) : Int32 := if (seI g p1 && (moI p2 && (decide (((0 : Nat) : Int) ≤ p3.toInt ∧ p3.toInt ≤ ((5 : Nat) : Int)) && decide (((1 : Nat) : Int) ≤ p4.toInt ∧ p4.toInt ≤ ((2 : Nat) : Int))))) = true then nI (nb (fun u => arB g p3.toInt.toNat p1.toInt.toNat u && decide (p4.toInt.toNat ≤ (nt g W P H p2.toInt.toNat).1 u)) 64) else -1
def atV (g : Nat → Int32) (W : Nat → lV) (P H : Nat → Bool) (p1 p2 p3 : Int32) : Int32 := if (seI g p1 && (moI p2 && decide (((0 : Nat) : Int) ≤ p3.toInt ∧ p3.toInt ≤ ((1 : Nat) : Int)))) = true then (if p3 = 0 then nI ((nt g W P H p2.toInt.toNat).1 p1.toInt.toNat) else nI ((nt g W P H p2.toInt.toNat).2 p1.toInt.toNat)) else -1
def manyV (g : Nat → Int32) (W : Nat → lV) (P H : Nat → Bool) (p1 p2 : Int32) : Int32 := if (moI p1 && decide (((0 : Nat) : Int) ≤ p2.toInt ∧ p2.toInt ≤ ((2 : Nat) : Int))) = true then (if p2 = 0 then nI (nb (seB g) 64) else nI (nb (fun s => decide (p2.toInt.toNat ≤ (nt g W P H p1.toInt.toNat).1 s)) 64)) else -1
def wouldV (g : Nat → Int32) (W : Nat → lV) (P H : Nat → Bool) (p1 p2 p3 : Int32) : Int32 := if (seI g p1 && (moI p2 && decide (((0 : Nat) : Int) ≤ p3.toInt ∧ p3.toInt ≤ ((1 : Nat) : Int)))) = true then (if tlB g (2 * kdN g p1.toInt.toNat + p3.toInt.toNat) = true then nI (if lwB g W (nt g W P H p2.toInt.toNat).1 (nt g W P H p2.toInt.toNat).2 (2 * kdN g p1.toInt.toNat + p3.toInt.toNat) p1.toInt.toNat = true then 1 else 0) else -1) else -1
def standsV (g : Nat → Int32) (W : Nat → lV) (P H : Nat → Bool) (p1 : Int32) : Int32 := if seI g p1 = true then fnI (fun t => decide (2 ≤ (nt g W P H t).1 p1.toInt.toNat)) 601 0 else -1
def anywayV (g : Nat → Int32) (W : Nat → lV) (P H : Nat → Bool) (p1 : Int32) : Int32 := if moI p1 = true then nI (nb (fun s => decide (2 ≤ (nt g W P H p1.toInt.toNat).1 s) && decide (2 ≤ (nt g W (fun _ => false) H p1.toInt.toNat).1 s)) 64) else -1
def upB (g : Nat → Int32) (W : Nat → lV) (P H : Nat → Bool) (t : Nat) : Bool := decide (gN g 3 ≤ stP g W P H t)
def upV (g : Nat → Int32) (W : Nat → lV) (P H : Nat → Bool) : Int32 := fnI (upB g W P H) 601 0
def pvB (p : Nat → Bool) : Nat → Bool
  | 0 => false
  | j + 1 => p j
def caN (p : Nat → Bool) : Nat → Nat
  | 0 => 0
  | k + 1 => caN p k + (if (p k && !pvB p k) = true then 1 else 0)
theorem bt4 : (true && (true && (true && true))) = true := rfl
theorem bt3 : (true && (true && true)) = true := rfl
theorem bt2 : (true && true) = true := rfl
def callsV (g : Nat → Int32) (W : Nat → lV) (P H : Nat → Bool) (p1 : Int32) : Int32 := if moI p1 = true then nI (caN (upB g W P H) (p1.toInt.toNat + 1)) else -1
def carriesV (g : Nat → Int32) (W : Nat → lV) (P H : Nat → Bool) (p1 : Int32) : Int32 := if decide (((0 : Nat) : Int) ≤ p1.toInt ∧ p1.toInt ≤ ((1 : Nat) : Int)) = true then (if p1 = 1 then nI (hgt g W P H 60) else nI (if gN g 3 ≤ hgt g W P H 60 then 1 else 0)) else -1
theorem caN_l {p : Nat → Bool} : ∀ k, caN p k ≤ k := by
  intro k
  induction k with
  | zero => exact Nat.le_refl _
  | succ k ih =>
    show caN p k + (if (p k && !pvB p k) = true then 1 else 0) ≤ k + 1
    split <;> omega
theorem nI_tn {n : Nat} (h : n < 2 ^ 31) : (nI n).toInt.toNat = n := by
  rw [nI_toInt h]
  exact Int.toNat_natCast n
/-! the class -/
theorem xSees {p1 p2 p3 p4 : Int32} {Q : Int32 → rI0 → rJ0 → Prop} (hC : CE g W P H I J) (hD : DI g W P H I J) (k : ∀ I' J', FA I J I' J' → DI g W P H I' J' → Q (seesV g W P H p1 p2 p3 p4) I' J') : wcI S (d + 23) 109 [.ref 0, .int p1, .int p2, .int p3, .int p4] x I J Q := by
  have k0 := k I J FA.rf hD
  unfold seesV at k0
  have l0 : (0 : Int32).toInt = 0 := by decide
  have l1 : (1 : Int32).toInt = 1 := by decide
  have l2 : (2 : Int32).toInt = 2 := by decide
  have l6 : (6 : Int32).toInt = 6 := by decide
  refine c109_0 (cIs hC.2.1.2.2.2.2.1 (fun s hs e1 hse hsi => ⟨fun z => absurd z (by decide), fun _ => cMo (fun t ht e2 hmo => ⟨fun z => absurd z (by decide), fun _ => ⟨fun q => ?_, fun q3 => ⟨fun q3b => ⟨fun q => ?_, fun q4 => ⟨fun q => ?_, fun q4b => ?_⟩⟩, fun q => ?_⟩⟩⟩) (fun hmo => ⟨fun _ => ?_, fun z => absurd rfl z⟩)⟩) (fun hsi => ⟨fun _ => ?_, fun z => absurd rfl z⟩))
  · rw [hsi, hmo, decide_eq_false (by have := i_lt q; omega)] at k0
    exact k0
  · rw [hsi, hmo, decide_eq_false (show ¬ (((1 : Nat) : Int) ≤ p4.toInt ∧ p4.toInt ≤ ((2 : Nat) : Int)) by have := i_lt q; omega)] at k0
    rw [Bool.and_false] at k0
    exact k0
  · rw [hsi, hmo, decide_eq_false (show ¬ (((1 : Nat) : Int) ≤ p4.toInt ∧ p4.toInt ≤ ((2 : Nat) : Int)) by have := i_lt q; omega)] at k0
    rw [Bool.and_false] at k0
    exact k0
  · have h3 : decide (((0 : Nat) : Int) ≤ p3.toInt ∧ p3.toInt ≤ ((5 : Nat) : Int)) = true := decide_eq_true (by have := i_nlt q3; have := i_lt q3b; omega)
    have h4 : decide (((1 : Nat) : Int) ≤ p4.toInt ∧ p4.toInt ≤ ((2 : Nat) : Int)) = true := decide_eq_true (by have := i_nlt q4; have := i_nlt q4b; omega)
    obtain ⟨a, -, ha, e3⟩ := rng_t (by omega) h3
    obtain ⟨l, hl1, hl2, e4⟩ := rng_t (by omega) h4
    subst e1 e2 e3 e4
    refine re_31 (d := d) ht hC hD (fun I1 J1 m kk f h hm hr _ => ?_)
    have hk := h.2.1
    have k1 := k I1 J1 f.a h.i
    unfold seesV at k1
    rw [hsi, hmo, h3, h4, nI_tn (by omega), nI_tn (by omega), nI_tn (by omega), nI_tn (by omega), if_pos bt4] at k1
    have ix : nI a * (64 : Int32) + nI s = nI (64 * a + s) := by
      show nI a * nI 64 + nI s = _
      rw [nI_mu, nI_add]
      exact congrArg nI (by omega)
    have fin : ∀ w : Int64, (∀ u, u < 64 → bits5 w u = decide (l ≤ (nt g W P H t).1 u)) → wp S (d + 23) 109 86 [some (.ref 0), some (.int (nI s)), some (.int (nI t)), some (.int (nI a)), some (.int (nI l)), some (.int (nI m)), none, none] [.long w] (wv x I1 J1) (rI x Q) := by
      intro w hw
      refine v109_0_86 (d := d + 22) ⟨by rw [ix]; exact nI_in (by omega) (by omega), bcX ?_⟩
      rw [ix, nI_clamp (by omega)]
      have e : pc (w &&& J1 11 (64 * a + s)) = nb (fun u => arB g a s u && decide (l ≤ (nt g W P H t).1 u)) 64 := by
        refine nb_cg 64 (fun u hu => ?_)
        rw [b5_and, hw u hu, f.2 11 (by omega), hC.2.1.2.2.2.2.2.2.2.2.1 a (by omega) s hse u hu, Bool.and_comm]
      rw [e]
      exact k1
    rw [nI_clamp (by omega), ← hr.2.1] at *
    refine ⟨fun z => ⟨nI_in (by omega) (by omega), fin _ (fun u hu => ?_)⟩, fun z => ⟨nI_in (by omega) (by omega), fin _ (fun u hu => ?_)⟩⟩
    · rw [nI_ij (b := 1) (by omega) (by omega) z]
      exact (h.2.2.2.1 m hm u hu).1
    · rw [show l = 2 by have : l ≠ 1 := fun y => z (by rw [y]; rfl); omega]
      exact (h.2.2.2.1 m hm u hu).2.1
  · rw [hsi, hmo, decide_eq_false (show ¬ (((0 : Nat) : Int) ≤ p3.toInt ∧ p3.toInt ≤ ((5 : Nat) : Int)) by have := i_nlt q; omega)] at k0
    exact k0
  · rw [hsi, hmo] at k0
    exact k0
  · rw [hsi] at k0
    exact k0
theorem xAt {p1 p2 p3 : Int32} {Q : Int32 → rI0 → rJ0 → Prop} (hC : CE g W P H I J) (hD : DI g W P H I J) (k : ∀ I' J', FA I J I' J' → DI g W P H I' J' → Q (atV g W P H p1 p2 p3) I' J') : wcI S (d + 23) 110 [.ref 0, .int p1, .int p2, .int p3] x I J Q := by
  have k0 := k I J FA.rf hD
  unfold atV at k0
  have l0 : (0 : Int32).toInt = 0 := by decide
  have l1 : (1 : Int32).toInt = 1 := by decide
  refine c110_0 (cIs hC.2.1.2.2.2.2.1 (fun s hs e1 hse hsi => ⟨fun z => absurd z (by decide), fun _ => cMo (fun t ht e2 hmo => ⟨fun z => absurd z (by decide), fun _ => ⟨fun q => ?_, fun q3 => ⟨fun q => ?_, fun q3b => ?_⟩⟩⟩) (fun hmo => ⟨fun _ => ?_, fun z => absurd rfl z⟩)⟩) (fun hsi => ⟨fun _ => ?_, fun z => absurd rfl z⟩))
  · rw [hsi, hmo, decide_eq_false (by have := i_lt q; omega)] at k0
    exact k0
  · rw [hsi, hmo, decide_eq_false (by have := i_lt q; omega)] at k0
    exact k0
  · have h3 : decide (((0 : Nat) : Int) ≤ p3.toInt ∧ p3.toInt ≤ ((1 : Nat) : Int)) = true := decide_eq_true (by have := i_nlt q3; have := i_nlt q3b; omega)
    subst e1 e2
    refine re_31 (d := d) ht hC hD (fun I1 J1 m kk f h hm hr _ => ?_)
    have hk := h.2.1
    obtain ⟨a1, a2, a3, a4⟩ := h.2.2.2.1 m hm s hs
    have oN := (nt_o (g := g) (W := W) (P := P) (H := H) m).1 s
    have oH := (nt_o (g := g) (W := W) (P := P) (H := H) m).2 s
    have k1 := k I1 J1 f.a h.i
    unfold atV at k1
    rw [hsi, hmo, h3, nI_tn (by omega), nI_tn (by omega), if_pos bt3, ← hr.2.1] at k1
    have io : ¬ mOut (nI m) 601 := nI_in (by omega) (by omega)
    rw [nI_clamp (by omega)]
    refine ⟨fun z => ⟨io, bO hs ⟨io, bO hs ?_⟩⟩, fun z => ⟨io, bO hs ⟨io, bO hs ?_⟩⟩⟩
    · rw [if_pos z] at k1
      rw [a1, a2]
      rcases (show (nt g W P H m).1 s = 0 ∨ (nt g W P H m).1 s = 1 ∨ (nt g W P H m).1 s = 2 by omega) with y | y | y <;> rw [y] at k1 ⊢ <;> exact k1
    · rw [if_neg z] at k1
      rw [a3, a4]
      rcases (show (nt g W P H m).2 s = 0 ∨ (nt g W P H m).2 s = 1 ∨ (nt g W P H m).2 s = 2 ∨ (nt g W P H m).2 s = 3 by omega) with y | y | y | y <;> rw [y] at k1 ⊢ <;> exact k1
  · rw [hsi, hmo] at k0
    exact k0
  · rw [hsi] at k0
    exact k0
theorem xMany {p1 p2 : Int32} {Q : Int32 → rI0 → rJ0 → Prop} (hC : CE g W P H I J) (hD : DI g W P H I J) (k : ∀ I' J', FA I J I' J' → DI g W P H I' J' → Q (manyV g W P H p1 p2) I' J') : wcI S (d + 23) 111 [.ref 0, .int p1, .int p2] x I J Q := by
  have k0 := k I J FA.rf hD
  unfold manyV at k0
  have l0 : (0 : Int32).toInt = 0 := by decide
  have l2 : (2 : Int32).toInt = 2 := by decide
  refine c111_0 (cMo (fun t ht e1 hmo => ⟨fun z => absurd z (by decide), fun _ => ⟨fun q => ?_, fun q3 => ⟨fun q => ?_, fun q3b => ⟨fun z => bcX ?_, fun z => ?_⟩⟩⟩⟩) (fun hmo => ⟨fun _ => ?_, fun z => absurd rfl z⟩))
  · rw [hmo, decide_eq_false (by have := i_lt q; omega)] at k0
    exact k0
  · rw [hmo, decide_eq_false (by have := i_lt q; omega)] at k0
    exact k0
  · have h3 : decide (((0 : Nat) : Int) ≤ p2.toInt ∧ p2.toInt ≤ ((2 : Nat) : Int)) = true := decide_eq_true (by have := i_nlt q3; have := i_nlt q3b; omega)
    rw [hmo, h3, if_pos bt2, if_pos z] at k0
    rw [show pc (J 4 5) = nb (seB g) 64 from nb_cg 64 (fun s hs => hC.2.1.2.2.2.2.1 s hs)]
    exact k0
  · have h3 : decide (((0 : Nat) : Int) ≤ p2.toInt ∧ p2.toInt ≤ ((2 : Nat) : Int)) = true := decide_eq_true (by have := i_nlt q3; have := i_nlt q3b; omega)
    obtain ⟨l, -, hl2, e2⟩ := rng_t (by omega) h3
    subst e1 e2
    have zl : l ≠ 0 := fun y => z (by rw [y]; rfl)
    refine re_31 (d := d) ht hC hD (fun I1 J1 m kk f h hm hr _ => ?_)
    have hk := h.2.1
    have k1 := k I1 J1 f.a h.i
    unfold manyV at k1
    rw [hmo, h3, nI_tn (by omega), nI_tn (by omega), if_pos bt2, if_neg z, ← hr.2.1] at k1
    have io : ¬ mOut (nI m) 601 := nI_in (by omega) (by omega)
    rw [nI_clamp (by omega)]
    refine ⟨fun y => ⟨io, bcX ?_⟩, fun y => ⟨io, bcX ?_⟩⟩
    · rw [nI_ij (b := 1) (by omega) (by omega) y] at k1
      rw [DA.cn1 h.2.2.2.1 hm]
      exact k1
    · rw [show l = 2 by have : l ≠ 1 := fun w => y (by rw [w]; rfl); omega] at k1
      rw [DA.cn h.2.2.2.1 hm]
      exact k1
  · rw [hmo] at k0
    exact k0
theorem xStands {p1 : Int32} {Q : Int32 → rI0 → rJ0 → Prop} (hC : CE g W P H I J) (hD : DI g W P H I J) (k : ∀ I' J', FA I J I' J' → DI g W P H I' J' → Q (standsV g W P H p1) I' J') : wcI S (d + 23) 113 [.ref 0, .int p1] x I J Q := by
  refine c113_0 (cIs hC.2.1.2.2.2.2.1 (fun s hs e1 hse hsi => ⟨fun z => absurd z (by decide), fun _ => ?_⟩) (fun hsi => ⟨fun _ => ?_, fun z => absurd rfl z⟩))
  · subst e1
    have lp : ∀ (n t : Nat) (I1 : rI0) (J1 : rJ0), t + n = 601 → FA I J I1 J1 → DI g W P H I1 J1 → (∀ u, u < t → decide (2 ≤ (nt g W P H u).1 s) = false) → (∀ I' J', FA I J I' J' → DI g W P H I' J' → Q (fnI (fun t => decide (2 ≤ (nt g W P H t).1 s)) n t) I' J') → wp S (d + 23) 113 18 [some (.ref 0), some (.int (nI s)), some (.int (nI t)), none] [] (wv x I1 J1) (rI x Q) := by
      intro n
      induction n with
      | zero =>
        intro t I1 J1 ht f h hv c
        exact v113_0_18 ⟨fun _ => c I1 J1 f h, fun q => absurd (nI_lt (a := 600) (by omega) (by omega)) q⟩
      | succ n ih =>
        intro t I1 J1 ht f h hv c
        refine v113_0_18 (d := d + 22) ⟨fun q => absurd q (nI_nlt (a := 600) (by omega) (by omega)), fun _ => re_31 (d := d) (by omega) (hC.a f) h (fun I2 J2 m kk f2 h2 hm hr _ => ⟨fun q => ?_, fun q => ⟨nI_in (N := 601) (by have := h2.2.1; omega) (by omega), bO hs ?_⟩⟩)⟩
        · have q := (nI_ltI (by have := h2.2.1; omega) (by omega)).mp q
          have cc := c I2 J2 (f.tr f2.a) h2.i
          rcases hr.2.2 with z | z
          · omega
          · rw [fnI_n (p := fun t => decide (2 ≤ (nt g W P H t).1 s)) (n + 1) t (fun j h1 h3 => by
              show decide (2 ≤ (nt g W P H j).1 s) = false
              rw [z j (by omega) (by omega)]
              exact hv m q)] at cc
            exact cc
        · have q : m = t := by
            have := mt (fun z => nI_lt (a := m) (b := t) z (by omega)) q
            have := hr.1
            omega
          subst q
          rw [nI_clamp (by omega), (h2.2.2.2.1 m hm s hs).2.1, ← nI_succ]
          have cc : ∀ I' J', FA I J I' J' → DI g W P H I' J' → Q (if decide (2 ≤ (nt g W P H m).1 s) = true then nI m else fnI (fun t => decide (2 ≤ (nt g W P H t).1 s)) n (m + 1)) I' J' := c
          cases z : decide (2 ≤ (nt g W P H m).1 s) with
          | true =>
            rw [z] at cc
            exact ⟨fun _ => cc I2 J2 (f.tr f2.a) h2.i, fun y => absurd rfl y⟩
          | false =>
            rw [z] at cc
            exact ⟨fun y => absurd y (by decide), fun _ => ih (m + 1) I2 J2 (by omega) (f.tr f2.a) h2.i (fun u hu => by
              by_cases y : u = m
              · rw [y]
                exact z
              · exact hv u (by omega)) cc⟩
    refine lp 601 0 I J rfl FA.rf hD (fun u hu => absurd hu (by omega)) (fun I' J' f h => ?_)
    have kk := k I' J' f h
    unfold standsV at kk
    rw [hsi, if_pos rfl, nI_tn (by omega)] at kk
    exact kk
  · have k0 := k I J FA.rf hD
    unfold standsV at k0
    rw [hsi, if_neg (by decide)] at k0
    exact k0
end AN0
