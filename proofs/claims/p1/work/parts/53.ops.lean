/-! EACH CALL ON A NEW OBJECT, in the law -/
section OPM
variable {S : Nat × (Nat → Int32)} {d : Nat} {x : mX} {I : rI0} {J : rJ0}
theorem plainV {Q : rI0 → rJ0 → Prop} (k : Q (va_up I 46 (plainR (I 46))) J) : wcV S d 157 [.ref 43] x I J Q := plainW (w := wv x I J) (b := 46) rfl rfl rfl ⟨_, J, rfl, rfl, k⟩
theorem hcopy_lp {Q : Int32 → rI0 → rJ0 → Prop} (k : ∀ I' J', Q 0 I' J') : ∀ (m c : Nat) (I : rI0), c + m = 681 → I 43 19 = 0 → wp S (d + 1) 181 90 [some (.ref 43), some (.int (nI c))] [] (wv x I J) (rI x Q) := by
  intro m
  induction m with
  | zero =>
    intro c I hc h
    have hc : c = 681 := by omega
    subst hc
    refine v181_43_90 ⟨fun q => absurd q (by decide), fun _ => ?_⟩
    rw [h]
    exact k _ _
  | succ m ih =>
    intro c I hc h
    refine v181_43_90 ⟨fun _ => ⟨fun q => ⟨nI_in ?_ (by omega), nI_in (by omega) (by omega), ?_⟩, fun _ => ⟨nI_in (by omega) (by omega), ?_⟩⟩, fun q => absurd (nI_lt (by omega) (by omega) : nI c < nI 681) q⟩
    · rcases Nat.lt_or_ge c 590 with z | z
      · exact z
      · exact absurd q (nI_nlt (b := 590) z (by omega))
    · rw [← nI_succ]
      exact ih (c + 1) _ (by omega) h
    · rw [← nI_succ]
      exact ih (c + 1) _ (by omega) h
theorem houseM {Q : Int32 → rI0 → rJ0 → Prop} (h : I 43 2 = 0) (k : ∀ I' J', Q 0 I' J') : wcI S (d + 2) 181 [.ref 43] x I J Q :=
  c181_43 (c150_43 (plainV (next0 h rfl (show ¬ (900 : Int32) < 0 from by decide) (v181_43_45 ⟨fun _ => hcopy_lp k 681 0 _ rfl rfl, fun q => absurd rfl q⟩))))
theorem cuesM {Q : Int32 → rI0 → rJ0 → Prop} (h : I 43 2 = 0) (k : ∀ I' J', Q 0 I' J') : wcI S (d + 2) 193 [.ref 43] x I J Q :=
  c193_43 (c150_43 (next0 h rfl (show ¬ (400 : Int32) < 0 from by decide) (v193_43_26 ⟨fun _ => ⟨mo590, v193_43_83 ⟨fun q => absurd q (show ¬ (0 : Int32) < 3 * 0 from by decide), fun _ => k _ _⟩⟩, fun q => absurd rfl q⟩)))
theorem seatM {p q : Int32} {Q : Int32 → rI0 → rJ0 → Prop} (h : MFr (I 45)) (k : ∀ I', I' 43 0 = 1 → Q 0 I' J) : wcI S (d + 2) 187 [.ref 43, .int p, .int q] x I J Q :=
  c187_43 (mSeat0 h (eqok (v187_43_23 (c146_43 ⟨fun z => absurd z (by decide), fun _ => ⟨Or.inr rfl, fun z => absurd z (by decide), fun _ => k _ rfl⟩⟩))))
theorem cueM {p q : Int32} {Q : Int32 → rI0 → rJ0 → Prop} (h : MFr (I 45)) (k : ∀ I', I' 43 0 = 1 → Q 0 I' J) : wcI S (d + 2) 194 [.ref 43, .int p, .int q] x I J Q := by
  refine c194_43 ⟨mo590, ?_⟩
  rw [h.2.2.2.2.2.2]
  exact inN (any_out p) (eqok (v194_43_33 (c146_43 ⟨fun z => absurd z (by decide), fun _ => ⟨Or.inr rfl, fun z => absurd z (by decide), fun _ => k _ rfl⟩⟩)))
theorem worthOfM {p q : Int32} {Q : Int32 → rI0 → rJ0 → Prop} (h : I 43 52 = 0) (k : ∀ I', I' 43 0 = 1 → Q 0 I' J) : wcI S (d + 2) 225 [.ref 43, .int p, .int q] x I J Q := by
  refine c225_43 ?_
  rw [h]
  exact inN (any_out p) (eqok (v225_43_29 (c146_43 ⟨fun z => absurd z (by decide), fun _ => ⟨Or.inr rfl, fun z => absurd z (by decide), fun _ => k _ rfl⟩⟩)))
theorem up_lp {Q : Int32 → rI0 → rJ0 → Prop} (h : MZ I J) (k : Q (-1) I J) : ∀ m c : Nat, c + m = 601 → wp S (d + 2) 211 14 [some (.ref 43), some (.int (nI c))] [] (wv x I J) (rI x Q) := by
  intro m
  induction m with
  | zero =>
    intro c hc
    have hc : c = 601 := by omega
    subst hc
    exact v211_43_14 ⟨fun _ => k, fun q => absurd (by decide) q⟩
  | succ m ih =>
    intro c hc
    have z := ih (c + 1) (by omega)
    rw [nI_succ] at z
    exact v211_43_14 ⟨fun q => absurd q (nI_nlt (a := 600) (by omega) (by omega)), fun _ => mUp0 h (nI_in (by omega) (by omega)) (eqok z)⟩
theorem calls_lp {t : Nat} {Q : Int32 → rI0 → rJ0 → Prop} (ht : t ≤ 600) (h : MZ I J) (k : Q 0 I J) : ∀ m c : Nat, c + m = t + 1 → wp S (d + 2) 212 23 [some (.ref 43), some (.int (nI t)), some (.int 0), some (.int (nI c))] [] (wv x I J) (rI x Q) := by
  intro m
  induction m with
  | zero =>
    intro c hc
    have hc : c = t + 1 := by omega
    subst hc
    exact v212_43_23 ⟨fun _ => k, fun q => absurd (nI_lt (by omega) (by omega)) q⟩
  | succ m ih =>
    intro c hc
    have z := ih (c + 1) (by omega)
    rw [nI_succ] at z
    exact v212_43_23 ⟨fun q => absurd q (nI_nlt (by omega) (by omega)), fun _ => mUp0 h (nI_in (by omega) (by omega)) (eqok z)⟩
theorem any_lp {t : Nat} {l2 : Int64} {Q : Int32 → rI0 → rJ0 → Prop} (ht : t ≤ 600) (k : ∀ I' J', Q 0 I' J') : ∀ (m c : Nat) (I : rI0) (J : rJ0), c + m = t + 1 → MZ I J → I 43 42 = nI c → wp S (d + 2) 209 33 [some (.ref 43), some (.int (nI t)), some (.long l2), none] [] (wv x I J) (rI x Q) := by
  intro m
  induction m with
  | zero =>
    intro c I J hc h h42
    have hc : c = t + 1 := by omega
    subst hc
    refine v209_43_33 ⟨fun _ => bits0 ?_ (k _ _), fun q => absurd (by rw [h42]; exact nI_lt (by omega) (by omega)) q⟩
    rw [h.2.2.2.2.2.1, Int64.and_zero]
  | succ m ih =>
    intro c I J hc h h42
    exact v209_43_33 ⟨fun q => absurd q (by rw [h42]; exact nI_nlt (by omega) (by omega)), fun _ => moment0 (t := c) (by omega) h h42 (fun J1 h1 => ih (c + 1) _ J1 (by omega) h1 rfl)⟩
theorem alike0 {p q : Int32} {Q : Int32 → rI0 → rJ0 → Prop} (h : MZ I J) (hp : ¬ mOut p 601) (hq : ¬ mOut q 601) (k : Q 1 I J) : wcI S d 213 [.ref 43, .int p, .int q] x I J Q := by
  obtain ⟨-, -, -, -, -, -, z2, z3, z4, z5⟩ := h
  have e : lg_cmp (0 : Int64) 0 = 0 := by decide
  exact c213_43 ⟨hp, hq, fun _ => ⟨hp, hq, fun _ => ⟨hp, hq, fun _ => ⟨hp, hq, fun _ => k, fun n => absurd (by rw [z5, z5]; exact e) n⟩, fun n => absurd (by rw [z4, z4]; exact e) n⟩, fun n => absurd (by rw [z3, z3]; exact e) n⟩, fun n => absurd (by rw [z2, z2]; exact e) n⟩
theorem alikeC {p q : Int32} {Q : Int32 → rI0 → rJ0 → Prop} (h : DZ I J) (hp : ¬ mOut p 601) (hq : ¬ mOut q 601) (k : Q 1 I J) : wcI S d 12 [.ref 31, .int p, .int q] x I J Q := by
  obtain ⟨-, z2, z3, z4, z5, -⟩ := h
  have e : lg_cmp (0 : Int64) 0 = 0 := by decide
  exact c12_31 ⟨hp, hq, fun _ => ⟨hp, hq, fun _ => ⟨hp, hq, fun _ => ⟨hp, hq, fun _ => k, fun n => absurd (by rw [z5, z5]; exact e) n⟩, fun n => absurd (by rw [z4, z4]; exact e) n⟩, fun n => absurd (by rw [z3, z3]; exact e) n⟩, fun n => absurd (by rw [z2, z2]; exact e) n⟩
theorem mimg_lp {l1 : Int32} {B : Nat} {Q : Int32 → rI0 → rJ0 → Prop} (hB : B ≤ 681) (e : (681 : Int32) * l1 = nI B) (hl : ¬ mOut l1 2) (k : ∀ I' J', Q 1 I' J') : ∀ (m c : Nat) (I : rI0), c + m = 681 → wp S (d + 1) 243 18 [some (.ref 43), some (.int l1), some (.int (nI c))] [] (wv x I J) (rI x Q) := by
  intro m
  induction m with
  | zero =>
    intro c I hc
    have hc : c = 681 := by omega
    subst hc
    exact v243_43_18 ⟨fun q => absurd q (by decide), fun _ => ⟨hl, hl, hl, k _ _⟩⟩
  | succ m ih =>
    intro c I hc
    refine v243_43_18 ⟨fun _ => ⟨nI_in (by omega) (by omega), ?_, ?_⟩, fun q => absurd (nI_lt (by omega) (by omega) : nI c < nI 681) q⟩
    · rw [e, nI_add]
      exact nI_in (by omega) (by omega)
    · rw [← nI_succ]
      exact ih (c + 1) _ (by omega)
theorem leadC_lp {l1 : Int32} {Q : Int32 → rI0 → rJ0 → Prop} (hj : J 4 5 = 0) (k : Q (-1) I J) : ∀ m c : Nat, c + m = 64 → wp S (d + 2) 133 18 [some (.ref 0), some (.int l1), some (.int (-1)), some (.int (-1)), some (.int (nI c)), none] [] (wv x I J) (rI x Q) := by
  intro m
  induction m with
  | zero =>
    intro c hc
    have hc : c = 64 := by omega
    subst hc
    exact v133_0_18 ⟨fun h => absurd h (by decide), fun _ => ⟨fun _ => k, fun _ => k⟩⟩
  | succ m ih =>
    intro c hc
    have h := ih (c + 1) (by omega)
    rw [nI_succ] at h
    exact v133_0_18 ⟨fun _ => c132_0 (isSeat0 hj (eqok ⟨fun q => absurd q (by decide), fun _ => ⟨fun _ => h, fun q => absurd rfl q⟩⟩)), fun h1 => absurd (nI_lt (by omega) (by omega) : nI c < nI 64) h1⟩
theorem begB_lp {l1 : Int32} {Q : Int32 → rI0 → rJ0 → Prop} (hj : J 4 5 = 0) (k : Q 0 I J) : ∀ m c : Nat, c + m = 64 → wp S (d + 1) 94 14 [some (.ref 37), some (.int l1), some (.int 0), some (.int (nI c)), none] [] (wv x I J) (rI x Q) := by
  intro m
  induction m with
  | zero =>
    intro c hc
    have hc : c = 64 := by omega
    subst hc
    exact v94_37_14 ⟨fun h => absurd h (by decide), fun _ => k⟩
  | succ m ih =>
    intro c hc
    have h := ih (c + 1) (by omega)
    rw [nI_succ] at h
    exact v94_37_14 ⟨fun _ => v94_37_23 ⟨fun _ => isSeat0 hj (eqok h), fun _ => h⟩, fun h1 => absurd (nI_lt (by omega) (by omega) : nI c < nI 64) h1⟩
end OPM
section OPS
variable {xs : Nat → Int32} {d : Nat} {x : mX} {I : rI0} {J : rJ0} {Q : mO → mW → Prop}
def XO (x : mX) : Prop := x.1.length ≤ 20 ∧ x.2.2.2 ≤ 20000
def FIN (xs : Nat → Int32) (d : Nat) (Q : mO → mW → Prop) : Prop := ∀ x I J, XO x → wp (6, xs) (d + 8) 0 1446 [some (.ref mScr), some (.ref 0), some (.ref 43), some (.ref 67), some (.int (0 : Int32)), none, none] [] (wv x I J) Q
abbrev OP (xs : Nat → Int32) (d pc : Nat) (x : mX) (I : rI0) (J : rJ0) (Q : mO → mW → Prop) : Prop := wp (6, xs) (d + 8) 0 pc [some (.ref mScr), some (.ref 0), some (.ref 43), some (.ref 67), some (.int (0 : Int32)), none, none] [] (wv x I J) Q
theorem s1 : ¬ mOut ((0 : Int32) + 1) 6 := by decide
theorem s2 : ¬ mOut ((0 : Int32) + 2) 6 := by decide
theorem s3 : ¬ mOut ((0 : Int32) + 3) 6 := by decide
theorem s4 : ¬ mOut ((0 : Int32) + 4) 6 := by decide
theorem s5 : ¬ mOut ((0 : Int32) + 5) 6 := by decide
theorem CI.j (h : CI I J) : J 4 5 = 0 := h.1.1.2.2.2.2.2.1
theorem MI.f (h : MI I J) : MFr (I 45) := h.1.1
theorem XO.t (h : XO x) (h2 : x.1.length ≤ 10 ∧ x.2.2.2 ≤ 15000) : XO (xA x (0, 11) 6) := by
  unfold XO xA
  dsimp only
  rw [List.length_append]
  exact ⟨by show x.1.length + 1 ≤ 20; omega, by omega⟩

theorem op0 (hC : CI I J) (hM : MI I J) (hx : XO x) (hF : FIN xs d Q) : OP xs d 220 x I J Q := L_220 ⟨s1, s2, s3, s4, s5, feedC hC.2.1 (fun I1 o1 => ⟨s1, s2, s3, s4, s5, feedM (by rw [o1 43 (by decide) (by decide)]; exact hM.2.1) (fun I2 => (eqok (hF _ _ _ hx)))⟩)⟩
theorem op1 (hC : CI I J) (hM : MI I J) (hx : XO x) (hF : FIN xs d Q) : OP xs d 293 x I J Q := by
  refine L_293 ⟨s1, c100_0 ⟨fun h => ⟨s1, c149_43 ⟨fun _ => (eqok (hF _ _ _ hx)), fun h1 => absurd h h1⟩⟩, fun h => ⟨fun h2 => ⟨s1, c149_43 ⟨fun h3 => absurd h3 h, fun _ => ⟨fun _ => (eqok (hF _ _ _ hx)), fun h4 => absurd ?_ h4⟩⟩⟩, fun h2 => ⟨s1, c149_43 ⟨fun h3 => absurd h3 h, fun _ => ⟨fun h3 => absurd h3 ?_, fun _ => (eqok (hF _ _ _ hx))⟩⟩⟩⟩⟩⟩
  · rw [hC.2.1] at h2
    rw [hM.2.1]
    exact h2
  · rw [hC.2.1] at h2
    show ¬ I 43 2 < _
    rw [hM.2.1]
    exact h2
theorem op2 (hC : CI I J) (hM : MI I J) (hx : XO x) (hF : FIN xs d Q) : OP xs d 318 x I J Q := L_318 (houseC hC.2.1 (fun I1 J1 u => houseM ((hM.mv u.1 u.2).2.1) (fun I2 J2 => (eqok (hF _ _ _ hx)))))
theorem op3 (hC : CI I J) (hM : MI I J) (hx : XO x) (hF : FIN xs d Q) : OP xs d 331 x I J Q := L_331 (c102_0 (c182_43 (eqok2 (hC.2.2.1.trans hM.2.2.1.symm) (hF _ _ _ hx))))
theorem op4 (hC : CI I J) (hM : MI I J) (hx : XO x) (hF : FIN xs d Q) (hl : x.1.length ≤ 10 ∧ x.2.2.2 ≤ 15000) : OP xs d 344 x I J Q := L_344 ⟨s1, s2, c103_0 (isSeat0 hC.j (eqok ⟨by omega, ⟨s1, s2, seatM (hM.t (by omega)).f (fun I2 e2 => c145_43 ⟨fun _ => ⟨fun z => absurd z (by decide), fun _ => hF _ _ _ (hx.t hl)⟩, fun z => absurd e2 z⟩)⟩⟩))⟩
theorem op5 (hC : CI I J) (hM : MI I J) (hx : XO x) (hF : FIN xs d Q) : OP xs d 412 x I J Q := by
  have key : ∀ a, a < 6 → ∀ b, b < 2 → (¬ mOut ((2 : Int32) * nI a + nI b) 12 ∧ ((2 : Int32) * nI a + nI b).toNatClampNeg = 2 * a + b) ∧ (¬ mOut ((86 : Int32) + (42 * ((2 * nI a) + nI b))) 681 ∧ ((86 : Int32) + (42 * ((2 * nI a) + nI b))).toNatClampNeg = 86 + 42 * (2 * a + b)) := by decide +kernel
  refine L_412 ⟨s1, s2, ?_⟩
  generalize hp : (6, xs).2 ((0 : Int32) + 1).toNatClampNeg = p
  generalize hq : (6, xs).2 ((0 : Int32) + 2).toNatClampNeg = q
  by_cases a0 : p < 0
  · exact c104_0 ⟨fun _ => ⟨s1, s2, c189_43 (inN (Or.inl a0) (eqok (eqok (hF _ _ _ hx))))⟩, fun z => absurd a0 z⟩
  by_cases a5 : p < 6
  · by_cases b0 : q < 0
    · exact c104_0 ⟨fun z => absurd z a0, fun _ => ⟨fun _ => ⟨fun _ => ⟨s1, s2, c189_43 (c151 ⟨fun z => absurd z a0, fun _ => ⟨fun _ => eqok (eqok (hF _ _ _ hx)), fun _ => ⟨fun z => absurd z (by decide), fun _ => inN (Or.inl b0) (eqok (eqok (hF _ _ _ hx)))⟩⟩⟩)⟩, fun z => absurd b0 z⟩, fun z => absurd a5 z⟩⟩
    by_cases b1 : 1 < q
    · exact c104_0 ⟨fun z => absurd z a0, fun _ => ⟨fun _ => ⟨fun z => absurd z b0, fun _ => ⟨fun _ => ⟨s1, s2, c189_43 (c151 ⟨fun z => absurd z a0, fun _ => ⟨fun _ => eqok (eqok (hF _ _ _ hx)), fun _ => ⟨fun z => absurd z (by decide), fun _ => inN (Or.inr b1) (eqok (eqok (hF _ _ _ hx)))⟩⟩⟩)⟩, fun z => absurd b1 z⟩⟩, fun z => absurd a5 z⟩⟩
    have a5' : ¬ nI 5 < p := by
      intro z
      rw [Int32.lt_iff_toInt_lt] at z a5
      have e1 : (nI 5).toInt = 5 := by decide
      have e2 : (6 : Int32).toInt = 6 := by decide
      omega
    obtain ⟨A, hA, eA⟩ := i_nat (n := 5) (by decide) a0 a5'
    obtain ⟨B, hB, eB⟩ := i_nat (n := 1) (by decide) b0 b1
    obtain ⟨⟨k1, k2⟩, k3, k4⟩ := key A (by omega) B (by omega)
    refine c104_0 ⟨fun z => absurd z a0, fun _ => ⟨fun _ => ⟨fun z => absurd z b0, fun _ => ⟨fun z => absurd z b1, fun _ => ⟨by rw [eA, eB]; exact k1, s1, s2, ?_⟩⟩⟩, fun z => absurd a5 z⟩⟩
    refine c189_43 (inY a0 a5' ⟨fun z => absurd z (by decide), fun _ => inY b0 b1 ⟨fun z => absurd z (by decide), fun _ => ⟨by rw [eA, eB]; exact k3, fun _ => eqok2 ?_ (hF _ _ _ hx), fun z => absurd ?_ z⟩⟩⟩)
    · rw [eA, eB, k2]
      exact hC.2.2.2.2.1 _ (by omega)
    · rw [eA, eB, k4]
      exact hM.2.2.2.2.2.2.2.2.2.2 _ (by omega)
  · refine c104_0 ⟨fun z => absurd z a0, fun _ => ⟨fun z => absurd z a5, fun _ => ⟨s1, s2, ?_⟩⟩⟩
    refine c189_43 (inN (Or.inr ?_) (eqok (eqok (hF _ _ _ hx))))
    rw [Int32.lt_iff_toInt_lt] at a5 ⊢
    have e1 : (5 : Int32).toInt = 5 := by decide
    have e2 : (6 : Int32).toInt = 6 := by decide
    omega
theorem op6 (hC : CI I J) (hM : MI I J) (hx : XO x) (hF : FIN xs d Q) : OP xs d 449 x I J Q := L_449 ⟨s1, s2, c105_0 (isSeat0 hC.j (eqok ⟨s1, s2, c190_43 (mSeat0 hM.f (eqok (eqok (hF _ _ _ hx))))⟩))⟩
theorem op7 (hC : CI I J) (hM : MI I J) (hx : XO x) (hF : FIN xs d Q) : OP xs d 486 x I J Q := L_486 ⟨s1, s2, c106_0 (isSeat0 hC.j (eqok ⟨s1, s2, c191_43 (mSeat0 hM.f (eqok (eqok (hF _ _ _ hx))))⟩))⟩
theorem op8 (hC : CI I J) (hM : MI I J) (hx : XO x) (hF : FIN xs d Q) : OP xs d 523 x I J Q := L_523 (cuesC hC.2.1 (fun I1 J1 u => cuesM ((hM.mv u.1 u.2).2.1) (fun I2 J2 => (eqok (hF _ _ _ hx)))))
theorem op9 (hC : CI I J) (hM : MI I J) (hx : XO x) (hF : FIN xs d Q) (hl : x.1.length ≤ 10 ∧ x.2.2.2 ≤ 15000) : OP xs d 536 x I J Q := by
  refine L_536 ⟨s1, s2, c108_0 ⟨fun _ => ⟨by omega, ?_⟩, fun _ => ⟨fun z => absurd z ?_, fun _ => ⟨by omega, ?_⟩⟩⟩⟩
  · exact ⟨s1, s2, cueM (hM.t (by omega)).f (fun I2 e2 => c145_43 ⟨fun _ => ⟨fun z => absurd z (by decide), fun _ => hF _ _ _ (hx.t hl)⟩, fun z => absurd e2 z⟩)⟩
  · rw [hC.1.1.2.2.2.2.2.2.1]
    assumption
  · exact ⟨s1, s2, cueM (hM.t (by omega)).f (fun I2 e2 => c145_43 ⟨fun _ => ⟨fun z => absurd z (by decide), fun _ => hF _ _ _ (hx.t hl)⟩, fun z => absurd e2 z⟩)⟩
theorem op10 (hC : CI I J) (hM : MI I J) (hx : XO x) (hF : FIN xs d Q) : OP xs d 604 x I J Q := L_604 ⟨s1, s2, s3, s4, c109_0 (isSeat0 hC.j (eqok ⟨s1, s2, s3, s4, c204_43 (mSeat0 hM.f (eqok (eqok (hF _ _ _ hx))))⟩))⟩
theorem op11 (hC : CI I J) (hM : MI I J) (hx : XO x) (hF : FIN xs d Q) : OP xs d 665 x I J Q := L_665 ⟨s1, s2, s3, c110_0 (isSeat0 hC.j (eqok ⟨s1, s2, s3, c205_43 (mSeat0 hM.f (eqok (eqok (hF _ _ _ hx))))⟩))⟩
theorem op13 (hC : CI I J) (hM : MI I J) (hx : XO x) (hF : FIN xs d Q) : OP xs d 751 x I J Q := L_751 ⟨s1, s2, s3, c112_0 (isSeat0 hC.j (eqok ⟨s1, s2, s3, c207_43 (mSeat0 hM.f (eqok (eqok (hF _ _ _ hx))))⟩))⟩
theorem op14 (hC : CI I J) (hM : MI I J) (hx : XO x) (hF : FIN xs d Q) : OP xs d 800 x I J Q := L_800 ⟨s1, c113_0 (isSeat0 hC.j (eqok ⟨s1, c208_43 (mSeat0 hM.f (eqok (eqok (hF _ _ _ hx))))⟩))⟩
theorem op12 (hC : CI I J) (hM : MI I J) (hx : XO x) (hF : FIN xs d Q) : OP xs d 714 x I J Q := by
  refine L_714 ⟨s1, s2, ?_⟩
  generalize hp : (6, xs).2 ((0 : Int32) + 1).toNatClampNeg = p
  generalize hq : (6, xs).2 ((0 : Int32) + 2).toNatClampNeg = q
  have mN : (p < 0 ∨ 600 < p) → ∀ {I1 : rI0} {J1 : rJ0}, wcI (6, xs) (d + 7) 206 [.ref 43, .int p, .int q] x I1 J1 (fun r2 I2 J2 => ((-1 : Int32) = r2 → wp (6, xs) (d + 8) 0 1446 [some (.ref mScr), some (.ref 0), some (.ref 43), some (.ref 67), some (.int (0 : Int32)), none, none] [] (wv x I2 J2) Q) ∧ (¬ (-1 : Int32) = r2 → Q (some (some (.int (0 : Int32)))) (wv x I2 J2))) := fun h I1 J1 => c206_43 (momN h (eqok (eqok (hF _ _ _ hx))))
  by_cases a0 : p < 0
  · exact c111_0 (c141 ⟨fun _ => eqok ⟨s1, s2, mN (Or.inl a0)⟩, fun z => absurd a0 z⟩)
  by_cases a6 : 600 < p
  · exact c111_0 (c141 ⟨fun z => absurd z a0, fun _ => ⟨fun _ => eqok ⟨s1, s2, mN (Or.inr a6)⟩, fun z => absurd a6 z⟩⟩)
  refine c111_0 (c141 ⟨fun z => absurd z a0, fun _ => ⟨fun z => absurd z a6, fun _ => ⟨fun z => absurd z (by decide), fun _ => ?_⟩⟩⟩)
  by_cases b0 : q < 0
  · exact ⟨fun _ => ⟨s1, s2, c206_43 (momY a0 a6 ⟨fun z => absurd z (by decide), fun _ => inN (Or.inl b0) (eqok (eqok (hF _ _ _ hx)))⟩)⟩, fun z => absurd b0 z⟩
  by_cases b2 : 2 < q
  · exact ⟨fun z => absurd z b0, fun _ => ⟨fun _ => ⟨s1, s2, c206_43 (momY a0 a6 ⟨fun z => absurd z (by decide), fun _ => inN (Or.inr b2) (eqok (eqok (hF _ _ _ hx)))⟩)⟩, fun z => absurd b2 z⟩⟩
  have mY : ∀ {I1 : rI0} {J1 : rJ0}, MI I1 J1 → wcI (6, xs) (d + 7) 206 [.ref 43, .int p, .int q] x I1 J1 (fun r2 I2 J2 => ((0 : Int32) = r2 → wp (6, xs) (d + 8) 0 1446 [some (.ref mScr), some (.ref 0), some (.ref 43), some (.ref 67), some (.int (0 : Int32)), none, none] [] (wv x I2 J2) Q) ∧ (¬ (0 : Int32) = r2 → Q (some (some (.int (0 : Int32)))) (wv x I2 J2))) := fun hM1 => c206_43 (momY a0 a6 ⟨fun z => absurd z (by decide), fun _ => inY b0 b2 ⟨fun z => absurd z (by decide), fun _ => mnight0 hM1.1 a0 a6 (fun I3 J3 z3 f3 => ⟨fun _ => ⟨mo2', eqok2 z3.1.2.2.1.symm (hF _ _ _ hx)⟩, fun _ => ⟨fun _ => bits0 z3.2.2.2.2.1 (eqok (hF _ _ _ hx)), fun _ => bits0 z3.2.2.2.2.2.1 (eqok (hF _ _ _ hx))⟩⟩)⟩⟩)
  refine ⟨fun z => absurd z b0, fun _ => ⟨fun z => absurd z b2, fun _ => ⟨fun _ => bc0 hC.j ⟨s1, s2, mY hM⟩, fun _ => reach0 hC.1 a0 (fun I1 J1 o1 d1 => ⟨fun _ => ⟨r_in, bc0 (d1.2.1 _) ⟨s1, s2, mY (hM.dd o1)⟩⟩, fun _ => ⟨r_in, bc0 (d1.2.2.1 _) ⟨s1, s2, mY (hM.dd o1)⟩⟩⟩)⟩⟩⟩
theorem op15 (hC : CI I J) (hM : MI I J) (hx : XO x) (hF : FIN xs d Q) : OP xs d 825 x I J Q := by
  refine L_825 ⟨s1, ?_⟩
  generalize hp : (6, xs).2 ((0 : Int32) + 1).toNatClampNeg = p
  by_cases a0 : p < 0
  · exact c114_0 (c141 ⟨fun _ => eqok ⟨s1, c209_43 (momN (Or.inl a0) (eqok (eqok (hF _ _ _ hx))))⟩, fun z => absurd a0 z⟩)
  by_cases a6 : 600 < p
  · exact c114_0 (c141 ⟨fun z => absurd z a0, fun _ => ⟨fun _ => eqok ⟨s1, c209_43 (momN (Or.inr a6) (eqok (eqok (hF _ _ _ hx))))⟩, fun z => absurd a6 z⟩⟩)
  refine c114_0 (c141 ⟨fun z => absurd z a0, fun _ => ⟨fun z => absurd z a6, fun _ => ⟨fun z => absurd z (by decide), fun _ => ?_⟩⟩⟩)
  have hD := hC.1
  have hc := hD.1
  refine begin0_41 hc rfl hc.2.2.2.2.2.2.2.2 (fun I1 J1 o1 n1 => ?_)
  have hc1 : CF I1 J1 := CF_mv hc (o1.1 3 (by decide)) (o1.1 4 (by decide)) (o1.2 3 (by decide)) (o1.2 4 (by decide))
  refine goTo0 hc1 n1 (fun I2 J2 o2 n2 => ?_)
  have mv : ∀ a, a ≠ 41 → I2 a = I a ∧ J2 a = J a := fun a ha => ⟨(o2.1 a ha).trans (o1.1 a ha), (o2.2 a ha).trans (o1.2 a ha)⟩
  have hD2 : DZ I2 J2 := by
    obtain ⟨h1, h2, h3, h4, h5, h6⟩ := hD
    refine ⟨CF_mv h1 (mv 3 (by decide)).1 (mv 4 (by decide)).1 (mv 3 (by decide)).2 (mv 4 (by decide)).2, ?_, ?_, ?_, ?_, ?_⟩
    · rw [(mv 32 (by decide)).2]; exact h2
    · rw [(mv 33 (by decide)).2]; exact h3
    · rw [(mv 34 (by decide)).2]; exact h4
    · rw [(mv 35 (by decide)).2]; exact h5
    · rw [(mv 31 (by decide)).1]
      exact h6.imp id (Or.imp (And.imp id (fun q => NA_mv q (mv 36 (by decide)).1 (mv 36 (by decide)).2)) (And.imp id (fun q => NB_mv q (mv 36 (by decide)).1 (mv 36 (by decide)).2)))
  have hM2 : MI I2 J2 := hM.mv (fun a h1 h2 => (mv a (by omega)).1) (fun a h1 h2 => (mv a (by omega)).2)
  refine reach0 hD2 a0 (fun I3 J3 o3 d3 => ⟨r_in, bc0 ?_ ⟨s1, ?_⟩⟩)
  · rw [d3.2.2.1, Int64.zero_and]
  · obtain ⟨t, ht, et⟩ := i_nat (n := 600) (by decide) a0 a6
    refine c209_43 (momY a0 a6 ⟨fun z => absurd z (by decide), fun _ => mnight0 (hM2.dd o3).1 a0 a6 (fun I4 J4 z4 f4 => mbegin0 z4.b (fun I5 J5 z5 g5 f5 => ?_))⟩)
    rw [et]
    exact any_lp ht (fun I6 J6 => (eqok (hF _ _ _ hx))) (t + 1) 0 I5 J5 (by omega) z5 g5
theorem op16 (hC : CI I J) (hM : MI I J) (hx : XO x) (hF : FIN xs d Q) : OP xs d 850 x I J Q := by
  have fin : ∀ {I1 : rI0} {J1 : rJ0}, MI I1 J1 → wcI (6, xs) (d + 7) 211 [.ref 43] x I1 J1 (fun r2 I2 J2 => ((-1 : Int32) = r2 → wp (6, xs) (d + 8) 0 1446 [some (.ref mScr), some (.ref 0), some (.ref 43), some (.ref 67), some (.int (0 : Int32)), none, none] [] (wv x I2 J2) Q) ∧ (¬ (-1 : Int32) = r2 → Q (some (some (.int (0 : Int32)))) (wv x I2 J2))) := fun hM1 => c211_43 (mnight0 hM1.1 (by decide) (by decide) (fun I2 J2 z2 f2 => up_lp z2 (eqok (hF _ _ _ hx)) 601 0 rfl))
  refine L_850 (c115_0 (v115_0_2 ⟨fun z => absurd z (by decide), fun _ => reach0 hC.1 (by decide) (fun I1 J1 o1 d1 => ⟨fun z => absurd z (by decide), fun _ => isUp0 d1 (by decide) (eqok (v115_0_2 ⟨fun z => absurd z (by decide), fun _ => reach0 d1 (by decide) (fun I2 J2 o2 d2 => ⟨fun z => absurd z (by decide), fun _ => isUp0 d2 (by decide) (eqok (v115_0_2 ⟨fun z => absurd z (by decide), fun _ => reach0 d2 (by decide) (fun I3 J3 o3 d3 => ⟨fun _ => fin (hM.dd ((o1.tr o2).tr o3)), fun z => absurd (by decide) z⟩)⟩))⟩)⟩))⟩)⟩))
theorem op17 (hC : CI I J) (hM : MI I J) (hx : XO x) (hF : FIN xs d Q) : OP xs d 863 x I J Q := by
  refine L_863 ⟨s1, ?_⟩
  generalize hp : (6, xs).2 ((0 : Int32) + 1).toNatClampNeg = p
  by_cases a0 : p < 0
  · exact c116_0 (c141 ⟨fun _ => eqok ⟨s1, c212_43 (momN (Or.inl a0) (eqok (eqok (hF _ _ _ hx))))⟩, fun z => absurd a0 z⟩)
  by_cases a6 : 600 < p
  · exact c116_0 (c141 ⟨fun z => absurd z a0, fun _ => ⟨fun _ => eqok ⟨s1, c212_43 (momN (Or.inr a6) (eqok (eqok (hF _ _ _ hx))))⟩, fun z => absurd a6 z⟩⟩)
  refine c116_0 (c141 ⟨fun z => absurd z a0, fun _ => ⟨fun z => absurd z a6, fun _ => ⟨fun z => absurd z (by decide), fun _ => ?_⟩⟩⟩)
  have fin : ∀ {I1 : rI0} {J1 : rJ0}, MI I1 J1 → (¬ mOut ((0 : Int32) + 1) (6, xs).1 ∧ wcI (6, xs) (d + 7) 212 [.ref 43, .int p] x I1 J1 (fun r2 I2 J2 => ((0 : Int32) = r2 → wp (6, xs) (d + 8) 0 1446 [some (.ref mScr), some (.ref 0), some (.ref 43), some (.ref 67), some (.int (0 : Int32)), none, none] [] (wv x I2 J2) Q) ∧ (¬ (0 : Int32) = r2 → Q (some (some (.int (0 : Int32)))) (wv x I2 J2)))) := by
    intro I1 J1 hM1
    obtain ⟨t, ht, et⟩ := i_nat (n := 600) (by decide) a0 a6
    refine ⟨s1, ?_⟩
    refine c212_43 (momY a0 a6 ⟨fun z => absurd z (by decide), fun _ => mnight0 hM1.1 a0 a6 (fun I2 J2 z2 f2 => ?_)⟩)
    rw [et]
    exact calls_lp ht z2 (eqok (hF _ _ _ hx)) (t + 1) 0 (by omega)
  refine v116_0_16 ⟨fun z => absurd z a0, fun _ => reach0 hC.1 (by decide) (fun I1 J1 o1 d1 => ⟨fun z => absurd z (by decide), fun _ => isUp0 d1 (by decide) (eqok (v116_0_16 ⟨fun _ => fin (hM.dd o1), fun _ => reach0 d1 (by decide) (fun I2 J2 o2 d2 => ⟨fun _ => fin (hM.dd (o1.tr o2)), fun _ => isUp0 d2 (by decide) (eqok (v116_0_16 ⟨fun _ => fin (hM.dd (o1.tr o2)), fun _ => reach0 d2 (by decide) (fun I3 J3 o3 d3 => ⟨fun _ => fin (hM.dd ((o1.tr o2).tr o3)), fun z => absurd (by decide) z⟩)⟩))⟩)⟩))⟩)⟩
theorem op18 (hC : CI I J) (hM : MI I J) (hx : XO x) (hF : FIN xs d Q) : OP xs d 888 x I J Q := by
  refine L_888 ⟨s1, ?_⟩
  generalize hp : (6, xs).2 ((0 : Int32) + 1).toNatClampNeg = p
  by_cases a0 : p < 0
  · exact c117_0 ⟨fun _ => ⟨s1, c214_43 (inN (Or.inl a0) (eqok (eqok (hF _ _ _ hx))))⟩, fun z => absurd a0 z⟩
  by_cases a1 : 1 < p
  · exact c117_0 ⟨fun z => absurd z a0, fun _ => ⟨fun _ => ⟨s1, c214_43 (inN (Or.inr a1) (eqok (eqok (hF _ _ _ hx))))⟩, fun z => absurd a1 z⟩⟩
  have hc := hC.1.1
  refine c117_0 ⟨fun z => absurd z a0, fun _ => ⟨fun z => absurd z a1, fun _ => c18_3 (lastEvent0 hc.1 hc.2.2.2.2.2.2.1 ⟨fun z => absurd z (by rw [hc.2.2.2.1]; decide), fun _ => ?_⟩)⟩⟩
  rw [if_neg (by decide)]
  refine v117_0_19 ⟨fun _ => c11_31 (reach0 hC.1 (by decide) (fun I1 J1 o1 d1 => v11_31_10 ⟨fun z => absurd z (by decide), fun _ => reach0 d1 (by decide) (fun I2 J2 o2 d2 => alikeC d2 r_in r_in ⟨fun z => absurd z (by decide), fun _ => ⟨fun z => absurd z (by decide), fun _ => ?_⟩⟩)⟩)), fun z => absurd (by decide) z⟩
  have hM2 := hM.dd (o1.tr o2)
  have fin : ∀ r : Int32, r = (if p = 0 then 0 else 1) → (¬ mOut ((0 : Int32) + 1) (6, xs).1 ∧ wcI (6, xs) (d + 7) 214 [.ref 43, .int p] x I2 J2 (fun r2 I2 J2 => (r = r2 → wp (6, xs) (d + 8) 0 1446 [some (.ref mScr), some (.ref 0), some (.ref 43), some (.ref 67), some (.int (0 : Int32)), none, none] [] (wv x I2 J2) Q) ∧ (¬ r = r2 → Q (some (some (.int (0 : Int32)))) (wv x I2 J2)))) := by
    intro r hr
    refine ⟨s1, ?_⟩
    refine c214_43 (inY a0 a1 ⟨fun z => absurd z (by decide), fun _ => mnight0 hM2.1 (by decide) (by decide) (fun I3 J3 z3 f3 => ⟨fun _ => ?_, fun z => absurd (by rw [z3.2.2.1]; decide) z⟩)⟩)
    refine v214_43_43 ⟨mo0, fun z => absurd z (by rw [z3.1.1]; decide), fun _ => v214_43_96 ⟨mo590, fun z => absurd z (by rw [z3.1.2.2.2.2.2.2]; decide), fun _ => ⟨fun _ => v214_43_218 ⟨fun z => absurd z (by decide), fun _ => v214_43_232 ⟨fun z => absurd z (by decide), fun _ => alike0 z3 (by decide) (by decide) ⟨fun z => absurd z (by decide), fun _ => ⟨fun e => ?_, fun e => ?_⟩⟩⟩⟩, fun z => absurd rfl z⟩⟩⟩
    · refine eqok2 ?_ (hF _ _ _ hx)
      rw [hr, if_pos e]
    · refine eqok2 ?_ (hF _ _ _ hx)
      rw [hr, if_neg e]
      decide
  exact ⟨fun e => fin _ (by rw [if_pos e]), fun e => fin _ (by rw [if_neg e]; decide)⟩
theorem op19 (hC : CI I J) (hM : MI I J) (hx : XO x) (hF : FIN xs d Q) : OP xs d 913 x I J Q := by
  refine L_913 ⟨s1, ?_⟩
  generalize hp : (6, xs).2 ((0 : Int32) + 1).toNatClampNeg = p
  by_cases a0 : p < 0
  · exact c118_0 ⟨fun _ => ⟨s1, c215_43 (inN (Or.inl a0) (eqok (eqok (hF _ _ _ hx))))⟩, fun z => absurd a0 z⟩
  by_cases a1 : 1 < p
  · exact c118_0 ⟨fun z => absurd z a0, fun _ => ⟨fun _ => ⟨s1, c215_43 (inN (Or.inr a1) (eqok (eqok (hF _ _ _ hx))))⟩, fun z => absurd a1 z⟩⟩
  refine c118_0 ⟨fun z => absurd z a0, fun _ => ⟨fun z => absurd z a1, fun _ => height0 hC.1 (fun I1 J1 o1 d1 => ?_)⟩⟩
  have fin : (¬ mOut ((0 : Int32) + 1) (6, xs).1 ∧ wcI (6, xs) (d + 7) 215 [.ref 43, .int p] x I1 J1 (fun r2 I2 J2 => ((0 : Int32) = r2 → wp (6, xs) (d + 8) 0 1446 [some (.ref mScr), some (.ref 0), some (.ref 43), some (.ref 67), some (.int (0 : Int32)), none, none] [] (wv x I2 J2) Q) ∧ (¬ (0 : Int32) = r2 → Q (some (some (.int (0 : Int32)))) (wv x I2 J2)))) := by
    refine ⟨s1, ?_⟩
    exact c215_43 (inY a0 a1 ⟨fun z => absurd z (by decide), fun _ => mheight0 (hM.dd o1).1 (fun I2 J2 z2 f2 h44 h45 => ⟨fun _ => eqok2 h44.symm (hF _ _ _ hx), fun _ => ⟨fun _ => (eqok (hF _ _ _ hx)), fun z => absurd h45 z⟩⟩)⟩)
  exact ⟨fun _ => fin, fun _ => ⟨fun _ => fin, fun z => absurd (by rw [d1.1.2.2.1]; decide) z⟩⟩
theorem op20 (hC : CI I J) (hM : MI I J) (hx : XO x) (hF : FIN xs d Q) : OP xs d 938 x I J Q := by
  refine L_938 (c119_0 (c67_1 (c80_37 ⟨fun _ => eqok (c219_43 (areEight0 hM.2.1 (fun I2 => eqok (eqok (hF _ _ _ hx))))), fun z => absurd ?_ z⟩)))
  rw [hC.2.1]
  decide
theorem op22 (hC : CI I J) (hM : MI I J) (hx : XO x) (hF : FIN xs d Q) : OP xs d 964 x I J Q := by
  refine L_964 (c121_0 (c67_1 (c80_37 ⟨fun _ => eqok (c221_43 (areEight0 hM.2.1 (fun I2 => eqok (eqok (hF _ _ _ hx))))), fun z => absurd ?_ z⟩)))
  rw [hC.2.1]
  decide
theorem op23 (hC : CI I J) (hM : MI I J) (hx : XO x) (hF : FIN xs d Q) : OP xs d 977 x I J Q := by
  refine L_977 ⟨s1, c122_0 (c67_1 (c80_37 ⟨fun _ => eqok ⟨s1, c222_43 (areEight0 hM.2.1 (fun I2 => eqok (eqok (hF _ _ _ hx))))⟩, fun z => absurd ?_ z⟩))⟩
  rw [hC.2.1]
  decide
theorem op24 (hC : CI I J) (hM : MI I J) (hx : XO x) (hF : FIN xs d Q) : OP xs d 1002 x I J Q := by
  refine L_1002 (c123_0 (c67_1 (c80_37 ⟨fun _ => eqok (c224_43 (areEight0 hM.2.1 (fun I2 => eqok (eqok (hF _ _ _ hx))))), fun z => absurd ?_ z⟩)))
  rw [hC.2.1]
  decide
theorem op21 (hC : CI I J) (hM : MI I J) (hx : XO x) (hF : FIN xs d Q) : OP xs d 951 x I J Q := L_951 (c120_0 (c220_43 (eqok2 (hC.2.2.2.2.2.2.1.trans hM.2.2.2.1.symm) (hF _ _ _ hx))))
theorem op25 (hC : CI I J) (hM : MI I J) (hx : XO x) (hF : FIN xs d Q) (hl : x.1.length ≤ 10 ∧ x.2.2.2 ≤ 15000) : OP xs d 1015 x I J Q := by
  refine L_1015 ⟨s1, s2, c124_0 ⟨fun _ => ⟨by omega, ?_⟩, fun _ => ⟨fun z => absurd z ?_, fun _ => ⟨by omega, ?_⟩⟩⟩⟩
  · exact ⟨s1, s2, worthOfM (hM.t (by omega)).2.2.2.2.1 (fun I2 e2 => c145_43 ⟨fun _ => ⟨fun z => absurd z (by decide), fun _ => hF _ _ _ (hx.t hl)⟩, fun z => absurd e2 z⟩)⟩
  · rw [hC.2.2.2.2.2.1]
    assumption
  · exact ⟨s1, s2, worthOfM (hM.t (by omega)).2.2.2.2.1 (fun I2 e2 => c145_43 ⟨fun _ => ⟨fun z => absurd z (by decide), fun _ => hF _ _ _ (hx.t hl)⟩, fun z => absurd e2 z⟩)⟩
theorem op26 (hC : CI I J) (hM : MI I J) (hx : XO x) (hF : FIN xs d Q) : OP xs d 1083 x I J Q := by
  refine L_1083 (c125_0 (c67_1 ⟨fun z => absurd z ?_, fun _ => v125_0_25 ⟨fun _ => c226_43 (c150_43 ⟨fun _ => v226_43_28 (inN (Or.inl (by decide)) (eqok (eqok (hF _ _ _ hx)))), fun z => absurd hM.2.1 z⟩), fun z => absurd (by decide) z⟩⟩))
  rw [hC.2.1]
  decide
theorem op27 (hC : CI I J) (hM : MI I J) (hx : XO x) (hF : FIN xs d Q) : OP xs d 1096 x I J Q := by
  refine L_1096 ⟨s1, ?_⟩
  have fin : ∀ r : Int32, r = -1 → (¬ mOut ((0 : Int32) + 1) (6, xs).1 ∧ wcI (6, xs) (d + 7) 227 [.ref 43, .int ((6, xs).2 ((0 : Int32) + 1).toNatClampNeg)] x I J (fun r2 I2 J2 => (r = r2 → wp (6, xs) (d + 8) 0 1446 [some (.ref mScr), some (.ref 0), some (.ref 43), some (.ref 67), some (.int (0 : Int32)), none, none] [] (wv x I2 J2) Q) ∧ (¬ r = r2 → Q (some (some (.int (0 : Int32)))) (wv x I2 J2)))) := fun r hr => ⟨s1, c227_43 ⟨fun _ => eqok2 hr (hF _ _ _ hx), fun z => absurd hM.2.2.2.2.2.1 z⟩⟩
  exact c126_0 ⟨fun _ => fin _ rfl, fun _ => fin _ hC.2.2.2.2.2.2.2.1, fun _ => fin _ hC.2.2.2.2.2.2.2.2.1, fun _ => fin _ hC.2.2.2.2.2.2.2.2.2.1, trivial⟩
theorem op28 (hC : CI I J) (hM : MI I J) (hx : XO x) (hF : FIN xs d Q) : OP xs d 1121 x I J Q := by
  refine L_1121 ⟨s1, ?_⟩
  generalize hp : (6, xs).2 ((0 : Int32) + 1).toNatClampNeg = p
  have cells : ((I 43 2) = ((I 45 ((0 : Int32).toNatClampNeg)) * (I 45 ((1 : Int32).toNatClampNeg)))) := by rw [hM.2.1, hM.f.1, hM.f.2.1]; decide
  by_cases a0 : p < 0
  · exact c127_0 (c67_1 ⟨fun _ => ⟨s1, c229_43 (c150_43 ⟨mo0, mo1', fun _ => inN (Or.inl a0) (eqok (eqok (hF _ _ _ hx))), fun z => absurd cells z⟩)⟩, fun z => absurd a0 z⟩)
  by_cases a6 : 60 < p
  · exact c127_0 (c67_1 ⟨fun z => absurd z a0, fun _ => ⟨fun _ => ⟨s1, c229_43 (c150_43 ⟨mo0, mo1', fun _ => inN (Or.inr a6) (eqok (eqok (hF _ _ _ hx))), fun z => absurd cells z⟩)⟩, fun z => absurd a6 z⟩⟩)
  have hc := hC.1.1
  refine c127_0 (c67_1 ⟨fun z => absurd z a0, fun _ => ⟨fun z => absurd z a6, fun _ => isLarge0 hC.j (eqok (c23_4 ⟨fun _ => ?_, fun z => absurd ?_ z⟩))⟩⟩)
  · refine c93_37 (v93_37_17 ⟨fun z => absurd z ?_, fun _ => ⟨fun z => absurd z (by decide), fun _ => c94_37 (begB_lp (J := mSet (mSet (mSet J 37 14 0) 37 15 0) 37 16 0) hC.j ?_ 64 0 rfl)⟩⟩)
    · rw [hC.2.1]
      decide
    · refine ⟨s1, ?_⟩
      refine c229_43 (c150_43 ⟨mo0, mo1', fun _ => inY a0 a6 ⟨fun z => absurd z (by decide), fun _ => ⟨mo2', fun z => absurd z ?_, fun _ => v229_43_68 ⟨fun z => absurd z ?_, fun _ => v229_43_198 ⟨fun z => absurd z ?_, fun _ => (eqok (hF _ _ _ hx))⟩⟩⟩⟩, fun z => absurd cells z⟩)
      · show ¬ (24 : Int32) < I 45 ((2 : Int32).toNatClampNeg)
        rw [hM.f.2.2.1]
        decide
      · show ¬ (0 : Int32) < I 43 2
        rw [hM.2.1]
        decide
      · show ¬ (0 : Int32) < (I 45 ((0 : Int32).toNatClampNeg)) * (I 45 ((1 : Int32).toNatClampNeg))
        rw [hM.f.1, hM.f.2.1]
        decide
  · show I 1 1 = I 4 0 * I 4 1
    rw [hC.2.1, hc.1, hc.2.1]
    decide
theorem op29 (hC : CI I J) (hM : MI I J) (hx : XO x) (hF : FIN xs d Q) : OP xs d 1146 x I J Q := by
  refine L_1146 ⟨s1, ?_⟩
  have fin : ∀ r : Int32, r = -1 → (¬ mOut ((0 : Int32) + 1) (6, xs).1 ∧ wcI (6, xs) (d + 7) 230 [.ref 43, .int ((6, xs).2 ((0 : Int32) + 1).toNatClampNeg)] x I J (fun r2 I2 J2 => (r = r2 → wp (6, xs) (d + 8) 0 1446 [some (.ref mScr), some (.ref 0), some (.ref 43), some (.ref 67), some (.int (0 : Int32)), none, none] [] (wv x I2 J2) Q) ∧ (¬ r = r2 → Q (some (some (.int (0 : Int32)))) (wv x I2 J2)))) := fun r hr => ⟨s1, c230_43 ⟨fun _ => eqok2 (hr.trans hM.2.2.2.2.2.2.1.symm) (hF _ _ _ hx), fun _ => ⟨fun _ => eqok2 (hr.trans hM.2.2.2.2.2.2.2.1.symm) (hF _ _ _ hx), fun _ => eqok2 hr (hF _ _ _ hx)⟩⟩⟩
  exact c128_0 ⟨fun _ => fin _ hC.2.2.2.2.2.2.2.2.2.2.1, fun _ => ⟨fun _ => fin _ hC.2.2.2.2.2.2.2.2.2.2.2, fun _ => fin _ rfl⟩⟩
theorem op30 (hC : CI I J) (hM : MI I J) (hx : XO x) (hF : FIN xs d Q) : OP xs d 1171 x I J Q := L_1171 ⟨s1, s2, c129_0 (isSeat0 hC.j (eqok ⟨s1, s2, c231_43 (mSeat0 hM.f (eqok (eqok (hF _ _ _ hx))))⟩))⟩
theorem hi1 : ¬ (24 : Int32) < 0 := by decide
theorem op31 (hC : CI I J) (hM : MI I J) (hx : XO x) (hF : FIN xs d Q) : OP xs d 1208 x I J Q := by
  refine L_1208 (c130_0 (isLarge0 hC.j (eqok (height0 hC.1 (fun I1 J1 o1 d1 => ⟨fun _ => firstPair0 d1.1.2.2.2.2.2.1 (eqok ?_), fun z => absurd (by rw [d1.1.2.2.1]; decide) z⟩)))))
  have hM1 := hM.dd o1
  refine c234_43 ⟨mo2', fun z => absurd z (by rw [hM1.f.2.2.1]; exact hi1), fun _ => mheight0 hM1.1 (fun I2 J2 z2 f2 h44 h45 => ⟨fun _ => ⟨mo0, mo1', v234_43_56 ⟨fun z => absurd z (by rw [z2.1.1, z2.1.2.1]; decide), fun _ => (eqok (hF _ _ _ hx))⟩⟩, fun z => absurd h45 z⟩)⟩
theorem op32 (hC : CI I J) (hM : MI I J) (hx : XO x) (hF : FIN xs d Q) : OP xs d 1221 x I J Q := L_1221 ⟨s1, s2, c131_0 (isSeat0 hC.j (eqok ⟨s1, s2, c235_43 (mSeat0 hM.f (eqok (eqok (hF _ _ _ hx))))⟩))⟩
theorem op33 (hC : CI I J) (hM : MI I J) (hx : XO x) (hF : FIN xs d Q) : OP xs d 1258 x I J Q := L_1258 ⟨s1, c132_0 (isSeat0 hC.j (eqok ⟨s1, c239_43 (mSeat0 hM.f (eqok (eqok (hF _ _ _ hx))))⟩))⟩
theorem op34 (hC : CI I J) (hM : MI I J) (hx : XO x) (hF : FIN xs d Q) : OP xs d 1283 x I J Q := by
  refine L_1283 ⟨s1, ?_⟩
  generalize hp : (6, xs).2 ((0 : Int32) + 1).toNatClampNeg = p
  by_cases a0 : p < 0
  · exact c133_0 ⟨fun _ => ⟨s1, c240_43 (inN (Or.inl a0) (eqok (eqok (hF _ _ _ hx))))⟩, fun z => absurd a0 z⟩
  by_cases a1 : 1 < p
  · exact c133_0 ⟨fun z => absurd z a0, fun _ => ⟨fun _ => ⟨s1, c240_43 (inN (Or.inr a1) (eqok (eqok (hF _ _ _ hx))))⟩, fun z => absurd a1 z⟩⟩
  refine c133_0 ⟨fun z => absurd z a0, fun _ => ⟨fun z => absurd z a1, fun _ => leadC_lp hC.j ⟨s1, ?_⟩ 64 0 rfl⟩⟩
  refine c240_43 (inY a0 a1 ⟨fun z => absurd z (by decide), fun _ => v240_43_23 ⟨mo0, mo1', fun z => absurd z ?_, fun _ => ⟨fun _ => (eqok (hF _ _ _ hx)), fun _ => (eqok (hF _ _ _ hx))⟩⟩⟩)
  show ¬ (0 : Int32) < (I 45 ((0 : Int32).toNatClampNeg)) * (I 45 ((1 : Int32).toNatClampNeg))
  rw [hM.f.1, hM.f.2.1]
  decide
theorem op35 (hC : CI I J) (hM : MI I J) (hx : XO x) (hF : FIN xs d Q) : OP xs d 1308 x I J Q := by
  refine L_1308 ⟨s1, s2, ?_⟩
  generalize hp : (6, xs).2 ((0 : Int32) + 1).toNatClampNeg = p
  have out : p < 1 ∨ (0 : Int32) < p := by
    rw [Int32.lt_iff_toInt_lt, Int32.lt_iff_toInt_lt]
    have e0 : (0 : Int32).toInt = 0 := by decide
    have e1 : (1 : Int32).toInt = 1 := by decide
    omega
  have fin : (¬ mOut ((0 : Int32) + 1) (6, xs).1 ∧ ¬ mOut ((0 : Int32) + 2) (6, xs).1 ∧ wcI (6, xs) (d + 7) 242 [.ref 43, .int p, .int ((6, xs).2 ((0 : Int32) + 2).toNatClampNeg)] x I J (fun r2 I2 J2 => ((0 : Int32) = r2 → wp (6, xs) (d + 8) 0 1446 [some (.ref mScr), some (.ref 0), some (.ref 43), some (.ref 67), some (.int (0 : Int32)), none, none] [] (wv x I2 J2) Q) ∧ (¬ (0 : Int32) = r2 → Q (some (some (.int (0 : Int32)))) (wv x I2 J2)))) := by
    refine ⟨s1, s2, c242_43 ⟨mo2', ?_⟩⟩
    rw [hM.f.2.2.1]
    exact inN out (eqok (eqok (hF _ _ _ hx)))
  exact c134_0 (bc0 hC.j ⟨fun _ => fin, fun z => ⟨fun _ => fin, fun z2 => absurd out (fun q => q.elim z z2)⟩⟩)
theorem op36 (hC : CI I J) (hM : MI I J) (hx : XO x) (hF : FIN xs d Q) : OP xs d 1345 x I J Q := by
  refine L_1345 (c135_0 (isLarge0 hC.j (eqok (height0 hC.1 (fun I1 J1 o1 d1 => v135_0_19 ⟨fun _ => firstPair0 d1.1.2.2.2.2.2.1 (eqok (c6_31 ?_)), fun z => absurd (by decide) z⟩)))))
  have hM1 := hM.dd o1
  refine c237_43 ⟨mo2', fun z => absurd z ?_, fun _ => mheight0 (I := mSet (mSet (mSet (mSet I1 0 10 0) 31 6 0) 43 0 0) 43 63 0) hM1.1 (fun I2 J2 z2 f2 h44 h45 => v237_43_36 ⟨fun _ => c236_43 ⟨mo0, mo1', v236_43_16 ⟨fun z => absurd z (by rw [z2.1.1, z2.1.2.1]; decide), fun _ => eqok (eqok (hF _ _ _ hx))⟩⟩, fun _ => (eqok (hF _ _ _ hx))⟩)⟩
  show ¬ (24 : Int32) < I1 45 ((2 : Int32).toNatClampNeg)
  rw [hM1.f.2.2.1]
  decide
theorem op37 (hC : CI I J) (hM : MI I J) (hx : XO x) (hF : FIN xs d Q) : OP xs d 1358 x I J Q := L_1358 (c136_0 (c238_43 (eqok2 (hC.2.2.2.1.trans hM.2.2.2.2.2.2.2.2.1.symm) (hF _ _ _ hx))))
theorem op40 (hC : CI I J) (hM : MI I J) (hx : XO x) (hF : FIN xs d Q) : OP xs d 1421 x I J Q := by
  refine L_1421 ⟨s1, ?_⟩
  generalize hp : (6, xs).2 ((0 : Int32) + 1).toNatClampNeg = p
  have fin : ∀ r : Int32, wcI (6, xs) (d + 7) 245 [.ref 43, .int p] x I J (fun r2 I2 J2 => r2 = r) → (¬ mOut ((0 : Int32) + 1) (6, xs).1 ∧ wcI (6, xs) (d + 7) 245 [.ref 43, .int p] x I J (fun r2 I2 J2 => (r = r2 → wp (6, xs) (d + 8) 0 1446 [some (.ref mScr), some (.ref 0), some (.ref 43), some (.ref 67), some (.int (0 : Int32)), none, none] [] (wv x I2 J2) Q) ∧ (¬ r = r2 → Q (some (some (.int (0 : Int32)))) (wv x I2 J2)))) := by
    intro r h
    refine ⟨s1, ?_⟩
    exact wcI_mono h (fun v I2 J2 e => eqok2 e.symm (hF _ _ _ hx))
  have hc := hC.1.1
  have hf := hM.f
  have t0 : ∀ n : Nat, n < 2 ^ 31 → p.toInt = (n : Int) → p = nI n := fun n hn h => Int32.toInt_inj.mp (h.trans (nI_toInt hn).symm)
  have lo : ∀ n : Nat, n < 6 → p = nI n → (v : Int32) → I 45 (nI n).toNatClampNeg = v → wcI (6, xs) (d + 7) 245 [.ref 43, .int p] x I J (fun r2 I2 J2 => r2 = v) := by
    intro n hn e v hv
    subst e
    exact c245_43 (inY (nI_pos (by omega)) (nI_nlt (a := 5) (by omega) (by omega)) ⟨fun z => absurd z (by decide), fun _ => ⟨nI_in (by omega) (by omega), hv⟩⟩)
  refine c139_0 ⟨fun h => fin _ (c245_43 (inN ?_ (eqok ⟨fun e => absurd h ?_, fun _ => ⟨fun e => absurd h ?_, fun _ => ⟨fun e => absurd h ?_, fun _ => ⟨fun e => absurd h ?_, fun _ => rfl⟩⟩⟩⟩))), fun h => fin _ (lo 0 (by omega) (t0 0 (by decide) h) _ (hf.1.trans hc.1.symm)), fun h => fin _ (lo 1 (by omega) (t0 1 (by decide) h) _ (hf.2.1.trans hc.2.1.symm)), fun h => bc0 hC.j (fin _ (lo 2 (by omega) (t0 2 (by decide) h) _ hf.2.2.1)), fun h => fin _ (lo 3 (by omega) (t0 3 (by decide) h) _ (hf.2.2.2.1.trans hc.2.2.1.symm)), fun h => fin _ (lo 4 (by omega) (t0 4 (by decide) h) _ (hf.2.2.2.2.1.trans hc.2.2.2.1.symm)), fun h => ⟨fun _ => fin _ (lo 5 (by omega) (t0 5 (by decide) h) _ hf.2.2.2.2.2.1), fun z => absurd hc.2.2.2.2.1 z⟩, fun h => bc0 hc.2.2.2.2.2.2.2.1 (fin _ ?_), fun h => bc0 hc.2.2.2.2.2.2.2.2 (fin _ ?_), fun h => fin _ ?_, fun h => fin _ ?_, trivial⟩
  · rw [Int32.lt_iff_toInt_lt, Int32.lt_iff_toInt_lt]
    have e0 : (0 : Int32).toInt = 0 := by decide
    have e1 : (5 : Int32).toInt = 5 := by decide
    omega
  · rw [e]; decide
  · rw [e]; decide
  · rw [e]; decide
  · rw [e]; decide
  · have e := t0 6 (by decide) h
    exact c245_43 (inN (Or.inr (by rw [e]; decide)) (eqok ⟨fun _ => bits0 hM.1.2.1 rfl, fun z => absurd e z⟩))
  · have e := t0 7 (by decide) h
    exact c245_43 (inN (Or.inr (by rw [e]; decide)) (eqok ⟨fun z => absurd (z.symm.trans e) (by decide), fun _ => ⟨fun _ => bits0 hM.1.2.2.1 rfl, fun z => absurd e z⟩⟩))
  · have e := t0 8 (by decide) h
    exact c245_43 (inN (Or.inr (by rw [e]; decide)) (eqok ⟨fun z => absurd (z.symm.trans e) (by decide), fun _ => ⟨fun z => absurd (z.symm.trans e) (by decide), fun _ => ⟨fun _ => hM.2.1.trans hC.2.1.symm, fun z => absurd e z⟩⟩⟩))
  · have e := t0 9 (by decide) h
    exact c245_43 (inN (Or.inr (by rw [e]; decide)) (eqok ⟨fun z => absurd (z.symm.trans e) (by decide), fun _ => ⟨fun z => absurd (z.symm.trans e) (by decide), fun _ => ⟨fun z => absurd (z.symm.trans e) (by decide), fun _ => ⟨fun _ => ⟨mo590, hf.2.2.2.2.2.2.trans hc.2.2.2.2.2.2.1.symm⟩, fun z => absurd e z⟩⟩⟩⟩))
end OPS
