/-! trials: what each hand adds, over all orders -/
section TR4
def faN : Nat → Nat
  | 0 => 1
  | n + 1 => (n + 1) * faN n
theorem fa_b : ∀ a, a < 8 → ∀ c, c < 8 → a + c ≤ 7 → faN a * faN c ≤ 5040 := by decide
theorem fa_8 : ∀ a, a < 9 → 1 ≤ faN a ∧ faN a ≤ 40320 := by decide
theorem d32 : ∀ a, a < 65 → ∀ c, c < 65 → nI a - nI c = Int32.ofInt ((a : Int) - (c : Int)) := by decide +kernel
theorem d64 : ∀ a, a < 65 → ∀ c, c < 65 → (nI a - nI c).toInt64 = Int64.ofInt ((a : Int) - (c : Int)) := by decide +kernel
theorem ni_64 : ∀ a, a < 10 → (nI a).toInt64 = Int64.ofNat a := by decide +kernel
theorem nI_or (Y X : Nat) : nI Y ||| nI X = nI (Y ||| X) := Int32.toBitVec_inj.mp (by
  rw [Int32.toBitVec_or]
  exact BitVec.ofNat_or.symm)
theorem nI_oi (m : Nat) : nI m = Int32.ofInt (m : Int) := Int32.ofInt_eq_ofNat.symm
/-- what hand i adds behind the sets below X -/
def tmI (h : Nat → Nat) (n i X : Nat) : Int := if X.testBit i = true then 0 else ((faN (bcN X) * faN (n - 1 - bcN X) : Nat) : Int) * ((h (X ||| 2 ^ i) : Int) - (h X : Int))
def adI (h : Nat → Nat) (n i : Nat) : Nat → Int
  | 0 => 0
  | X + 1 => adI h n i X + tmI h n i X
theorem nb_lt1 {p : Nat → Bool} {i : Nat} (hp : p i = false) : ∀ n, i < n → nb p n < n := by
  intro n
  induction n with
  | zero => intro h; omega
  | succ n ih =>
    intro h
    rw [nb_s]
    by_cases z : i = n
    · rw [← z, hp, if_neg (by decide)]
      have := nb_le (p := p) i
      omega
    · have := ih (by omega)
      split <;> omega
theorem bc_n {n X i : Nat} (hn : n ≤ 8) (hX : X < 2 ^ n) (hi : i < n) (ht : ¬ X.testBit i = true) : bcN X + 1 ≤ n := by
  have a := nb_lt1 (p := fun i => X.testBit i) (ts_nt ht) n hi
  have e : bcN X = nb (fun i => X.testBit i) n := by
    show nb (fun i => X.testBit i) 8 = _
    rw [show 8 = n + (8 - n) by omega, nb_ad, nb_none (8 - n) (fun j hj => ?_), Nat.add_zero]
    exact Nat.testBit_lt_two_pow (Nat.lt_of_lt_of_le hX (Nat.pow_le_pow_right (by omega) (by omega)))
  omega
theorem or_l {n X i : Nat} (hX : X < 2 ^ n) (hi : i < n) : X ||| 2 ^ i < 2 ^ n := Nat.or_lt_two_pow hX (Nat.pow_lt_pow_right (by decide) hi)
theorem tm_b {h : Nat → Nat} {n i X : Nat} (hh : ∀ Y, h Y ≤ 64) (hn : n ≤ 8) (hX : X < 2 ^ n) (hi : i < n) : -322560 ≤ tmI h n i X ∧ tmI h n i X ≤ 322560 := by
  unfold tmI
  split
  · omega
  · rename_i ht
    have b := bc_n hn hX hi ht
    have c := fa_b (bcN X) (by omega) (n - 1 - bcN X) (by omega) (by omega)
    have h1 := hh (X ||| 2 ^ i)
    have h2 := hh X
    revert c
    generalize faN (bcN X) * faN (n - 1 - bcN X) = q
    generalize h (X ||| 2 ^ i) = u at *
    generalize h X = w at *
    intro c
    have m1 : (q : Int) * ((u : Int) - (w : Int)) ≤ (q : Int) * 64 := Int.mul_le_mul_of_nonneg_left (by omega) (by omega)
    have m2 : (q : Int) * (-64) ≤ (q : Int) * ((u : Int) - (w : Int)) := Int.mul_le_mul_of_nonneg_left (by omega) (by omega)
    omega
theorem ad_b {h : Nat → Nat} {n i : Nat} (hh : ∀ Y, h Y ≤ 64) (hn : n ≤ 8) (hi : i < n) : ∀ X : Nat, X ≤ 2 ^ n → -(322560 * (X : Int)) ≤ adI h n i X ∧ adI h n i X ≤ 322560 * (X : Int) := by
  intro X
  induction X with
  | zero =>
    intro _
    show -(322560 * ((0 : Nat) : Int)) ≤ (0 : Int) ∧ (0 : Int) ≤ 322560 * ((0 : Nat) : Int)
    decide
  | succ X ih =>
    intro hX
    have a := ih (by omega)
    have b := tm_b (h := h) hh hn (show X < 2 ^ n by omega) hi
    show -(322560 * ((X + 1 : Nat) : Int)) ≤ adI h n i X + tmI h n i X ∧ adI h n i X + tmI h n i X ≤ _
    omega
variable {S : Nat × (Nat → Int32)} {d : Nat} {x : mX} {I : rI0} {J : rJ0} {g b : Nat → Int32} {W : Nat → lV} {P H : Nat → Bool}
/-- the class: factorial -/
theorem c90x {v : Int32} {m : Nat} {Q : Int32 → rI0 → rJ0 → Prop} (hm : m ≤ 8) (hv : v.toInt = (m : Int)) (k : Q (nI (faN m)) I J) : wcI S d 90 [.ref 37, .int v] x I J Q := by
  have ev : v = nI m := Int32.toInt_inj.mp (by rw [nI_toInt (by omega)]; exact hv)
  subst ev
  have lp : ∀ (j i : Nat), i + j = m → wp S d 90 4 [some (.ref 37), some (.int (nI m)), some (.int (nI (faN i))), some (.int (nI (i + 1)))] [] (wv x I J) (rI x Q) := by
    intro j
    induction j with
    | zero =>
      intro i hi
      have hi : i = m := by omega
      subst hi
      exact v90_37_4 ⟨fun _ => k, fun q => absurd (nI_lt (by omega) (by omega)) q⟩
    | succ j ih =>
      intro i hi
      refine v90_37_4 ⟨fun q => absurd q (nI_nlt (by omega) (by omega)), fun _ => ⟨fun q => absurd q (nI_nlt (a := 8) (by omega) (by omega)), fun _ => ?_⟩⟩
      have i2 := ih (i + 1) (by omega)
      rw [nI_mu, ← nI_succ, Nat.mul_comm]
      exact i2
  by_cases z : m = 0
  · subst z
    exact c90_37 (v90_37_4 ⟨fun _ => k, fun q => absurd (by decide) q⟩)
  · exact c90_37 (lp (m - 1) 1 (by omega))
/-- the reference: factorial -/
theorem r223x {v : Int32} {m : Nat} {Q : Int64 → rI0 → rJ0 → Prop} (hm : m ≤ 8) (hv : v.toInt = (m : Int)) (k : Q (Int64.ofNat (faN m)) I J) : wcJ S d 223 [.int v] x I J Q := by
  have ev : v = nI m := Int32.toInt_inj.mp (by rw [nI_toInt (by omega)]; exact hv)
  subst ev
  have lp : ∀ (j i : Nat), i + j = m → wp S d 223 4 [some (.int (nI m)), some (.long (Int64.ofNat (faN i))), none, some (.int (nI (i + 1)))] [] (wv x I J) (rJ x Q) := by
    intro j
    induction j with
    | zero =>
      intro i hi
      have hi : i = m := by omega
      subst hi
      exact v223_4 ⟨fun _ => k, fun q => absurd (nI_lt (by omega) (by omega)) q⟩
    | succ j ih =>
      intro i hi
      refine v223_4 ⟨fun q => absurd q (nI_nlt (by omega) (by omega)), fun _ => ?_⟩
      have i2 := ih (i + 1) (by omega)
      rw [ni_64 (i + 1) (by omega), ← Int64.ofNat_mul, ← nI_succ, Nat.mul_comm]
      exact i2
  by_cases z : m = 0
  · subst z
    exact c223 (v223_4 ⟨fun _ => k, fun q => absurd (by decide) q⟩)
  · exact c223 (lp (m - 1) 1 (by omega))
theorem n1_b {n q : Nat} (hn : n ≤ 8) (h : q + 1 ≤ n) : ((nI n - 1) - nI q).toInt = ((n - 1 - q : Nat) : Int) := by
  have e : nI n - 1 = nI (n - 1) := by
    rw [show n = n - 1 + 1 by omega, nI_pr]
    congr 1
  rw [e, i_sub (nI_toInt (by omega)) (nI_toInt (by omega)) (by omega)]
  omega
/-- the class: addsOf -/
theorem c89x {h : Nat → Nat} {n i : Nat} {Q : Int32 → rI0 → rJ0 → Prop} (hh : ∀ Y, h Y ≤ 64) (hn : n ≤ 8) (hi : i < n) (h38 : ∀ Y, Y < 2 ^ n → I 38 Y = nI (h Y)) (k : Q (Int32.ofInt (adI h n i (2 ^ n))) I J) : wcI S (d + 1) 89 [.ref 37, .int (nI i), .int (nI n)] x I J Q := by
  have h8 := pw_8 hn
  have lp : ∀ (j X : Nat), X + j = 2 ^ n → wp S (d + 1) 89 5 [some (.ref 37), some (.int (nI i)), some (.int (nI n)), some (.int (Int32.ofInt (adI h n i X))), some (.int (nI X)), none, none] [] (wv x I J) (rI x Q) := by
    intro j
    induction j with
    | zero =>
      intro X hX
      have hX : X = 2 ^ n := by omega
      subst hX
      exact v89_37_5 ⟨fun q => absurd q (by rw [sh_1 n (by omega)]; exact nI_nlt (Nat.le_refl _) (by omega)), fun _ => k⟩
    | succ j ih =>
      intro X hX
      have i2 := ih (X + 1) (by omega)
      rw [show adI h n i (X + 1) = adI h n i X + tmI h n i X from rfl] at i2
      refine v89_37_5 (d := d) ⟨fun _ => ⟨fun q => ?_, fun q => ?_⟩, fun q => absurd (by rw [sh_1 n (by omega)]; exact nI_lt (by omega) (by omega)) q⟩
      · have q := (hcu_n (by omega) (by omega)).mp q
        have bn := bc_n hn (show X < 2 ^ n by omega) hi q
        have ol := or_l (show X < 2 ^ n by omega) hi
        refine c249x (by omega) (c90x (m := bcN X) (by omega) (nI_toInt (by omega)) (c90x (m := n - 1 - bcN X) (by omega) (n1_b hn bn) ?_))
        rw [sh_1 i (by omega), nI_or, nI_clamp (by omega), nI_clamp (by omega), h38 _ ol, h38 X (by omega), d32 _ (by have := hh (X ||| 2 ^ i); omega) _ (by have := hh X; omega), nI_mu, nI_oi (faN (bcN X) * faN (n - 1 - bcN X)), ← Int32.ofInt_mul, ← Int32.ofInt_add, ← nI_succ]
        refine ⟨nI_in (by omega) (by omega), nI_in (by omega) (by omega), ?_⟩
        rw [show tmI h n i X = ((faN (bcN X) * faN (n - 1 - bcN X) : Nat) : Int) * ((h (X ||| 2 ^ i) : Int) - (h X : Int)) from if_neg q] at i2
        exact i2
      · have q : X.testBit i = true := Classical.not_not.mp (fun w => q ((hcu_n (by omega) (by omega)).mpr w))
        rw [show tmI h n i X = 0 from if_pos q, Int.add_zero] at i2
        rw [← nI_succ]
        exact i2
  exact c89_37 (lp (2 ^ n) 0 (by omega))
/-- HEIGHT of a set of hands alone -/
def hhN (g : Nat → Int32) (W : Nat → lV) (H : Nat → Bool) (b : Nat → Int32) (n X : Nat) : Nat := hgt g W (paB (fun _ => false) b n X) H 60
theorem hh_l {n X : Nat} : hhN g W H b n X ≤ 64 := hgt_l
theorem pa0_e {n X : Nat} {v : Int64} (h : ∀ u, u < 64 → bits5 v u = hSt b n X u) : ∀ s, s < 64 → bits5 v s = paB (fun _ => false) b n X s := by
  intro s hs
  unfold paB
  rw [h s hs, decide_eq_true hs, Bool.true_and, Bool.false_or]
/-- the class: worthOfAll -/
theorem c88x {n : Nat} {Q : Int32 → rI0 → rJ0 → Prop} (hC : CE g W P H I J) (e2 : I 2 = b) (n1 : 1 ≤ n) (hn : n ≤ 8) (hu : ulB g b 0 n = true) (k : ∀ I1 J1 I2, FK I J I1 J1 → (∀ b, b ≠ 40 → I2 b = I1 b) → (∀ i, i < n → I2 40 i = Int32.ofInt (adI (hhN g W H b n) n i (2 ^ n))) → Q (nI (hhN g W H b n (2 ^ n - 1))) (mSet I2 37 7 (nI n)) J1) : wcI S (d + 23) 88 [.ref 37, .int (nI n)] x I J Q := by
  have h8 := pw_8 hn
  have hp0 : 0 < 2 ^ n := Nat.pow_pos (by decide)
  have lq : ∀ (I1 : rI0) (J1 : rJ0), FK I J I1 J1 → (∀ Y, Y < 2 ^ n → I1 38 Y = nI (hhN g W H b n Y)) → ∀ (j i : Nat) (I2 : rI0), i + j = n → (∀ b, b ≠ 40 → I2 b = I1 b) → (∀ q, q < i → I2 40 q = Int32.ofInt (adI (hhN g W H b n) n q (2 ^ n))) → wp S (d + 23) 88 47 [some (.ref 37), some (.int (nI n)), some (.int (nI (2 ^ n))), some (.int (nI i))] [] (wv x I2 J1) (rI x Q) := by
    intro I1 J1 f h38 j
    induction j with
    | zero =>
      intro i I2 hi f2 h40
      have hi : i = n := by omega
      subst hi
      refine v88_37_47 ⟨fun q => absurd q (nI_nlt (Nat.le_refl _) (by omega)), fun _ => ?_⟩
      rw [show nI (2 ^ i) - 1 = nI (2 ^ i - 1) from by rw [show 2 ^ i = 2 ^ i - 1 + 1 by omega, nI_pr]; congr 1, nI_clamp (by omega), f2 38 (by decide), h38 _ (by omega)]
      exact ⟨nI_in (by omega) (by omega), k I1 J1 I2 f f2 h40⟩
    | succ j ih =>
      intro i I2 hi f2 h40
      refine v88_37_47 (d := d + 22) ⟨fun _ => c89x (d := d + 21) (h := hhN g W H b n) (fun _ => hh_l) hn (by omega) (fun Y hY => by rw [f2 38 (by decide)]; exact h38 Y hY) ⟨nI_in (by omega) (by omega), ?_⟩, fun q => absurd (nI_lt (by omega) (by omega)) q⟩
      rw [nI_clamp (by omega), ← nI_succ]
      refine ih (i + 1) _ (by omega) (fun b hb => (mSet_ne hb).trans (f2 b hb)) (fun q hq => ?_)
      unfold mSet va_up
      rw [if_pos rfl]
      by_cases z : q = i
      · rw [z, if_pos rfl]
      · rw [if_neg z]
        exact h40 q (by omega)
  have lp : ∀ (j X : Nat) (I1 : rI0) (J1 : rJ0), X + j = 2 ^ n → FK I J I1 J1 → (∀ Y, Y < X → I1 38 Y = nI (hhN g W H b n Y)) → wp S (d + 23) 88 6 [some (.ref 37), some (.int (nI n)), some (.int (nI (2 ^ n))), some (.int (nI X))] [] (wv x I1 J1) (rI x Q) := by
    intro j
    induction j with
    | zero =>
      intro X I1 J1 hX f h38
      have hX : X = 2 ^ n := by omega
      subst hX
      exact v88_37_6 ⟨fun q => absurd q (nI_nlt (Nat.le_refl _) (by omega)), fun _ => lq I1 J1 f h38 n 0 I1 (by omega) (fun _ _ => rfl) (fun q hq => absurd hq (Nat.not_lt_zero _))⟩
    | succ j ih =>
      intro X I1 J1 hX f h38
      have hC1 := hC.k f
      have f2 : I1 2 = b := (f.1 2 (by decide) (by decide) (by decide)).trans e2
      refine v88_37_6 (d := d + 22) ⟨fun _ => c82x (d := d + 22) f2 hn (by omega) hu (fun v hv => ht_41 (d := d) (P := paB (fun _ => false) b n X) (H := H) hC1.1 hC1.2.1 (paB_s (fun _ z => by cases z) hu) (pa0_e hv) hC1.2.2.2.2.1 (fun I2 J2 r f3 h1 h2 => ⟨nI_in (by omega) (by omega), ?_⟩)), fun q => absurd (nI_lt (by omega) (by omega)) q⟩
      have er : r = hhN g W H b n X := by
        have a := hgt_l (g := g) (W := W) (P := paB (fun _ => false) b n X) (H := H) (t := 60)
        have e : (64 : Int32).toInt = 64 := by decide
        rw [e] at h2
        show r = hgt g W (paB (fun _ => false) b n X) H 60
        omega
      rw [nI_clamp (by omega), ← nI_succ, er]
      refine ih (X + 1) _ J2 (by omega) ((f.tr f3.k).tr (FK.s (Or.inl rfl))) (fun Y hY => ?_)
      unfold mSet va_up
      rw [if_pos rfl]
      by_cases z : Y = X
      · rw [z, if_pos rfl]
      · rw [if_neg z, f3.1 38 (by decide)]
        exact h38 Y (by omega)
  refine c88_37 ?_
  rw [sh_1 n (by omega)]
  exact lp (2 ^ n) 0 I J (by omega) FK.rf (fun Y h => absurd h (Nat.not_lt_zero _))
end TR4
