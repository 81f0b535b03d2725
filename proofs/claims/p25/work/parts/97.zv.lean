section
/-! trials: two sides, the class -/
section TRA
def mnS (h : Nat → Nat → Nat) (i : Nat) : Nat → Nat
  | 0 => 64
  | j + 1 => if h i j < mnS h i j then h i j else mnS h i j
def mxS (h : Nat → Nat → Nat) (j : Nat) : Nat → Nat
  | 0 => 0
  | i + 1 => if mxS h j i < h i j then h i j else mxS h j i
/-- the first side's best, the second's -/
def fiS (h : Nat → Nat → Nat) (B : Nat) : Nat → Nat
  | 0 => 0
  | k + 1 => if k = 0 ∨ mnS h (fiS h B k) B < mnS h k B then k else fiS h B k
def seS (h : Nat → Nat → Nat) (A : Nat) : Nat → Nat
  | 0 => 0
  | k + 1 => if k = 0 ∨ mxS h k A < mxS h (seS h A k) A then k else seS h A k
variable {h : Nat → Nat → Nat} {A B : Nat}
theorem mn_l {i : Nat} : ∀ j, mnS h i j ≤ 64 := by
  intro j
  induction j with
  | zero => exact Nat.le_refl _
  | succ j ih =>
    show (if h i j < mnS h i j then h i j else mnS h i j) ≤ 64
    split <;> omega
theorem mx_l {j : Nat} (hh : ∀ i j, h i j ≤ 64) : ∀ i, mxS h j i ≤ 64 := by
  intro i
  induction i with
  | zero => exact Nat.zero_le _
  | succ i ih =>
    show (if mxS h j i < h i j then h i j else mxS h j i) ≤ 64
    have := hh i j
    split <;> omega
theorem fi_l : ∀ k, 0 < k → fiS h B k < k := by
  intro k
  induction k with
  | zero => intro z; omega
  | succ k ih =>
    intro _
    show (if k = 0 ∨ mnS h (fiS h B k) B < mnS h k B then k else fiS h B k) < k + 1
    split
    · omega
    · have := ih (by omega)
      omega
theorem se_l : ∀ k, 0 < k → seS h A k < k := by
  intro k
  induction k with
  | zero => intro z; omega
  | succ k ih =>
    intro _
    show (if k = 0 ∨ mxS h k A < mxS h (seS h A k) A then k else seS h A k) < k + 1
    split
    · omega
    · have := ih (by omega)
      omega
theorem nI_if {p q : Nat} (hp : p < 2 ^ 31) (hq : q < 2 ^ 31) : (if nI p < nI q then nI p else nI q) = nI (if p < q then p else q) := by
  by_cases z : p < q
  · rw [if_pos z, if_pos (nI_lt z hq)]
  · rw [if_neg z, if_neg (nI_nlt (by omega) (by omega))]
def puB (P : Nat → Bool) (u s : Nat) : Bool := P s || decide (s = u)
def shN (g : Nat → Int32) (W : Nat → lV) (P H : Nat → Bool) (b : Nat → Int32) (A i j : Nat) : Nat := hgt g W (puB P (b (1 + i)).toInt.toNat) (puB H (b (1 + (A + j))).toInt.toNat) 60
variable {S : Nat × (Nat → Int32)} {d : Nat} {x : mX} {I I1 I2 : rI0} {J J1 J2 : rJ0} {g b : Nat → Int32} {W : Nat → lV} {P H : Nat → Bool}
theorem sh_l {i j : Nat} : shN g W P H b A i j ≤ 64 := hgt_l
theorem pu_e {u : Nat} {v : Int64} (hu : u < 64) (e : ∀ s, s < 64 → bits5 v s = P s) : ∀ s, s < 64 → bits5 (v ||| ((1 : Int64) <<< ((nI u).toInt64 &&& 63))) s = puB P u s := by
  intro s hs
  unfold puB
  rw [b5_or, e s hs, b5_1 hu]
theorem pu_s {u : Nat} (hP : ∀ s, P s = true → seB g s = true) (hu : seB g u = true) : ∀ s, puB P u s = true → seB g s = true := by
  intro s z
  unfold puB at z
  rw [Bool.or_eq_true, decide_eq_true_iff] at z
  exact z.elim (hP s) (fun y => by rw [y]; exact hu)
/-- what sides of the class leaves as it was -/
def FS (I : rI0) (J : rJ0) (I' : rI0) (J' : rJ0) : Prop := (∀ b, b ≠ 37 → b ≠ 38 → b ≠ 41 → I' b = I b) ∧ (∀ q, ¬ (9 ≤ q ∧ q ≤ 11) → I' 37 q = I 37 q) ∧ ∀ b, b ≠ 41 → J' b = J b
theorem FS.rf : FS I J I J := ⟨fun _ _ _ _ => rfl, fun _ _ => rfl, fun _ _ => rfl⟩
theorem FS.n (f : FS I J I1 J1) (h : F41 I1 J1 I2 J2) : FS I J I2 J2 := ⟨fun b h1 h2 h3 => (h.1 b h3).trans (f.1 b h1 h2 h3), fun q hq => by rw [h.1 37 (by decide)]; exact f.2.1 q hq, fun b hb => (h.2 b hb).trans (f.2.2 b hb)⟩
theorem FS.s {q : Nat} {v : Int32} (f : FS I J I1 J1) : FS I J (mSet I1 38 q v) J1 := ⟨fun b h1 h2 h3 => (mSet_ne h2).trans (f.1 b h1 h2 h3), fun q' hq => by rw [mSet_ne (by decide)]; exact f.2.1 q' hq, f.2.2⟩
theorem FS.t {q : Nat} {v : Int32} (f : FS I J I1 J1) (hq : 9 ≤ q ∧ q ≤ 11) : FS I J (mSet I1 37 q v) J1 := ⟨fun b h1 h2 h3 => (mSet_ne h1).trans (f.1 b h1 h2 h3), fun q' hq' => by unfold mSet va_up; rw [if_pos rfl, if_neg (by omega)]; exact f.2.1 q' hq', f.2.2⟩
theorem CE.s (h : CE g W P H I J) (f : FS I J I1 J1) : CE g W P H I1 J1 := h.mv (fun b hb => f.1 b (by omega) (by omega) (by omega)) (fun b hb => f.2.2 b (by omega))
theorem ix_e {i j A : Nat} (hi : i < 6) (hj : j < 6) (hA : A ≤ 6) : ((nI (1 + i) * 8) + nI (1 + (A + j))) - nI A = nI (8 * i + j + 9) := by
  rw [show (8 : Int32) = nI 8 from rfl, nI_mu, nI_add, ← Int32.toInt_inj, i_sub (nI_toInt (by omega)) (nI_toInt (by omega)) (by omega), nI_toInt (by omega)]
  omega
theorem ix_j {i j : Nat} {i2 j2 : Nat} (hj : j < 6) (hj2 : j2 < 6) (e : 8 * i + j + 9 = 8 * i2 + j2 + 9) : i = i2 ∧ j = j2 := by omega
/-- the class: sidesOf -/
theorem c92x {Q : Int32 → rI0 → rJ0 → Prop} (hC : CE g W P H I J) (e2 : I 2 = b) (hA1 : 1 ≤ A) (hA : A ≤ 6) (hB1 : 1 ≤ B) (hB : B ≤ 6) (hu : ulB g b 1 (A + B) = true) (k : ∀ I' J', FS I J I' J' → I' 37 9 = nI (mxS (shN g W P H b A) (seS (shN g W P H b A) A B) A) → I' 37 10 = b (1 + fiS (shN g W P H b A) B A) → I' 37 11 = b (1 + (A + seS (shN g W P H b A) A B)) → Q (nI (mnS (shN g W P H b A) (fiS (shN g W P H b A) B A) B)) I' J') : wcI S (d + 23) 92 [.ref 37, .int (nI A), .int (nI (1 + (A + B)))] x I J Q := by
  have hh : ∀ i j, shN g W P H b A i j ≤ 64 := fun _ _ => sh_l
  have se : ∀ q, q < A + B → ∃ s, s < 64 ∧ b (1 + q) = nI s ∧ seB g s = true := fun q hq => ulB_s hu hq
  have two : ∀ (I3 : rI0) (J3 : rJ0), FS I J I3 J3 → (∀ i j, i < A → j < B → I3 38 (8 * i + j + 9) = nI (shN g W P H b A i j)) → I3 37 10 = b (1 + fiS (shN g W P H b A) B A) → ∀ (m j : Nat) (I4 : rI0), j + m = B → (∀ b, b ≠ 37 → I4 b = I3 b) → FS I J I4 J3 → I4 37 10 = I3 37 10 → I4 37 9 = (if j = 0 then 65 else nI (mxS (shN g W P H b A) (seS (shN g W P H b A) A j) A)) → (0 < j → I4 37 11 = b (1 + (A + seS (shN g W P H b A) A j))) → wp S (d + 23) 92 148 [some (.ref 37), some (.int (nI A)), some (.int (nI (1 + (A + B)))), some (.int (nI (mnS (shN g W P H b A) (fiS (shN g W P H b A) B A) B))), some (.int (nI (1 + (A + j)))), none, none, none, none, none, none, none] [] (wv x I4 J3) (rI x Q) := by
    intro I3 J3 f3 h38 h10
    revert k hh h38 h10
    generalize shN g W P H b A = h
    intro k hh h38 h10 m
    induction m with
    | zero =>
      intro j I4 hj f4 fs e10 e9 e11
      have hj : j = B := by omega
      subst hj
      rw [if_neg (by omega)] at e9
      exact v92_37_148 ⟨fun q => absurd q (nI_nlt (Nat.le_refl _) (by omega)), fun _ => k I4 J3 fs e9 (e10.trans h10) (e11 (by omega))⟩
    | succ m ih =>
      intro j I4 hj f4 fs e10 e9 e11
      have mx : ∀ (q i : Nat), i + q = A → wp S (d + 23) 92 160 [some (.ref 37), some (.int (nI A)), some (.int (nI (1 + (A + B)))), some (.int (nI (mnS h (fiS h B A) B))), some (.int (nI (1 + (A + j)))), some (.int (if i = 0 then -1 else nI (mxS h j i))), some (.int (nI (1 + i))), none, none, none, none, none] [] (wv x I4 J3) (rI x Q) := by
        intro q
        induction q with
        | zero =>
          intro i hi
          have hi : i = A := by omega
          subst hi
          rw [if_neg (by omega)]
          have ml := mx_l (j := j) hh i
          have sl := mx_l (j := seS h i j) hh i
          have lt : nI (mxS h j i) < I4 37 9 ↔ (j = 0 ∨ mxS h j i < mxS h (seS h i j) i) := by
            rw [e9]
            by_cases z : j = 0
            · rw [if_pos z]
              exact iff_of_true (nI_lt (b := 65) (by omega) (by omega)) (Or.inl z)
            · rw [if_neg z, nI_ltI (by omega) (by omega)]
              exact ⟨Or.inr, fun y => y.resolve_left z⟩
          have es : seS h i (j + 1) = if j = 0 ∨ mxS h j i < mxS h (seS h i j) i then j else seS h i j := rfl
          refine v92_37_160 ⟨fun _ => ⟨fun w => ⟨nI_in (by omega) (by omega), ?_⟩, fun w => ?_⟩, fun w => absurd (nI_lt (by omega) (by omega)) w⟩
          · rw [if_pos (lt.mp w)] at es
            rw [← nI_succ, nI_clamp (by omega), show 1 + (i + j) + 1 = 1 + (i + (j + 1)) by omega]
            refine ih (j + 1) _ (by omega) (fun b hb => by rw [mSet_ne hb, mSet_ne hb]; exact f4 b hb) ((fs.t (by omega)).t (by omega)) ?_ ?_ (fun _ => ?_)
            · show mSet (mSet I4 37 9 _) 37 11 _ 37 10 = _
              unfold mSet va_up
              rw [if_pos rfl, if_neg (by decide), if_pos rfl, if_neg (by decide)]
              exact e10
            · rw [if_neg (by omega), es]
              show mSet (mSet I4 37 9 _) 37 11 _ 37 9 = _
              unfold mSet va_up
              rw [if_pos rfl, if_neg (by decide), if_pos rfl, if_pos rfl]
            · rw [es]
              show mSet (mSet I4 37 9 _) 37 11 _ 37 11 = _
              unfold mSet va_up
              rw [if_pos rfl, if_pos rfl, f4 2 (by decide), f3.1 2 (by decide) (by decide) (by decide), e2]
          · have nz := mt lt.mpr w
            rw [if_neg nz] at es
            rw [← nI_succ, show 1 + (i + j) + 1 = 1 + (i + (j + 1)) by omega]
            have j0 : ¬ j = 0 := fun y => nz (Or.inl y)
            refine ih (j + 1) _ (by omega) f4 fs e10 ?_ (fun _ => ?_)
            · rw [if_neg (by omega), es]
              rw [if_neg j0] at e9
              exact e9
            · rw [es]
              exact e11 (by omega)
        | succ q ihq =>
          intro i hi
          have i2 := ihq (i + 1) (by omega)
          rw [if_neg (by omega), show mxS h j (i + 1) = if mxS h j i < h i j then h i j else mxS h j i from rfl] at i2
          have ml := mx_l (j := j) hh i
          have hl := hh i j
          refine v92_37_160 ⟨fun w => absurd w (nI_nlt (by omega) (by omega)), fun _ => ?_⟩
          rw [ix_e (by omega) (by omega) hA, nI_clamp (by omega), f4 38 (by decide), h38 i j (by omega) (by omega), ← nI_succ, show 1 + i + 1 = 1 + (i + 1) by omega]
          refine ⟨nI_in (by omega) (by omega), ?_⟩
          by_cases z : i = 0
          · rw [if_pos z]
            have e : (-1 : Int32) < nI (h i j) := by
              rw [Int32.lt_iff_toInt_lt, nI_toInt (by omega)]
              have e : (-1 : Int32).toInt = -1 := by decide
              omega
            rw [if_pos e]
            have e0 : (if mxS h j i < h i j then h i j else mxS h j i) = h i j := by
              rw [z, show mxS h j 0 = 0 from rfl]
              split <;> omega
            rw [e0] at i2
            exact i2
          · rw [if_neg z]
            by_cases y : mxS h j i < h i j
            · rw [if_pos (nI_lt y (by omega))]
              rw [if_pos y] at i2
              exact i2
            · rw [if_neg (nI_nlt (by omega) (by omega))]
              rw [if_neg y] at i2
              exact i2
      exact v92_37_148 ⟨fun _ => mx A 0 (by omega), fun q => absurd (nI_lt (by omega) (by omega)) q⟩
  have one : ∀ (m i : Nat) (I3 : rI0) (J3 : rJ0), i + m = A → FS I J I3 J3 → (∀ i2 j, i2 < i → j < B → I3 38 (8 * i2 + j + 9) = nI (shN g W P H b A i2 j)) → (0 < i → I3 37 10 = b (1 + fiS (shN g W P H b A) B i)) → wp S (d + 23) 92 5 [some (.ref 37), some (.int (nI A)), some (.int (nI (1 + (A + B)))), some (.int (if i = 0 then -1 else nI (mnS (shN g W P H b A) (fiS (shN g W P H b A) B i) B))), some (.int (nI (1 + i))), none, none, none, none, none, none, none] [] (wv x I3 J3) (rI x Q) := by
    intro m
    induction m with
    | zero =>
      intro i I3 J3 hi f h38 h10
      have hi : i = A := by omega
      subst hi
      rw [if_neg (by omega)]
      refine v92_37_5 ⟨fun _ => ?_, fun q => absurd (nI_lt (by omega) (by omega)) q⟩
      have t := two I3 J3 f (fun i2 j h1 h2 => h38 i2 j h1 h2) (h10 (by omega)) B 0 (mSet I3 37 9 65) (by omega) (fun b hb => mSet_ne hb) (f.t (by omega)) (by unfold mSet va_up; rw [if_pos rfl, if_neg (by decide)]) (by unfold mSet va_up; rw [if_pos rfl, if_pos rfl, if_pos rfl]) (fun z => absurd z (by omega))
      rw [← nI_succ, show i + 1 = 1 + (i + 0) by omega]
      exact t
    | succ m ih =>
      intro i I3 J3 hi f h38 h10
      have es : fiS (shN g W P H b A) B (i + 1) = if i = 0 ∨ mnS (shN g W P H b A) (fiS (shN g W P H b A) B i) B < mnS (shN g W P H b A) i B then i else fiS (shN g W P H b A) B i := rfl
      have inn : ∀ (q j : Nat) (I4 : rI0) (J4 : rJ0), j + q = B → FS I J I4 J4 → (∀ i2 j2, i2 < i → j2 < B → I4 38 (8 * i2 + j2 + 9) = nI (shN g W P H b A i2 j2)) → (∀ j2, j2 < j → I4 38 (8 * i + j2 + 9) = nI (shN g W P H b A i j2)) → (0 < i → I4 37 10 = b (1 + fiS (shN g W P H b A) B i)) → wp S (d + 23) 92 20 [some (.ref 37), some (.int (nI A)), some (.int (nI (1 + (A + B)))), some (.int (if i = 0 then -1 else nI (mnS (shN g W P H b A) (fiS (shN g W P H b A) B i) B))), some (.int (nI (1 + i))), some (.int (nI (mnS (shN g W P H b A) i j))), some (.int (nI (1 + (A + j)))), none, none, none, none, none] [] (wv x I4 J4) (rI x Q) := by
        intro q
        induction q with
        | zero =>
          intro j I4 J4 hj f4 h38a h38b h10b
          have hj : j = B := by omega
          subst hj
          have f2 : I4 2 = b := (f4.1 2 (by decide) (by decide) (by decide)).trans e2
          have ml := mn_l (h := shN g W P H b A) (i := i) j
          have ml2 := mn_l (h := shN g W P H b A) (i := fiS (shN g W P H b A) j i) j
          have lt : (if i = 0 then -1 else nI (mnS (shN g W P H b A) (fiS (shN g W P H b A) j i) j)) < nI (mnS (shN g W P H b A) i j) ↔ (i = 0 ∨ mnS (shN g W P H b A) (fiS (shN g W P H b A) j i) j < mnS (shN g W P H b A) i j) := by
            by_cases z : i = 0
            · rw [if_pos z]
              refine iff_of_true ?_ (Or.inl z)
              rw [Int32.lt_iff_toInt_lt, nI_toInt (by omega)]
              have e : (-1 : Int32).toInt = -1 := by decide
              omega
            · rw [if_neg z, nI_ltI (by omega) (by omega)]
              exact ⟨Or.inr, fun y => y.resolve_left z⟩
          have h38c : ∀ i2 j2, i2 < i + 1 → j2 < j → I4 38 (8 * i2 + j2 + 9) = nI (shN g W P H b A i2 j2) := fun i2 j2 h1 h2 => by
            by_cases y : i2 = i
            · rw [y]
              exact h38b j2 h2
            · exact h38a i2 j2 (by omega) h2
          refine v92_37_20 ⟨fun w => absurd w (nI_nlt (Nat.le_refl _) (by omega)), fun _ => ⟨fun w => ⟨nI_in (by omega) (by omega), ?_⟩, fun w => ?_⟩⟩
          · rw [if_pos (lt.mp w)] at es
            have i3 := ih (i + 1) (mSet I4 37 10 (b (1 + i))) J4 (by omega) (f4.t (by omega)) (fun i2 j2 h1 h2 => by rw [mSet_ne (by decide)]; exact h38c i2 j2 h1 h2) (fun _ => by rw [es]; unfold mSet va_up; rw [if_pos rfl, if_pos rfl])
            rw [if_neg (by omega), es] at i3
            rw [nI_clamp (by omega), f2, ← nI_succ]
            exact i3
          · have nz := mt lt.mpr w
            rw [if_neg nz] at es
            have i0 : ¬ i = 0 := fun y => nz (Or.inl y)
            have i3 := ih (i + 1) I4 J4 (by omega) f4 h38c (fun _ => by rw [es]; exact h10b (by omega))
            rw [if_neg (by omega), es] at i3
            rw [if_neg i0, ← nI_succ]
            exact i3
        | succ q ihq =>
          intro j I4 J4 hj f4 h38a h38b h10b
          have f2 : I4 2 = b := (f4.1 2 (by decide) (by decide) (by decide)).trans e2
          have hC4 := hC.s f4
          obtain ⟨u, hu1, eu, hsu⟩ := se i (by omega)
          obtain ⟨w, hw1, ew, hsw⟩ := se (A + j) (by omega)
          refine v92_37_20 (d := d + 22) ⟨fun _ => ⟨nI_in (by omega) (by omega), nI_in (by omega) (by omega), ?_⟩, fun z => absurd (nI_lt (by omega) (by omega)) z⟩
          rw [nI_clamp (by omega), nI_clamp (by omega), f2, eu, ew]
          refine ht_41 (d := d) (P := puB P u) (H := puB H w) hC4.1 hC4.2.1 (pu_s hC4.2.2.1 hsu) (pu_e hu1 hC4.2.2.2.1) (pu_e hw1 hC4.2.2.2.2.1) (fun I5 J5 r f5 h1 h2 => ?_)
          have er : r = shN g W P H b A i j := by
            have a := hgt_l (g := g) (W := W) (P := puB P u) (H := puB H w) (t := 60)
            have e : (64 : Int32).toInt = 64 := by decide
            rw [e] at h2
            unfold shN
            rw [eu, ew, nI_tn (by omega), nI_tn (by omega)]
            omega
          rw [er, ix_e (by omega) (by omega) hA, nI_clamp (by omega), nI_if (by have := hh i j; omega) (by have := mn_l (h := shN g W P H b A) (i := i) j; omega), ← nI_succ, show 1 + (A + j) + 1 = 1 + (A + (j + 1)) by omega]
          refine ⟨nI_in (by omega) (by omega), ihq (j + 1) (mSet I5 38 (8 * i + j + 9) (nI (shN g W P H b A i j))) J5 (by omega) ((f4.n f5).s) (fun i2 j2 h3 h4 => ?_) (fun j2 h3 => ?_) (fun h3 => ?_)⟩
          · unfold mSet va_up
            rw [if_pos rfl, if_neg (by omega), f5.1 38 (by decide)]
            exact h38a i2 j2 h3 h4
          · unfold mSet va_up
            rw [if_pos rfl]
            by_cases y : j2 = j
            · rw [y, if_pos rfl]
            · rw [if_neg (by omega), f5.1 38 (by decide)]
              exact h38b j2 (by omega)
          · rw [mSet_ne (by decide), f5.1 37 (by decide)]
            exact h10b h3
      refine v92_37_5 ⟨fun q => absurd q (nI_nlt (by omega) (by omega)), fun _ => ?_⟩
      have st := inn B 0 I3 J3 (by omega) f h38 (fun j2 h3 => absurd h3 (Nat.not_lt_zero _)) h10
      rw [← nI_succ, show A + 1 = 1 + (A + 0) by omega]
      exact st
  exact c92_37 (one A 0 I J (by omega) FS.rf (fun i2 _ h3 => absurd h3 (Nat.not_lt_zero _)) (fun h3 => absurd h3 (by omega)))
end TRA
end
section
/-! trials: two sides, the reference -/
section TRB
def sdA (b : Nat → Int32) (n : Nat) : Nat := if n = 0 then 0 else (b 0).toInt.toNat
def sdB (g b : Nat → Int32) (n : Nat) : Bool := decide (1 ≤ sdA b n ∧ sdA b n ≤ 6 ∧ sdA b n + 2 ≤ n ∧ n ≤ sdA b n + 7) && ulB g b 1 (n - 1)
variable {S : Nat × (Nat → Int32)} {d : Nat} {x : mX} {I I1 I2 : rI0} {J J1 J2 : rJ0} {g b : Nat → Int32} {W : Nat → lV} {P H : Nat → Bool} {A B : Nat}
/-- what sides of the reference leaves as it was -/
def FY (I : rI0) (J : rJ0) (I' : rI0) (J' : rJ0) : Prop := (∀ b, b ≠ 43 → b ≠ 50 → ¬ (56 ≤ b ∧ b ≤ 58) → b ≠ 60 → I' b = I b) ∧ (∀ q, q ≠ 0 → ¬ (2 ≤ q ∧ q ≤ 5) → q ≠ 30 → ¬ (42 ≤ q ∧ q ≤ 45) → q ≠ 47 → q ≠ 55 → I' 43 q = I 43 q) ∧ (∀ b, b ≠ 43 → ¬ (51 ≤ b ∧ b ≤ 55) → J' b = J b) ∧ (∀ q, ¬ (36 ≤ q ∧ q ≤ 41) → J' 43 q = J 43 q) ∧ I' 43 2 = 0
theorem FU.y (f : FU I J I1 J1) : FY I J I1 J1 := ⟨fun b h1 h2 h3 _ => f.1 b h1 h2 h3, fun q h1 h2 h3 h4 h5 _ => f.2.1 q h1 h2 h3 h4 h5, f.2.2.1, f.2.2.2.1, f.2.2.2.2⟩
theorem FY.h (f : FY I J I1 J1) (h : FH I1 J1 I2 J2) : FY I J I2 J2 := ⟨fun b h1 h2 h3 h4 => (h.1 b h1 h2).trans (f.1 b h1 h2 h3 h4), fun q h1 h2 h3 h4 h5 h6 => (h.2.1 q h3 h4).trans (f.2.1 q h1 h2 h3 h4 h5 h6), fun b h1 h2 => (h.2.2.1 b h1 h2).trans (f.2.2.1 b h1 h2), fun q h1 => (h.2.2.2 q h1).trans (f.2.2.2.1 q h1), (h.2.1 2 (by decide) (by omega)).trans f.2.2.2.2⟩
theorem FY.s {a q : Nat} {v : Int32} (f : FY I J I1 J1) (h : a = 58 ∨ a = 60) : FY I J (mSet I1 a q v) J1 := ⟨fun b h1 h2 h3 h4 => (mSet_ne (by omega)).trans (f.1 b h1 h2 h3 h4), fun q' h1 h2 h3 h4 h5 h6 => by rw [mSet_ne (by omega)]; exact f.2.1 q' h1 h2 h3 h4 h5 h6, f.2.2.1, f.2.2.2.1, by rw [mSet_ne (by omega)]; exact f.2.2.2.2⟩
theorem FY.e {v : Int32} (f : FY I J I1 J1) : FY I J (mSet I1 43 55 v) J1 := ⟨fun b h1 h2 h3 h4 => (mSet_ne h1).trans (f.1 b h1 h2 h3 h4), fun q' h1 h2 h3 h4 h5 h6 => by unfold mSet va_up; rw [if_pos rfl, if_neg h6]; exact f.2.1 q' h1 h2 h3 h4 h5 h6, f.2.2.1, f.2.2.2.1, by unfold mSet va_up; rw [if_pos rfl, if_neg (by decide)]; exact f.2.2.2.2⟩
theorem RH.y {a q : Nat} {v : Int32} (h : RH g W I J) (ha : a = 58 ∨ a = 60) : RH g W (mSet I a q v) J := ⟨h.1, h.2.1, h.2.2.1, h.2.2.2.1, (mSet_ne (by omega)).trans h.2.2.2.2.1, fun z => h.2.2.2.2.2 (by rw [mSet_ne (by omega)] at z; exact z)⟩
theorem RH.y5 {v : Int32} (h : RH g W I J) : RH g W (mSet I 43 55 v) J := ⟨h.1, h.2.1, h.2.2.1, h.2.2.2.1, (mSet_ne (by decide)).trans h.2.2.2.2.1, fun z => h.2.2.2.2.2 z⟩
theorem i6_e {i j : Nat} (hi : i < 6) (hj : j < 6) : ((6 : Int32) * nI i) + nI j = nI (6 * i + j) := by
  rw [show (6 : Int32) = nI 6 from rfl, nI_mu, nI_add]
/-- the loops of sides -/
theorem r226l {Q : Int32 → rI0 → rJ0 → Prop} (h3 : gN g 3 ≤ 64) (e16 : ∀ s, s < 64 → bits5 (J 43 16) s = P s) (e17 : ∀ s, s < 64 → bits5 (J 43 17) s = H s) (hA1 : 1 ≤ A) (hA : A ≤ 6) (hB1 : 1 ≤ B) (hB : B ≤ 6) (hu : ulB g b 1 (A + B) = true) (f0 : FY I J I1 J) (r0 : RH g W I1 J) (h56 : ∀ q, q < A + B → I1 56 q = b (1 + q)) (k : ∀ I' J', FY I J I' J' → RH g W I' J' → I' 43 55 = 1 → I' 60 0 = nI (mxS (shN g W P H b A) (seS (shN g W P H b A) A B) A) → I' 60 1 = b (1 + fiS (shN g W P H b A) B A) → I' 60 2 = b (1 + (A + seS (shN g W P H b A) A B)) → Q (nI (mnS (shN g W P H b A) (fiS (shN g W P H b A) B A) B)) I' J') : wp S (d + 6) 226 87 [some (.ref 43), some (.int (nI A)), some (.int (nI B)), some (.int (-1)), some (.int (1000000000)), some (.int (0)), none, none, none] [] (wv x I1 J) (rI x Q) := by
  have hh : ∀ i j, shN g W P H b A i j ≤ 64 := fun _ _ => sh_l
  have se : ∀ q, q < A + B → ∃ s, s < 64 ∧ b (1 + q) = nI s ∧ seB g s = true := fun q hq => ulB_s hu hq
  have big : (1000000000 : Int32) = nI 1000000000 := rfl
  have two : ∀ (I3 : rI0) (J3 : rJ0), (∀ q, q < A + B → I3 56 q = b (1 + q)) → (∀ i j, i < A → j < B → I3 58 (6 * i + j) = nI (shN g W P H b A i j)) → I3 60 1 = b (1 + fiS (shN g W P H b A) B A) → ∀ (m j : Nat) (I4 : rI0), j + m = B → (∀ b, b ≠ 60 → I4 b = I3 b) → FY I J I4 J3 → RH g W I4 J3 → I4 60 1 = I3 60 1 → (0 < j → I4 60 2 = b (1 + (A + seS (shN g W P H b A) A j))) → wp S (d + 6) 226 214 [some (.ref 43), some (.int (nI A)), some (.int (nI B)), some (.int (nI (mnS (shN g W P H b A) (fiS (shN g W P H b A) B A) B))), some (.int (nI (if j = 0 then 1000000000 else mxS (shN g W P H b A) (seS (shN g W P H b A) A j) A))), some (.int (nI j)), none, none, none] [] (wv x I4 J3) (rI x Q) := by
    intro I3 J3 g56 h58 h1
    revert k hh h58 h1
    generalize shN g W P H b A = h
    intro k hh h58 h1 m
    induction m with
    | zero =>
      intro j I4 hj f4 fs rs e1 e2
      have hj : j = B := by omega
      subst hj
      rw [if_neg (by omega)]
      refine v226_43_214 ⟨fun q => absurd q (nI_nlt (Nat.le_refl _) (by omega)), fun _ => ⟨by decide, ?_⟩⟩
      refine k _ J3 (fs.s (Or.inr rfl)).e (rs.y (Or.inr rfl)).y5 ?_ ?_ ?_ ?_
      · unfold mSet va_up
        rw [if_pos rfl, if_pos rfl]
      · rw [mSet_ne (by decide)]
        unfold mSet va_up
        rw [if_pos rfl]
        exact if_pos rfl
      · rw [mSet_ne (by decide)]
        unfold mSet va_up
        rw [if_pos rfl]
        exact (if_neg (by decide)).trans (e1.trans h1)
      · rw [mSet_ne (by decide)]
        unfold mSet va_up
        rw [if_pos rfl]
        exact (if_neg (by decide)).trans (e2 (by omega))
    | succ m ih =>
      intro j I4 hj f4 fs rs e1 e2
      have mx : ∀ (q i : Nat), i + q = A → wp S (d + 6) 226 226 [some (.ref 43), some (.int (nI A)), some (.int (nI B)), some (.int (nI (mnS h (fiS h B A) B))), some (.int (nI (if j = 0 then 1000000000 else mxS h (seS h A j) A))), some (.int (nI j)), some (.int (nI (mxS h j i))), some (.int (nI i)), none] [] (wv x I4 J3) (rI x Q) := by
        intro q
        induction q with
        | zero =>
          intro i hi
          have hi : i = A := by omega
          subst hi
          have ml := mx_l (j := j) hh i
          have sl := mx_l (j := seS h i j) hh i
          have lt : nI (mxS h j i) < nI (if j = 0 then 1000000000 else mxS h (seS h i j) i) ↔ (j = 0 ∨ mxS h j i < mxS h (seS h i j) i) := by
            by_cases z : j = 0
            · rw [if_pos z]
              exact iff_of_true (nI_lt (by omega) (by omega)) (Or.inl z)
            · rw [if_neg z, nI_ltI (by omega) (by omega)]
              exact ⟨Or.inr, fun y => y.resolve_left z⟩
          have es : seS h i (j + 1) = if j = 0 ∨ mxS h j i < mxS h (seS h i j) i then j else seS h i j := rfl
          refine v226_43_226 ⟨fun w => absurd w (nI_nlt (Nat.le_refl _) (by omega)), fun _ => ⟨fun w => ⟨?_, by decide, ?_⟩, fun w => ?_⟩⟩
          · rw [nI_add]
            exact nI_in (by omega) (by omega)
          · rw [if_pos (lt.mp w)] at es
            rw [nI_add, nI_clamp (by omega), ← nI_succ, f4 56 (by decide), g56 (i + j) (by omega)]
            have i2 := ih (j + 1) (mSet I4 60 2 (b (1 + (i + j)))) (by omega) (fun b hb => (mSet_ne hb).trans (f4 b hb)) (fs.s (Or.inr rfl)) (rs.y (Or.inr rfl)) ?_ (fun _ => ?_)
            · rw [if_neg (by omega), es] at i2
              exact i2
            · unfold mSet va_up
              rw [if_pos rfl, if_neg (by decide)]
              exact e1
            · rw [es]
              unfold mSet va_up
              rw [if_pos rfl, if_pos rfl]
          · have nz := mt lt.mpr w
            rw [if_neg nz] at es
            have j0 : ¬ j = 0 := fun y => nz (Or.inl y)
            have i2 := ih (j + 1) I4 (by omega) f4 fs rs e1 (fun _ => by rw [es]; exact e2 (by omega))
            rw [if_neg (by omega), es] at i2
            rw [if_neg j0, ← nI_succ]
            exact i2
        | succ q ihq =>
          intro i hi
          have i2 := ihq (i + 1) (by omega)
          rw [show mxS h j (i + 1) = if mxS h j i < h i j then h i j else mxS h j i from rfl] at i2
          have ml := mx_l (j := j) hh i
          have hl := hh i j
          have io : ¬ mOut (nI (6 * i + j)) 256 := nI_in (by omega) (by omega)
          refine v226_43_226 ⟨fun _ => ?_, fun w => absurd (nI_lt (by omega) (by omega)) w⟩
          rw [i6_e (by omega) (by omega), nI_clamp (by omega), f4 58 (by decide), h58 i j (by omega) (by omega), ← nI_succ]
          refine ⟨io, fun y => ⟨io, ?_⟩, fun y => ?_⟩
          · rw [if_pos ((nI_ltI (by omega) (by omega)).mp y)] at i2
            exact i2
          · rw [if_neg (fun w => y (nI_lt w (by omega)))] at i2
            exact i2
      exact v226_43_214 ⟨fun _ => mx A 0 (by omega), fun q => absurd (nI_lt (by omega) (by omega)) q⟩
  have one : ∀ (m i : Nat) (I3 : rI0) (J3 : rJ0), i + m = A → FY I J I3 J3 → RH g W I3 J3 → (∀ q, q < A + B → I3 56 q = b (1 + q)) → (∀ i2 j, i2 < i → j < B → I3 58 (6 * i2 + j) = nI (shN g W P H b A i2 j)) → (0 < i → I3 60 1 = b (1 + fiS (shN g W P H b A) B i)) → wp S (d + 6) 226 87 [some (.ref 43), some (.int (nI A)), some (.int (nI B)), some (.int (if i = 0 then -1 else nI (mnS (shN g W P H b A) (fiS (shN g W P H b A) B i) B))), some (.int (1000000000)), some (.int (nI i)), none, none, none] [] (wv x I3 J3) (rI x Q) := by
    intro m
    induction m with
    | zero =>
      intro i I3 J3 hi f r g56 h58 h1
      have hi : i = A := by omega
      subst hi
      rw [if_neg (by omega)]
      exact v226_43_87 ⟨fun q => absurd q (nI_nlt (Nat.le_refl _) (by omega)), fun _ => two I3 J3 g56 (fun i2 j h3 h4 => h58 i2 j h3 h4) (h1 (by omega)) B 0 I3 (by omega) (fun _ _ => rfl) f r rfl (fun z => absurd z (by omega))⟩
    | succ m ih =>
      intro i I3 J3 hi f r g56 h58 h1
      have es : fiS (shN g W P H b A) B (i + 1) = if i = 0 ∨ mnS (shN g W P H b A) (fiS (shN g W P H b A) B i) B < mnS (shN g W P H b A) i B then i else fiS (shN g W P H b A) B i := rfl
      have inn : ∀ (q j : Nat) (I4 : rI0) (J4 : rJ0), j + q = B → FY I J I4 J4 → RH g W I4 J4 → (∀ q, q < A + B → I4 56 q = b (1 + q)) → (∀ i2 j2, i2 < i → j2 < B → I4 58 (6 * i2 + j2) = nI (shN g W P H b A i2 j2)) → (∀ j2, j2 < j → I4 58 (6 * i + j2) = nI (shN g W P H b A i j2)) → (0 < i → I4 60 1 = b (1 + fiS (shN g W P H b A) B i)) → wp S (d + 6) 226 101 [some (.ref 43), some (.int (nI A)), some (.int (nI B)), some (.int (if i = 0 then -1 else nI (mnS (shN g W P H b A) (fiS (shN g W P H b A) B i) B))), some (.int (1000000000)), some (.int (nI i)), some (.int (nI (if j = 0 then 1000000000 else mnS (shN g W P H b A) i j))), some (.int (nI j)), none] [] (wv x I4 J4) (rI x Q) := by
        intro q
        induction q with
        | zero =>
          intro j I4 J4 hj f4 r4 g56b h58a h58b h1b
          have hj : j = B := by omega
          subst hj
          rw [if_neg (show ¬ j = 0 by omega)]
          have ml := mn_l (h := shN g W P H b A) (i := i) j
          have ml2 := mn_l (h := shN g W P H b A) (i := fiS (shN g W P H b A) j i) j
          have lt : (if i = 0 then -1 else nI (mnS (shN g W P H b A) (fiS (shN g W P H b A) j i) j)) < nI (mnS (shN g W P H b A) i j) ↔ (i = 0 ∨ mnS (shN g W P H b A) (fiS (shN g W P H b A) j i) j < mnS (shN g W P H b A) i j) := by
            by_cases z : i = 0
            · rw [if_pos z]
              refine iff_of_true ?_ (Or.inl z)
              rw [Int32.lt_iff_toInt_lt, nI_toInt (by omega)]
              have e : (-1 : Int32).toInt = -1 := by decide
              omega
            · rw [if_neg z, nI_ltI (by omega) (by omega)]
              exact ⟨Or.inr, fun y => y.resolve_left z⟩
          have h58c : ∀ i2 j2, i2 < i + 1 → j2 < j → I4 58 (6 * i2 + j2) = nI (shN g W P H b A i2 j2) := fun i2 j2 h1 h2 => by
            by_cases y : i2 = i
            · rw [y]
              exact h58b j2 h2
            · exact h58a i2 j2 (by omega) h2
          refine v226_43_101 ⟨fun w => absurd w (nI_nlt (Nat.le_refl _) (by omega)), fun _ => ⟨fun w => ⟨nI_in (by omega) (by omega), by decide, ?_⟩, fun w => ?_⟩⟩
          · rw [if_pos (lt.mp w)] at es
            rw [nI_clamp (by omega), g56b i (by omega), ← nI_succ]
            have i3 := ih (i + 1) (mSet I4 60 1 (b (1 + i))) J4 (by omega) (f4.s (Or.inr rfl)) (r4.y (Or.inr rfl)) (fun q hq => by rw [mSet_ne (by decide)]; exact g56b q hq) (fun i2 j2 h1 h2 => by rw [mSet_ne (by decide)]; exact h58c i2 j2 h1 h2) (fun _ => by rw [es]; unfold mSet va_up; rw [if_pos rfl, if_pos rfl])
            rw [if_neg (by omega), es] at i3
            exact i3
          · have nz := mt lt.mpr w
            rw [if_neg nz] at es
            have i0 : ¬ i = 0 := fun y => nz (Or.inl y)
            have i3 := ih (i + 1) I4 J4 (by omega) f4 r4 g56b h58c (fun _ => by rw [es]; exact h1b (by omega))
            rw [if_neg (by omega), es] at i3
            rw [if_neg i0, ← nI_succ]
            exact i3
        | succ q ihq =>
          intro j I4 J4 hj f4 r4 g56b h58a h58b h1b
          obtain ⟨u, hu1, eu, hsu⟩ := se i (by omega)
          obtain ⟨w, hw1, ew, hsw⟩ := se (A + j) (by omega)
          refine v226_43_101 (d := d + 5) ⟨fun _ => ⟨nI_in (by omega) (by omega), ?_⟩, fun z => absurd (nI_lt (by omega) (by omega)) z⟩
          rw [nI_add, nI_clamp (by omega), nI_clamp (by omega), g56b i (by omega), g56b (A + j) (by omega), eu, ew]
          refine ⟨nI_in (by omega) (by omega), rht (d := d) (P := puB P u) (H := puB H w) r4 h3 (pu_e hu1 (fun s hs => by rw [f4.2.2.2.1 16 (by omega)]; exact e16 s hs)) (pu_e hw1 (fun s hs => by rw [f4.2.2.2.1 17 (by omega)]; exact e17 s hs)) (fun I5 J5 f5 r5 _ _ => ?_)⟩
          have er : hgt g W (puB P u) (puB H w) 60 = shN g W P H b A i j := by
            unfold shN
            rw [eu, ew, nI_tn (by omega), nI_tn (by omega)]
          have hl := hh i j
          have ml := mn_l (h := shN g W P H b A) (i := i) j
          rw [er, i6_e (by omega) (by omega), nI_clamp (by omega), ← nI_succ]
          have nx := ihq (j + 1) (mSet I5 58 (6 * i + j) (nI (shN g W P H b A i j))) J5 (by omega) ((f4.h f5).s (Or.inl rfl)) (r5.h.y (Or.inl rfl)) (fun q hq => by rw [mSet_ne (by decide), f5.1 56 (by decide) (by decide)]; exact g56b q hq) (fun i2 j2 h3 h4 => by
            unfold mSet va_up
            rw [if_pos rfl, if_neg (by omega), f5.1 58 (by decide) (by decide)]
            exact h58a i2 j2 h3 h4) (fun j2 h3 => by
            unfold mSet va_up
            rw [if_pos rfl]
            by_cases y : j2 = j
            · rw [y, if_pos rfl]
            · rw [if_neg (by omega), f5.1 58 (by decide) (by decide)]
              exact h58b j2 (by omega)) (fun h3 => by
            rw [mSet_ne (by decide), f5.1 60 (by decide) (by decide)]
            exact h1b h3)
          rw [if_neg (show ¬ j + 1 = 0 by omega), show mnS (shN g W P H b A) i (j + 1) = if shN g W P H b A i j < mnS (shN g W P H b A) i j then shN g W P H b A i j else mnS (shN g W P H b A) i j from rfl] at nx
          refine ⟨nI_in (by omega) (by omega), ?_⟩
          by_cases z : j = 0
          · have e0 : (if shN g W P H b A i j < mnS (shN g W P H b A) i j then shN g W P H b A i j else mnS (shN g W P H b A) i j) = shN g W P H b A i j := by
              have e : mnS (shN g W P H b A) i j = 64 := by
                rw [z]
                rfl
              rw [e]
              split <;> omega
            rw [e0] at nx
            rw [if_pos z]
            exact ⟨fun _ => nx, fun y => absurd (nI_lt (by omega) (by omega)) y⟩
          · rw [if_neg z]
            refine ⟨fun y => ?_, fun y => ?_⟩
            · rw [if_pos ((nI_ltI (by omega) (by omega)).mp y)] at nx
              exact nx
            · rw [if_neg (fun v => y (nI_lt v (by omega)))] at nx
              exact nx
      exact v226_43_87 ⟨fun _ => inn B 0 I3 J3 (by omega) f r g56 h58 (fun j2 h3 => absurd h3 (Nat.not_lt_zero _)) h1, fun q => absurd (nI_lt (by omega) (by omega)) q⟩
  exact one A 0 I1 J (by omega) f0 r0 h56 (fun i2 _ h3 => absurd h3 (Nat.not_lt_zero _)) (fun h3 => absurd h3 (by omega))
end TRB
end
section
/-! trials: sides, whole -/
section TRC
variable {S : Nat × (Nat → Int32)} {d : Nat} {x : mX} {I I1 I2 : rI0} {J J1 J2 : rJ0} {g b : Nat → Int32} {W : Nat → lV} {P H : Nat → Bool} {A B : Nat}
theorem n1_i {n a : Nat} (hn : n ≤ 940) (ha : a ≤ 255) : ((nI n - 1) - nI a).toInt = (n : Int) - 1 - (a : Int) := by
  have e1 : (1 : Int32).toInt = 1 := by decide
  rw [i_sub (i_sub (nI_toInt (by omega)) e1 (by omega)) (nI_toInt (by omega)) (by omega)]
theorem sd_l {n : Nat} (hb0 : 0 ≤ (b 0).toInt ∧ (b 0).toInt ≤ 255) : sdA b n ≤ 255 := by
  unfold sdA
  split <;> omega
/-- the class: sides -/
theorem xSides {n : Nat} {Q : Int32 → rI0 → rJ0 → Prop} (hC : CE g W P H I J) (hb0 : 0 ≤ (I 2 0).toInt ∧ (I 2 0).toInt ≤ 255) (e1 : I 1 1 = nI n) (hn : n ≤ 940) (k0 : sdB g (I 2) n = false → Q (-1) (mSet I 1 1 0) J) (k1 : sdB g (I 2) n = true → ∀ I' J', FS (mSet I 1 1 0) J I' J' → I' 37 9 = nI (mxS (shN g W P H (I 2) (sdA (I 2) n)) (seS (shN g W P H (I 2) (sdA (I 2) n)) (sdA (I 2) n) (n - 1 - sdA (I 2) n)) (sdA (I 2) n)) → I' 37 10 = I 2 (1 + fiS (shN g W P H (I 2) (sdA (I 2) n)) (n - 1 - sdA (I 2) n) (sdA (I 2) n)) → I' 37 11 = I 2 (1 + (sdA (I 2) n + seS (shN g W P H (I 2) (sdA (I 2) n)) (sdA (I 2) n) (n - 1 - sdA (I 2) n))) → Q (nI (mnS (shN g W P H (I 2) (sdA (I 2) n)) (fiS (shN g W P H (I 2) (sdA (I 2) n)) (n - 1 - sdA (I 2) n) (sdA (I 2) n)) (n - 1 - sdA (I 2) n))) I' J') : wcI S (d + 24) 125 [.ref 0] x I J Q := by
  have sl := sd_l (n := n) hb0
  have one : (1 : Int32).toInt = 1 := by decide
  have six : (6 : Int32).toInt = 6 := by decide
  have core : wp S (d + 24) 125 25 [some (.ref 0), some (.int (nI n)), none, none] [.int (nI (sdA (I 2) n))] (wv x (mSet I 1 1 0) J) (rI x Q) := by
    have no : ¬ (1 ≤ sdA (I 2) n ∧ sdA (I 2) n ≤ 6 ∧ sdA (I 2) n + 2 ≤ n ∧ n ≤ sdA (I 2) n + 7) → Q (-1) (mSet I 1 1 0) J := fun z => k0 (by
      unfold sdB
      rw [decide_eq_false z, Bool.false_and])
    have ni := n1_i hn sl
    refine v125_0_25 (d := d + 23) ⟨fun q => no ?_, fun q => ⟨fun q2 => no ?_, fun q2 => ⟨fun q3 => no ?_, fun q3 => ⟨fun q4 => no ?_, fun q4 => ?_⟩⟩⟩⟩
    · rw [Int32.lt_iff_toInt_lt, one, nI_toInt (by omega)] at q
      omega
    · rw [Int32.lt_iff_toInt_lt, six, nI_toInt (by omega)] at q2
      omega
    · rw [Int32.lt_iff_toInt_lt, one, ni] at q3
      omega
    · rw [Int32.lt_iff_toInt_lt, six, ni] at q4
      omega
    · rw [Int32.lt_iff_toInt_lt, one, nI_toInt (by omega)] at q
      rw [Int32.lt_iff_toInt_lt, six, nI_toInt (by omega)] at q2
      rw [Int32.lt_iff_toInt_lt, one, ni] at q3
      rw [Int32.lt_iff_toInt_lt, six, ni] at q4
      have hk : 1 ≤ sdA (I 2) n ∧ sdA (I 2) n ≤ 6 ∧ sdA (I 2) n + 2 ≤ n ∧ n ≤ sdA (I 2) n + 7 := by omega
      have hC1 := hC.tk
      refine c81x (d := d + 22) (g := g) (b := I 2) (a := 1) hC1.2.1.2.2.2.2.1 rfl (by omega) hn ?_
      have eb : sdB g (I 2) n = ulB g (I 2) 1 (n - 1) := by
        unfold sdB
        rw [decide_eq_true hk, Bool.true_and]
      rw [← eb]
      cases y : sdB g (I 2) n with
      | false => exact ⟨fun _ => k0 y, fun z => absurd rfl z⟩
      | true =>
        refine ⟨fun z => absurd z (by decide), fun _ => ?_⟩
        have kk := k1 y
        rw [y] at eb
        have en : n = 1 + (sdA (I 2) n + (n - 1 - sdA (I 2) n)) := by omega
        have en2 : n - 1 = sdA (I 2) n + (n - 1 - sdA (I 2) n) := by omega
        rw [en2] at eb
        have cc := c92x (S := S) (d := d) (x := x) (A := sdA (I 2) n) (B := n - 1 - sdA (I 2) n) (b := I 2) (Q := Q) hC1 rfl (by omega) (by omega) (by omega) (by omega) eb.symm kk
        rw [← en] at cc
        exact cc
  refine c125_0 (d := d + 23) (c67_1 ?_)
  rw [e1]
  by_cases z : n = 0
  · have ea : sdA (I 2) n = 0 := if_pos z
    rw [ea] at core
    exact ⟨fun q => absurd q (by rw [z]; decide), fun _ => core⟩
  · have ea : nI (sdA (I 2) n) = I 2 0 := by
      rw [show sdA (I 2) n = (I 2 0).toInt.toNat from if_neg z, ← Int32.toInt_inj, nI_toInt (by omega)]
      omega
    rw [ea] at core
    exact ⟨fun _ => ⟨by decide, core⟩, fun q => absurd (nI_lt (a := 0) (by omega) (by omega)) q⟩
/-- the reference: sides -/
theorem ySides {n : Nat} {Q : Int32 → rI0 → rJ0 → Prop} (hR : RH g W I J) (h3 : gN g 3 ≤ 64) (e16 : ∀ s, s < 64 → bits5 (J 43 16) s = P s) (e17 : ∀ s, s < 64 → bits5 (J 43 17) s = H s) (hb : ∀ i, i < 940 → I 44 i &&& 255 = b i) (hb0 : 0 ≤ (b 0).toInt ∧ (b 0).toInt ≤ 255) (e2 : I 43 2 = nI n) (hn : n ≤ 940) (k0 : sdB g b n = false → ∀ I', FU I J I' J → RH g W I' J → Q (-1) I' J) (k1 : sdB g b n = true → ∀ I' J', FY I J I' J' → RH g W I' J' → I' 43 55 = 1 → I' 60 0 = nI (mxS (shN g W P H b (sdA b n)) (seS (shN g W P H b (sdA b n)) (sdA b n) (n - 1 - sdA b n)) (sdA b n)) → I' 60 1 = b (1 + fiS (shN g W P H b (sdA b n)) (n - 1 - sdA b n) (sdA b n)) → I' 60 2 = b (1 + (sdA b n + seS (shN g W P H b (sdA b n)) (sdA b n) (n - 1 - sdA b n))) → Q (nI (mnS (shN g W P H b (sdA b n)) (fiS (shN g W P H b (sdA b n)) (n - 1 - sdA b n) (sdA b n)) (n - 1 - sdA b n))) I' J') : wcI S (d + 6) 226 [.ref 43] x I J Q := by
  have sl := sd_l (n := n) hb0
  have one : (1 : Int32).toInt = 1 := by decide
  have six : (6 : Int32).toInt = 6 := by decide
  have hR1 : RH g W (mSet I 43 0 0) J := hR.t
  have f0 : FT (mSet I 43 0 0) (mSet (mSet (mSet (mSet (mSet I 43 0 0) 43 3 (mSet I 43 0 0 43 2)) 43 2 0) 43 4 0) 43 5 940) := ⟨fun r h _ => by rw [mSet_ne h, mSet_ne h, mSet_ne h, mSet_ne h], fun q h _ => by unfold mSet va_up; rw [if_pos rfl, if_neg (by omega), if_pos rfl, if_neg (by omega), if_pos rfl, if_neg (by omega), if_pos rfl, if_neg (by omega)], rfl⟩
  have e3 : (mSet (mSet (mSet (mSet (mSet I 43 0 0) 43 3 (mSet I 43 0 0 43 2)) 43 2 0) 43 4 0) 43 5 940) 43 3 = nI n := e2
  refine c226_43 (d := d + 5) (c150_43 ?_)
  revert f0 e3
  generalize mSet (mSet (mSet (mSet (mSet I 43 0 0) 43 3 (mSet I 43 0 0 43 2)) 43 2 0) 43 4 0) 43 5 940 = T
  intro f0 e3
  have rT := hR1.ft f0
  have bT : ∀ i, i < 940 → T 44 i &&& 255 = b i := fun i hi => by
    rw [f0.1 44 (by decide) (by decide), mSet_ne (by decide)]
    exact hb i hi
  have core : wp S (d + 6) 226 28 [some (.ref 43), none, none, none, none, none, none, none, none] [.int (nI (sdA b n))] (wv x T J) (rI x Q) := by
    have no : ¬ (1 ≤ sdA b n ∧ sdA b n ≤ 6 ∧ sdA b n + 2 ≤ n ∧ n ≤ sdA b n + 7) → Q (-1) T J := fun z => k0 (by
      unfold sdB
      rw [decide_eq_false z, Bool.false_and]) T f0.u rT
    have ni := n1_i hn sl
    refine v226_43_28 (d := d + 5) (c151 ⟨fun q => ⟨fun _ => no ?_, fun z => absurd rfl z⟩, fun q => ⟨fun q2 => ⟨fun _ => no ?_, fun z => absurd rfl z⟩, fun q2 => ⟨fun z => absurd z (by decide), fun _ => ?_⟩⟩⟩)
    · rw [Int32.lt_iff_toInt_lt, one, nI_toInt (by omega)] at q
      omega
    · rw [Int32.lt_iff_toInt_lt, six, nI_toInt (by omega)] at q2
      omega
    · rw [e3]
      refine c151 ⟨fun q3 => ⟨fun _ => no ?_, fun z => absurd rfl z⟩, fun q3 => ⟨fun q4 => ⟨fun _ => no ?_, fun z => absurd rfl z⟩, fun q4 => ⟨fun z => absurd z (by decide), fun _ => ?_⟩⟩⟩
      · rw [Int32.lt_iff_toInt_lt, one, ni] at q3
        omega
      · rw [Int32.lt_iff_toInt_lt, six, ni] at q4
        omega
      · rw [Int32.lt_iff_toInt_lt, one, nI_toInt (by omega)] at q
        rw [Int32.lt_iff_toInt_lt, six, nI_toInt (by omega)] at q2
        rw [Int32.lt_iff_toInt_lt, one, ni] at q3
        rw [Int32.lt_iff_toInt_lt, six, ni] at q4
        have hk : 1 ≤ sdA b n ∧ sdA b n ≤ 6 ∧ sdA b n + 2 ≤ n ∧ n ≤ sdA b n + 7 := by omega
        rw [e3]
        refine r216x (a := 1) (b := b) (d := d + 3) rT.1 rT.2.1 rT.2.2.2.2.1 bT (by omega) hn (by omega) (fun I3 f1 f2 h47 => ?_)
        have f3 : FT (mSet I 43 0 0) I3 := ⟨fun r h1 h2 => (f1 r h1 h2).trans (f0.1 r h1 h2), fun q h1 h2 => (f2 q h2).trans (f0.2.1 q h1 h2), (f2 2 (by decide)).trans f0.2.2⟩
        have r3 := hR1.ft f3
        have eb : sdB g b n = ulB g b 1 (n - 1) := by
          unfold sdB
          rw [decide_eq_true hk, Bool.true_and]
        rw [← eb] at h47 ⊢
        cases y : sdB g b n with
        | false => exact ⟨fun _ => k0 y I3 f3.u r3, fun z => absurd rfl z⟩
        | true =>
          refine ⟨fun z => absurd z (by decide), fun _ => ?_⟩
          obtain ⟨e47, h56⟩ := h47 y
          have kk := k1 y
          rw [y] at eb
          have en2 : n - 1 = sdA b n + (n - 1 - sdA b n) := by omega
          have eB : I3 43 47 - nI (sdA b n) = nI (n - 1 - sdA b n) := by
            rw [e47, ← Int32.toInt_inj, i_sub (nI_toInt (by omega)) (nI_toInt (by omega)) (by omega), nI_toInt (by omega)]
            omega
          rw [eB]
          rw [en2] at eb
          exact r226l (d := d) (A := sdA b n) (B := n - 1 - sdA b n) (b := b) h3 e16 e17 (by omega) (by omega) (by omega) (by omega) eb.symm (f3.u).y r3 (fun q hq => h56 q (by omega)) kk
  by_cases z : n = 0
  · have ea : sdA b n = 0 := if_pos z
    rw [ea] at core
    exact ⟨fun _ => core, fun q => absurd (by rw [e3, z]; rfl) q⟩
  · have ea : nI (sdA b n) = b 0 := by
      rw [show sdA b n = (b 0).toInt.toNat from if_neg z, ← Int32.toInt_inj, nI_toInt (by omega)]
      omega
    rw [ea] at core
    refine ⟨fun q => absurd q ?_, fun _ => c155_43 ⟨by decide, ?_⟩⟩
    · rw [e3]
      exact fun w => z (nI_inj (c := 0) (by omega) (by omega) w)
    · have c0 : (0 : Int32).toNatClampNeg = 0 := by decide
      rw [c0, bT 0 (by omega)]
      exact core
end TRC
end
section
/-! two SEATS exchange their KINDS -/
section TRD
def swG (g : Nat → Int32) (u v k : Nat) : Int32 := if k = 6 + u then g (6 + v) else if k = 6 + v then g (6 + u) else g k
variable {S : Nat × (Nat → Int32)} {d : Nat} {x : mX} {I I1 I2 : rI0} {J J1 J2 : rJ0} {g b : Nat → Int32} {W : Nat → lV} {P H : Nat → Bool} {u v : Nat}
theorem sw_k {k : Nat} (hu : u < 64) (hv : v < 64) (h : k < 6 ∨ 70 ≤ k) : swG g u v k = g k := by
  unfold swG
  rw [if_neg (by omega), if_neg (by omega)]
theorem sw_n {k : Nat} (hu : u < 64) (hv : v < 64) (h : k < 6 ∨ 70 ≤ k) : gN (swG g u v) k = gN g k := by
  unfold gN
  rw [sw_k hu hv h]
theorem sw_c {s : Nat} : swG g u v (6 + s) = g (6 + (if s = u then v else if s = v then u else s)) := by
  unfold swG
  by_cases z : s = u
  · rw [if_pos (by omega), if_pos z]
  · rw [if_neg (by omega), if_neg z]
    by_cases y : s = v
    · rw [if_pos (by omega), if_pos y]
    · rw [if_neg (by omega), if_neg y]
theorem sw_se (hu : seB g u = true) (hv : seB g v = true) (s : Nat) : seB (swG g u v) s = seB g s := by
  have lu := seB_l hu
  have lv := seB_l hv
  unfold seB at hu hv ⊢
  rw [Bool.and_eq_true] at hu hv
  rw [sw_c]
  by_cases z : s = u
  · rw [if_pos z, z, hu.1, hu.2, hv.2]
  · rw [if_neg z]
    by_cases y : s = v
    · rw [if_pos y, y, hv.1, hv.2, hu.2]
    · rw [if_neg y]
theorem sw_kd {s : Nat} : kdN (swG g u v) s = kdN g (if s = u then v else if s = v then u else s) := by
  unfold kdN gN
  rw [sw_c]
theorem sw_ar (hu : seB g u = true) (hv : seB g v = true) (a s w : Nat) : arB (swG g u v) a s w = arB g a s w := by
  have lu := seB_l hu
  have lv := seB_l hv
  unfold arB
  rw [sw_n lu lv (Or.inl (by decide)), sw_n lu lv (Or.inl (by decide)), sw_se hu hv, sw_se hu hv]
theorem sw_tl (hu : u < 64) (hv : v < 64) (l : Nat) : tlB (swG g u v) l = tlB g l := by
  unfold tlB
  rw [sw_k hu hv (Or.inr (by omega))]
theorem sw_as {s : Nat} (hu : seB g u = true) (hv : seB g v = true) (hs : seB g s = true) : seB g (if s = u then v else if s = v then u else s) = true := by
  split
  · exact hv
  · split
    · exact hu
    · exact hs
theorem GA.sw (h : GA g) (hu : seB g u = true) (hv : seB g v = true) : GA (swG g u v) := by
  have lu := seB_l hu
  have lv := seB_l hv
  obtain ⟨h1, h2, h3, h4, h5, h6, h7, h8⟩ := h
  refine ⟨?_, ?_, ?_, ?_, fun s hs => ?_, ?_, fun i hi => ?_, fun i j hij hj => ?_⟩
  · rw [sw_n lu lv (Or.inl (by decide))]; exact h1
  · rw [sw_n lu lv (Or.inl (by decide))]; exact h2
  · rw [sw_n lu lv (Or.inl (by decide))]; exact h3
  · rw [sw_n lu lv (Or.inl (by decide))]; exact h4
  · rw [sw_se hu hv] at hs
    rw [sw_n lu lv (Or.inl (by decide)), sw_n lu lv (Or.inl (by decide)), sw_kd]
    exact ⟨(h5 s hs).1, (h5 _ (sw_as hu hv hs)).2⟩
  · rw [sw_n lu lv (Or.inr (by decide))]; exact h6
  · rw [sw_n lu lv (Or.inr (by decide))] at hi
    rw [sw_n lu lv (Or.inr (by omega)), sw_n lu lv (Or.inr (by omega)), sw_n lu lv (Or.inr (by omega)), sw_se hu hv]
    exact h7 i hi
  · rw [sw_n lu lv (Or.inr (by decide))] at hj
    rw [sw_n lu lv (Or.inr (by omega)), sw_n lu lv (Or.inr (by omega))]
    exact h8 i j hij hj
theorem GI.sw (h : GI g) (hu : seB g u = true) (hv : seB g v = true) : GI (swG g u v) := by
  have lu := seB_l hu
  have lv := seB_l hv
  obtain ⟨h1, h2, h3, h4, h5⟩ := h
  refine ⟨fun k hk => ?_, fun s hs => ?_, fun r hr => ?_, ?_, fun i hi => ?_⟩
  · rw [sw_n lu lv (Or.inl (by omega)), sw_k lu lv (Or.inl (by omega))]
    exact h1 k hk
  · have e : (if s = u then v else if s = v then u else s) < 64 := by
      split
      · exact lv
      · split <;> omega
    have t := h2 _ e
    unfold gN at t ⊢
    rw [sw_c]
    exact t
  · rw [sw_n lu lv (Or.inr (by omega)), sw_k lu lv (Or.inr (by omega)), sw_n lu lv (Or.inr (by omega)), sw_k lu lv (Or.inr (by omega))]
    exact h3 r hr
  · rw [sw_n lu lv (Or.inr (by decide)), sw_k lu lv (Or.inr (by decide))]
    exact h4
  · rw [sw_n lu lv (Or.inr (by decide))] at hi
    rw [sw_n lu lv (Or.inr (by omega)), sw_k lu lv (Or.inr (by omega)), sw_n lu lv (Or.inr (by omega)), sw_k lu lv (Or.inr (by omega)), sw_n lu lv (Or.inr (by omega)), sw_k lu lv (Or.inr (by omega))]
    exact h5 i hi
theorem LR.sw (h : LR g W) (hu : u < 64) (hv : v < 64) : LR (swG g u v) W := by
  intro l hl ht
  rw [sw_tl hu hv] at ht
  obtain ⟨R, h1, h2, h3, h4⟩ := h l hl ht
  refine ⟨R, h1, ?_, ?_, h4⟩
  · rw [sw_k hu hv (Or.inr (by omega))]
    exact h2
  · have e : (fun i => swG g u v (88 + 42 * l + i)) = fun i => g (88 + 42 * l + i) := funext (fun i => sw_k hu hv (Or.inr (by omega)))
    rw [e]
    exact h3
theorem AR.sw (h : AR g J) (hu : seB g u = true) (hv : seB g v = true) : AR (swG g u v) J := by
  intro s hs a ha w hw
  rw [sw_se hu hv] at hs
  rw [sw_ar hu hv]
  exact h s hs a ha w hw
theorem HM.sw (h : HM g W I J) (hu : seB g u = true) (hv : seB g v = true) (hi : ∀ b, b ≠ 5 → I1 b = I b) (hj : ∀ b, b ≠ 6 → J1 b = J b) (h6 : ∀ q, q < 6 → ∀ s, s < 64 → bits5 (J1 6 q) s = (seB g s && decide (kdN (swG g u v) s = q))) : HM (swG g u v) W I1 J1 := by
  have lu := seB_l hu
  have lv := seB_l hv
  obtain ⟨a1, a2, a3, a4, a5, a6, a7, a8, a9, a10, a11⟩ := h
  refine ⟨?_, ?_, ?_, ?_, fun s hs => ?_, fun q hq s hs => ?_, fun r hr => ?_, fun l hl => ?_, fun a ha s hs w hw => ?_, ?_, fun i hi2 => ?_⟩
  · rw [hi 4 (by decide), sw_n lu lv (Or.inl (by decide))]; exact a1
  · rw [hi 4 (by decide), sw_n lu lv (Or.inl (by decide))]; exact a2
  · rw [hi 4 (by decide), sw_n lu lv (Or.inl (by decide))]; exact a3
  · rw [hi 4 (by decide), sw_n lu lv (Or.inl (by decide))]; exact a4
  · rw [hj 4 (by decide), sw_se hu hv]; exact a5 s hs
  · rw [sw_se hu hv]; exact h6 q hq s hs
  · rw [hi 8 (by decide), sw_n lu lv (Or.inr (by omega))]; exact a7 r hr
  · rw [hi 9 (by decide), hi 10 (by decide), sw_tl lu lv]; exact a8 l hl
  · rw [sw_se hu hv] at hs
    rw [hj 11 (by decide), sw_ar hu hv]
    exact a9 a ha s hs w hw
  · rw [hi 3 (by decide), sw_n lu lv (Or.inr (by decide))]; exact a10
  · rw [sw_n lu lv (Or.inr (by decide))] at hi2
    rw [hi 12 (by decide), hi 13 (by decide), hi 14 (by decide), sw_n lu lv (Or.inr (by omega)), sw_n lu lv (Or.inr (by omega)), sw_n lu lv (Or.inr (by omega))]
    exact a11 i hi2
end TRD
end
section
/-! two SEATS exchange their KINDS, on both sides -/
section TRE
variable {S : Nat × (Nat → Int32)} {d : Nat} {x : mX} {I I1 I2 : rI0} {J J1 J2 : rJ0} {g b : Nat → Int32} {W : Nat → lV} {P H : Nat → Bool} {u v : Nat}
theorem seB_p {s : Nat} (h : seB g s = true) : 0 < (g (6 + s)).toInt := by
  unfold seB at h
  rw [Bool.and_eq_true, decide_eq_true_iff, decide_eq_true_iff] at h
  exact h.2
theorem sw_pos (hu : seB g u = true) (hv : seB g v = true) (s : Nat) : 0 < (swG g u v (6 + s)).toInt ↔ 0 < (g (6 + s)).toInt := by
  have pu := seB_p hu
  have pv := seB_p hv
  rw [sw_c]
  by_cases z : s = u
  · rw [if_pos z, z]
    exact iff_of_true pv pu
  · rw [if_neg z]
    by_cases y : s = v
    · rw [if_pos y, y]
      exact iff_of_true pu pv
    · rw [if_neg y]
theorem sw_cnt (hu : seB g u = true) (hv : seB g v = true) : ∀ n, cnt (swG g u v) n = cnt g n := by
  intro n
  induction n with
  | zero => rfl
  | succ n ih =>
    show cnt (swG g u v) n + (if 0 < (swG g u v (6 + n)).toInt then 1 else 0) = cnt g n + (if 0 < (g (6 + n)).toInt then 1 else 0)
    rw [ih]
    by_cases z : 0 < (g (6 + n)).toInt
    · rw [if_pos z, if_pos ((sw_pos hu hv n).mpr z)]
    · rw [if_neg z, if_neg (fun w => z ((sw_pos hu hv n).mp w))]
theorem HW.sw (h : HW g) (hu : seB g u = true) (hv : seB g v = true) : HW (swG g u v) := by
  have lu := seB_l hu
  have lv := seB_l hv
  obtain ⟨h1, h2, h3, h4, h5, h6⟩ := h
  refine ⟨?_, ?_, fun s hs => ?_, ?_, fun s hs hr => ?_, fun l hl => ?_⟩
  · rw [sw_k lu lv (Or.inl (by decide))]; exact h1
  · rw [sw_k lu lv (Or.inl (by decide))]; exact h2
  · rw [sw_c]
    refine h3 _ ?_
    split
    · exact lv
    · split <;> omega
  · rw [sw_k lu lv (Or.inl (by decide)), sw_cnt hu hv]; exact h4
  · rw [sw_k lu lv (Or.inl (by decide)), sw_k lu lv (Or.inl (by decide))] at hr
    have z := h5 s hs hr
    have a := (h3 s hs).1
    have n := mt (sw_pos hu hv s).mp (by omega)
    have e : (if s = u then v else if s = v then u else s) < 64 := by
      split
      · exact lv
      · split <;> omega
    have c := (h3 _ e).1
    rw [← sw_c (g := g) (u := u) (v := v) (s := s)] at c
    omega
  · have t := h6 l hl
    unfold LWo at t ⊢
    have e : (fun j => swG g u v (88 + 42 * l + j)) = fun j => g (88 + 42 * l + j) := funext (fun j => sw_k lu lv (Or.inr (by omega)))
    rw [e, sw_k lu lv (Or.inr (by omega))]
    exact t
theorem RH.sw (h : RH g W I J) (hu : seB g u = true) (hv : seB g v = true) (e : I1 45 = swG g u v) (e30 : I1 43 30 = I 43 30) : RH (swG g u v) W I1 J := ⟨h.1.sw hu hv, h.2.1.sw hu hv, h.2.2.1.sw hu hv, h.2.2.2.1.sw (seB_l hu) (seB_l hv), e, fun z => (h.2.2.2.2.2 (e30.symm.trans z)).sw hu hv⟩
/-- the reference -/
theorem r232x {Q : rI0 → rJ0 → Prop} (hu : u < 64) (hv : v < 64) (eg : I 45 = g) (k : ∀ I', (∀ b, b ≠ 45 → I' b = I b) → I' 45 = swG g u v → Q I' J) : wcV S d 232 [.ref 43, .int (nI u), .int (nI v)] x I J Q := by
  have a : ∀ n, (6 : Int32) + nI n = nI (6 + n) := fun n => by
    rw [show (6 : Int32) = nI 6 from rfl, nI_add]
  refine c232_43 ?_
  rw [a, a, nI_clamp (by omega), nI_clamp (by omega)]
  refine ⟨nI_in (by omega) (by omega), nI_in (by omega) (by omega), nI_in (by omega) (by omega), nI_in (by omega) (by omega), k _ (fun b hb => by rw [mSet_ne hb, mSet_ne hb]) (funext (fun n => ?_))⟩
  show mSet (mSet I 45 (6 + u) (I 45 (6 + v))) 45 (6 + v) (I 45 (6 + u)) 45 n = swG g u v n
  rw [eg]
  unfold mSet va_up swG
  rw [if_pos rfl, if_pos rfl]
  by_cases z : n = 6 + v
  · rw [if_pos z]
    by_cases y : n = 6 + u
    · rw [if_pos y, ← y, z]
    · rw [if_neg y, if_pos z]
  · rw [if_neg z, if_neg z]
    by_cases y : n = 6 + u
    · rw [if_pos y, if_pos y]
    · rw [if_neg y, if_neg y, eg]
/-- the class -/
theorem c30x {Q : rI0 → rJ0 → Prop} (hM : HM g W I J) (hu : seB g u = true) (hv : seB g v = true) (hk : ∀ s, seB g s = true → kdN g s < 6 ∧ I 5 s = nI (kdN g s)) (k : ∀ I' J', (∀ b, b ≠ 5 → I' b = I b) → (∀ b, b ≠ 6 → J' b = J b) → HM (swG g u v) W I' J' → (∀ s, I' 5 s = I 5 (if s = u then v else if s = v then u else s)) → Q I' J') : wcV S (d + 2) 30 [.ref 4, .int (nI u), .int (nI v)] x I J Q := by
  have lu := seB_l hu
  have lv := seB_l hv
  refine c30_4 (d := d + 1) ⟨nI_in (by omega) (by omega), nI_in (by omega) (by omega), ?_⟩
  rw [nI_clamp (by omega), nI_clamp (by omega)]
  refine sk_4 (d := d) lu (fun J1 f1 b1 => sk_4 (d := d) lv (fun J2 f2 b2 => ?_))
  have fi : ∀ b, b ≠ 5 → mSet (mSet I 5 u (I 5 v)) 5 v (I 5 u) b = I b := fun b hb => by rw [mSet_ne hb, mSet_ne hb]
  have fj : ∀ b, b ≠ 6 → J2 b = J b := fun b hb => (f2 b hb).trans (f1 b hb)
  refine k _ J2 fi fj (hM.sw hu hv fi fj (fun q hq s hs => ?_)) (fun s => ?_)
  · rw [b2 q hq s hs, b1 q hq s hs, sw_kd, (hk u hu).2, (hk v hv).2]
    have ku := (hk u hu).1
    have kv := (hk v hv).1
    have dd : ∀ n, n < 6 → decide (nI n = nI q) = decide (n = q) := fun n hn => decide_eq_decide.mpr ⟨fun w => nI_inj (by omega) (by omega) w, fun w => by rw [w]⟩
    by_cases y : s = v
    · rw [if_pos y, dd _ ku]
      by_cases z : s = u
      · rw [if_pos z, y, hv, Bool.true_and, ← y, z]
      · rw [if_neg z, if_pos y, y, hv, Bool.true_and]
    · rw [if_neg y]
      by_cases z : s = u
      · rw [if_pos z, if_pos z, dd _ kv, z, hu, Bool.true_and]
      · rw [if_neg z, if_neg z, if_neg y]
        exact hM.2.2.2.2.2.1 q hq s hs
  · show mSet (mSet I 5 u (I 5 v)) 5 v (I 5 u) 5 s = _
    unfold mSet va_up
    rw [if_pos rfl, if_pos rfl]
    by_cases y : s = v
    · rw [if_pos y]
      by_cases z : s = u
      · rw [if_pos z, ← y, z]
      · rw [if_neg z, if_pos y]
    · rw [if_neg y]
      by_cases z : s = u
      · rw [if_pos z, if_pos z]
      · rw [if_neg z, if_neg z, if_neg y]
end TRE
end
