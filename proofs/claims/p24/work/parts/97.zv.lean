/-! trials: two sides, the class -/
section TRA
def mnS (h : Nat → Nat → Nat) (i : Nat) : Nat → Nat
  | 0 => 64
  | j + 1 => if h i j < mnS h i j then h i j else mnS h i j
def mxS (h : Nat → Nat → Nat) (j : Nat) : Nat → Nat
  | 0 => 0
  | i + 1 => if mxS h j i < h i j then h i j else mxS h j i
/-- the first side's best, the second's -/
def fiS (h : Nat → Nat → Nat) (B : Nat) : Nat → Nat
  | 0 => 0
  | k + 1 => if k = 0 ∨ mnS h (fiS h B k) B < mnS h k B then k else fiS h B k
def seS (h : Nat → Nat → Nat) (A : Nat) : Nat → Nat
  | 0 => 0
  | k + 1 => if k = 0 ∨ mxS h k A < mxS h (seS h A k) A then k else seS h A k
variable {h : Nat → Nat → Nat} {A B : Nat}
theorem mn_l {i : Nat} : ∀ j, mnS h i j ≤ 64 := by
  intro j
  induction j with
  | zero => exact Nat.le_refl _
  | succ j ih =>
    show (if h i j < mnS h i j then h i j else mnS h i j) ≤ 64
    split <;> omega
theorem mx_l {j : Nat} (hh : ∀ i j, h i j ≤ 64) : ∀ i, mxS h j i ≤ 64 := by
  intro i
  induction i with
  | zero => exact Nat.zero_le _
  | succ i ih =>
    show (if mxS h j i < h i j then h i j else mxS h j i) ≤ 64
    have := hh i j
    split <;> omega
theorem fi_l : ∀ k, 0 < k → fiS h B k < k := by
  intro k
  induction k with
  | zero => intro z; omega
  | succ k ih =>
    intro _
    show (if k = 0 ∨ mnS h (fiS h B k) B < mnS h k B then k else fiS h B k) < k + 1
    split
    · omega
    · have := ih (by omega)
      omega
theorem se_l : ∀ k, 0 < k → seS h A k < k := by
  intro k
  induction k with
  | zero => intro z; omega
  | succ k ih =>
    intro _
    show (if k = 0 ∨ mxS h k A < mxS h (seS h A k) A then k else seS h A k) < k + 1
    split
    · omega
    · have := ih (by omega)
      omega
theorem nI_if {p q : Nat} (hp : p < 2 ^ 31) (hq : q < 2 ^ 31) : (if nI p < nI q then nI p else nI q) = nI (if p < q then p else q) := by
  by_cases z : p < q
  · rw [if_pos z, if_pos (nI_lt z hq)]
  · rw [if_neg z, if_neg (nI_nlt (by omega) (by omega))]
def puB (P : Nat → Bool) (u s : Nat) : Bool := P s || decide (s = u)
def shN (g : Nat → Int32) (W : Nat → lV) (P H : Nat → Bool) (b : Nat → Int32) (A i j : Nat) : Nat := hgt g W (puB P (b (1 + i)).toInt.toNat) (puB H (b (1 + (A + j))).toInt.toNat) 60
variable {S : Nat × (Nat → Int32)} {d : Nat} {x : mX} {I I1 I2 : rI0} {J J1 J2 : rJ0} {g b : Nat → Int32} {W : Nat → lV} {P H : Nat → Bool}
theorem sh_l {i j : Nat} : shN g W P H b A i j ≤ 64 := hgt_l
theorem pu_e {u : Nat} {v : Int64} (hu : u < 64) (e : ∀ s, s < 64 → bits5 v s = P s) : ∀ s, s < 64 → bits5 (v ||| ((1 : Int64) <<< ((nI u).toInt64 &&& 63))) s = puB P u s := by
  intro s hs
  unfold puB
  rw [b5_or, e s hs, b5_1 hu]
theorem pu_s {u : Nat} (hP : ∀ s, P s = true → seB g s = true) (hu : seB g u = true) : ∀ s, puB P u s = true → seB g s = true := by
  intro s z
  unfold puB at z
  rw [Bool.or_eq_true, decide_eq_true_iff] at z
  exact z.elim (hP s) (fun y => by rw [y]; exact hu)
/-- what sides of the class leaves as it was -/
def FS (I : rI0) (J : rJ0) (I' : rI0) (J' : rJ0) : Prop := (∀ b, b ≠ 37 → b ≠ 38 → b ≠ 41 → I' b = I b) ∧ (∀ q, ¬ (9 ≤ q ∧ q ≤ 11) → I' 37 q = I 37 q) ∧ ∀ b, b ≠ 41 → J' b = J b
theorem FS.rf : FS I J I J := ⟨fun _ _ _ _ => rfl, fun _ _ => rfl, fun _ _ => rfl⟩
theorem FS.n (f : FS I J I1 J1) (h : F41 I1 J1 I2 J2) : FS I J I2 J2 := ⟨fun b h1 h2 h3 => (h.1 b h3).trans (f.1 b h1 h2 h3), fun q hq => by rw [h.1 37 (by decide)]; exact f.2.1 q hq, fun b hb => (h.2 b hb).trans (f.2.2 b hb)⟩
theorem FS.s {q : Nat} {v : Int32} (f : FS I J I1 J1) : FS I J (mSet I1 38 q v) J1 := ⟨fun b h1 h2 h3 => (mSet_ne h2).trans (f.1 b h1 h2 h3), fun q' hq => by rw [mSet_ne (by decide)]; exact f.2.1 q' hq, f.2.2⟩
theorem FS.t {q : Nat} {v : Int32} (f : FS I J I1 J1) (hq : 9 ≤ q ∧ q ≤ 11) : FS I J (mSet I1 37 q v) J1 := ⟨fun b h1 h2 h3 => (mSet_ne h1).trans (f.1 b h1 h2 h3), fun q' hq' => by unfold mSet va_up; rw [if_pos rfl, if_neg (by omega)]; exact f.2.1 q' hq', f.2.2⟩
theorem CE.s (h : CE g W P H I J) (f : FS I J I1 J1) : CE g W P H I1 J1 := h.mv (fun b hb => f.1 b (by omega) (by omega) (by omega)) (fun b hb => f.2.2 b (by omega))
theorem ix_e {i j A : Nat} (hi : i < 6) (hj : j < 6) (hA : A ≤ 6) : ((nI (1 + i) * 8) + nI (1 + (A + j))) - nI A = nI (8 * i + j + 9) := by
  rw [show (8 : Int32) = nI 8 from rfl, nI_mu, nI_add, ← Int32.toInt_inj, i_sub (nI_toInt (by omega)) (nI_toInt (by omega)) (by omega), nI_toInt (by omega)]
  omega
theorem ix_j {i j : Nat} {i2 j2 : Nat} (hj : j < 6) (hj2 : j2 < 6) (e : 8 * i + j + 9 = 8 * i2 + j2 + 9) : i = i2 ∧ j = j2 := by omega
/-- the class: sidesOf -/
theorem c92x {Q : Int32 → rI0 → rJ0 → Prop} (hC : CE g W P H I J) (e2 : I 2 = b) (hA1 : 1 ≤ A) (hA : A ≤ 6) (hB1 : 1 ≤ B) (hB : B ≤ 6) (hu : ulB g b 1 (A + B) = true) (k : ∀ I' J', FS I J I' J' → I' 37 9 = nI (mxS (shN g W P H b A) (seS (shN g W P H b A) A B) A) → I' 37 10 = b (1 + fiS (shN g W P H b A) B A) → I' 37 11 = b (1 + (A + seS (shN g W P H b A) A B)) → Q (nI (mnS (shN g W P H b A) (fiS (shN g W P H b A) B A) B)) I' J') : wcI S (d + 23) 92 [.ref 37, .int (nI A), .int (nI (1 + (A + B)))] x I J Q := by
  have hh : ∀ i j, shN g W P H b A i j ≤ 64 := fun _ _ => sh_l
  have se : ∀ q, q < A + B → ∃ s, s < 64 ∧ b (1 + q) = nI s ∧ seB g s = true := fun q hq => ulB_s hu hq
  have two : ∀ (I3 : rI0) (J3 : rJ0), FS I J I3 J3 → (∀ i j, i < A → j < B → I3 38 (8 * i + j + 9) = nI (shN g W P H b A i j)) → I3 37 10 = b (1 + fiS (shN g W P H b A) B A) → ∀ (m j : Nat) (I4 : rI0), j + m = B → (∀ b, b ≠ 37 → I4 b = I3 b) → FS I J I4 J3 → I4 37 10 = I3 37 10 → I4 37 9 = (if j = 0 then 65 else nI (mxS (shN g W P H b A) (seS (shN g W P H b A) A j) A)) → (0 < j → I4 37 11 = b (1 + (A + seS (shN g W P H b A) A j))) → wp S (d + 23) 92 148 [some (.ref 37), some (.int (nI A)), some (.int (nI (1 + (A + B)))), some (.int (nI (mnS (shN g W P H b A) (fiS (shN g W P H b A) B A) B))), some (.int (nI (1 + (A + j)))), none, none, none, none, none, none, none] [] (wv x I4 J3) (rI x Q) := by
    intro I3 J3 f3 h38 h10
    revert k hh h38 h10
    generalize shN g W P H b A = h
    intro k hh h38 h10 m
    induction m with
    | zero =>
      intro j I4 hj f4 fs e10 e9 e11
      have hj : j = B := by omega
      subst hj
      rw [if_neg (by omega)] at e9
      exact v92_37_148 ⟨fun q => absurd q (nI_nlt (Nat.le_refl _) (by omega)), fun _ => k I4 J3 fs e9 (e10.trans h10) (e11 (by omega))⟩
    | succ m ih =>
      intro j I4 hj f4 fs e10 e9 e11
      have mx : ∀ (q i : Nat), i + q = A → wp S (d + 23) 92 160 [some (.ref 37), some (.int (nI A)), some (.int (nI (1 + (A + B)))), some (.int (nI (mnS h (fiS h B A) B))), some (.int (nI (1 + (A + j)))), some (.int (if i = 0 then -1 else nI (mxS h j i))), some (.int (nI (1 + i))), none, none, none, none, none] [] (wv x I4 J3) (rI x Q) := by
        intro q
        induction q with
        | zero =>
          intro i hi
          have hi : i = A := by omega
          subst hi
          rw [if_neg (by omega)]
          have ml := mx_l (j := j) hh i
          have sl := mx_l (j := seS h i j) hh i
          have lt : nI (mxS h j i) < I4 37 9 ↔ (j = 0 ∨ mxS h j i < mxS h (seS h i j) i) := by
            rw [e9]
            by_cases z : j = 0
            · rw [if_pos z]
              exact iff_of_true (nI_lt (b := 65) (by omega) (by omega)) (Or.inl z)
            · rw [if_neg z, nI_ltI (by omega) (by omega)]
              exact ⟨Or.inr, fun y => y.resolve_left z⟩
          have es : seS h i (j + 1) = if j = 0 ∨ mxS h j i < mxS h (seS h i j) i then j else seS h i j := rfl
          refine v92_37_160 ⟨fun _ => ⟨fun w => ⟨nI_in (by omega) (by omega), ?_⟩, fun w => ?_⟩, fun w => absurd (nI_lt (by omega) (by omega)) w⟩
          · rw [if_pos (lt.mp w)] at es
            rw [← nI_succ, nI_clamp (by omega), show 1 + (i + j) + 1 = 1 + (i + (j + 1)) by omega]
            refine ih (j + 1) _ (by omega) (fun b hb => by rw [mSet_ne hb, mSet_ne hb]; exact f4 b hb) ((fs.t (by omega)).t (by omega)) ?_ ?_ (fun _ => ?_)
            · show mSet (mSet I4 37 9 _) 37 11 _ 37 10 = _
              unfold mSet va_up
              rw [if_pos rfl, if_neg (by decide), if_pos rfl, if_neg (by decide)]
              exact e10
            · rw [if_neg (by omega), es]
              show mSet (mSet I4 37 9 _) 37 11 _ 37 9 = _
              unfold mSet va_up
              rw [if_pos rfl, if_neg (by decide), if_pos rfl, if_pos rfl]
            · rw [es]
              show mSet (mSet I4 37 9 _) 37 11 _ 37 11 = _
              unfold mSet va_up
              rw [if_pos rfl, if_pos rfl, f4 2 (by decide), f3.1 2 (by decide) (by decide) (by decide), e2]
          · have nz := mt lt.mpr w
            rw [if_neg nz] at es
            rw [← nI_succ, show 1 + (i + j) + 1 = 1 + (i + (j + 1)) by omega]
            have j0 : ¬ j = 0 := fun y => nz (Or.inl y)
            refine ih (j + 1) _ (by omega) f4 fs e10 ?_ (fun _ => ?_)
            · rw [if_neg (by omega), es]
              rw [if_neg j0] at e9
              exact e9
            · rw [es]
              exact e11 (by omega)
        | succ q ihq =>
          intro i hi
          have i2 := ihq (i + 1) (by omega)
          rw [if_neg (by omega), show mxS h j (i + 1) = if mxS h j i < h i j then h i j else mxS h j i from rfl] at i2
          have ml := mx_l (j := j) hh i
          have hl := hh i j
          refine v92_37_160 ⟨fun w => absurd w (nI_nlt (by omega) (by omega)), fun _ => ?_⟩
          rw [ix_e (by omega) (by omega) hA, nI_clamp (by omega), f4 38 (by decide), h38 i j (by omega) (by omega), ← nI_succ, show 1 + i + 1 = 1 + (i + 1) by omega]
          refine ⟨nI_in (by omega) (by omega), ?_⟩
          by_cases z : i = 0
          · rw [if_pos z]
            have e : (-1 : Int32) < nI (h i j) := by
              rw [Int32.lt_iff_toInt_lt, nI_toInt (by omega)]
              have e : (-1 : Int32).toInt = -1 := by decide
              omega
            rw [if_pos e]
            have e0 : (if mxS h j i < h i j then h i j else mxS h j i) = h i j := by
              rw [z, show mxS h j 0 = 0 from rfl]
              split <;> omega
            rw [e0] at i2
            exact i2
          · rw [if_neg z]
            by_cases y : mxS h j i < h i j
            · rw [if_pos (nI_lt y (by omega))]
              rw [if_pos y] at i2
              exact i2
            · rw [if_neg (nI_nlt (by omega) (by omega))]
              rw [if_neg y] at i2
              exact i2
      exact v92_37_148 ⟨fun _ => mx A 0 (by omega), fun q => absurd (nI_lt (by omega) (by omega)) q⟩
  have one : ∀ (m i : Nat) (I3 : rI0) (J3 : rJ0), i + m = A → FS I J I3 J3 → (∀ i2 j, i2 < i → j < B → I3 38 (8 * i2 + j + 9) = nI (shN g W P H b A i2 j)) → (0 < i → I3 37 10 = b (1 + fiS (shN g W P H b A) B i)) → wp S (d + 23) 92 5 [some (.ref 37), some (.int (nI A)), some (.int (nI (1 + (A + B)))), some (.int (if i = 0 then -1 else nI (mnS (shN g W P H b A) (fiS (shN g W P H b A) B i) B))), some (.int (nI (1 + i))), none, none, none, none, none, none, none] [] (wv x I3 J3) (rI x Q) := by
    intro m
    induction m with
    | zero =>
      intro i I3 J3 hi f h38 h10
      have hi : i = A := by omega
      subst hi
      rw [if_neg (by omega)]
      refine v92_37_5 ⟨fun _ => ?_, fun q => absurd (nI_lt (by omega) (by omega)) q⟩
      have t := two I3 J3 f (fun i2 j h1 h2 => h38 i2 j h1 h2) (h10 (by omega)) B 0 (mSet I3 37 9 65) (by omega) (fun b hb => mSet_ne hb) (f.t (by omega)) (by unfold mSet va_up; rw [if_pos rfl, if_neg (by decide)]) (by unfold mSet va_up; rw [if_pos rfl, if_pos rfl, if_pos rfl]) (fun z => absurd z (by omega))
      rw [← nI_succ, show i + 1 = 1 + (i + 0) by omega]
      exact t
    | succ m ih =>
      intro i I3 J3 hi f h38 h10
      have es : fiS (shN g W P H b A) B (i + 1) = if i = 0 ∨ mnS (shN g W P H b A) (fiS (shN g W P H b A) B i) B < mnS (shN g W P H b A) i B then i else fiS (shN g W P H b A) B i := rfl
      have inn : ∀ (q j : Nat) (I4 : rI0) (J4 : rJ0), j + q = B → FS I J I4 J4 → (∀ i2 j2, i2 < i → j2 < B → I4 38 (8 * i2 + j2 + 9) = nI (shN g W P H b A i2 j2)) → (∀ j2, j2 < j → I4 38 (8 * i + j2 + 9) = nI (shN g W P H b A i j2)) → (0 < i → I4 37 10 = b (1 + fiS (shN g W P H b A) B i)) → wp S (d + 23) 92 20 [some (.ref 37), some (.int (nI A)), some (.int (nI (1 + (A + B)))), some (.int (if i = 0 then -1 else nI (mnS (shN g W P H b A) (fiS (shN g W P H b A) B i) B))), some (.int (nI (1 + i))), some (.int (nI (mnS (shN g W P H b A) i j))), some (.int (nI (1 + (A + j)))), none, none, none, none, none] [] (wv x I4 J4) (rI x Q) := by
        intro q
        induction q with
        | zero =>
          intro j I4 J4 hj f4 h38a h38b h10b
          have hj : j = B := by omega
          subst hj
          have f2 : I4 2 = b := (f4.1 2 (by decide) (by decide) (by decide)).trans e2
          have ml := mn_l (h := shN g W P H b A) (i := i) j
          have ml2 := mn_l (h := shN g W P H b A) (i := fiS (shN g W P H b A) j i) j
          have lt : (if i = 0 then -1 else nI (mnS (shN g W P H b A) (fiS (shN g W P H b A) j i) j)) < nI (mnS (shN g W P H b A) i j) ↔ (i = 0 ∨ mnS (shN g W P H b A) (fiS (shN g W P H b A) j i) j < mnS (shN g W P H b A) i j) := by
            by_cases z : i = 0
            · rw [if_pos z]
              refine iff_of_true ?_ (Or.inl z)
              rw [Int32.lt_iff_toInt_lt, nI_toInt (by omega)]
              have e : (-1 : Int32).toInt = -1 := by decide
              omega
            · rw [if_neg z, nI_ltI (by omega) (by omega)]
              exact ⟨Or.inr, fun y => y.resolve_left z⟩
          have h38c : ∀ i2 j2, i2 < i + 1 → j2 < j → I4 38 (8 * i2 + j2 + 9) = nI (shN g W P H b A i2 j2) := fun i2 j2 h1 h2 => by
            by_cases y : i2 = i
            · rw [y]
              exact h38b j2 h2
            · exact h38a i2 j2 (by omega) h2
          refine v92_37_20 ⟨fun w => absurd w (nI_nlt (Nat.le_refl _) (by omega)), fun _ => ⟨fun w => ⟨nI_in (by omega) (by omega), ?_⟩, fun w => ?_⟩⟩
          · rw [if_pos (lt.mp w)] at es
            have i3 := ih (i + 1) (mSet I4 37 10 (b (1 + i))) J4 (by omega) (f4.t (by omega)) (fun i2 j2 h1 h2 => by rw [mSet_ne (by decide)]; exact h38c i2 j2 h1 h2) (fun _ => by rw [es]; unfold mSet va_up; rw [if_pos rfl, if_pos rfl])
            rw [if_neg (by omega), es] at i3
            rw [nI_clamp (by omega), f2, ← nI_succ]
            exact i3
          · have nz := mt lt.mpr w
            rw [if_neg nz] at es
            have i0 : ¬ i = 0 := fun y => nz (Or.inl y)
            have i3 := ih (i + 1) I4 J4 (by omega) f4 h38c (fun _ => by rw [es]; exact h10b (by omega))
            rw [if_neg (by omega), es] at i3
            rw [if_neg i0, ← nI_succ]
            exact i3
        | succ q ihq =>
          intro j I4 J4 hj f4 h38a h38b h10b
          have f2 : I4 2 = b := (f4.1 2 (by decide) (by decide) (by decide)).trans e2
          have hC4 := hC.s f4
          obtain ⟨u, hu1, eu, hsu⟩ := se i (by omega)
          obtain ⟨w, hw1, ew, hsw⟩ := se (A + j) (by omega)
          refine v92_37_20 (d := d + 22) ⟨fun _ => ⟨nI_in (by omega) (by omega), nI_in (by omega) (by omega), ?_⟩, fun z => absurd (nI_lt (by omega) (by omega)) z⟩
          rw [nI_clamp (by omega), nI_clamp (by omega), f2, eu, ew]
          refine ht_41 (d := d) (P := puB P u) (H := puB H w) hC4.1 hC4.2.1 (pu_s hC4.2.2.1 hsu) (pu_e hu1 hC4.2.2.2.1) (pu_e hw1 hC4.2.2.2.2.1) (fun I5 J5 r f5 h1 h2 => ?_)
          have er : r = shN g W P H b A i j := by
            have a := hgt_l (g := g) (W := W) (P := puB P u) (H := puB H w) (t := 60)
            have e : (64 : Int32).toInt = 64 := by decide
            rw [e] at h2
            unfold shN
            rw [eu, ew, nI_tn (by omega), nI_tn (by omega)]
            omega
          rw [er, ix_e (by omega) (by omega) hA, nI_clamp (by omega), nI_if (by have := hh i j; omega) (by have := mn_l (h := shN g W P H b A) (i := i) j; omega), ← nI_succ, show 1 + (A + j) + 1 = 1 + (A + (j + 1)) by omega]
          refine ⟨nI_in (by omega) (by omega), ihq (j + 1) (mSet I5 38 (8 * i + j + 9) (nI (shN g W P H b A i j))) J5 (by omega) ((f4.n f5).s) (fun i2 j2 h3 h4 => ?_) (fun j2 h3 => ?_) (fun h3 => ?_)⟩
          · unfold mSet va_up
            rw [if_pos rfl, if_neg (by omega), f5.1 38 (by decide)]
            exact h38a i2 j2 h3 h4
          · unfold mSet va_up
            rw [if_pos rfl]
            by_cases y : j2 = j
            · rw [y, if_pos rfl]
            · rw [if_neg (by omega), f5.1 38 (by decide)]
              exact h38b j2 (by omega)
          · rw [mSet_ne (by decide), f5.1 37 (by decide)]
            exact h10b h3
      refine v92_37_5 ⟨fun q => absurd q (nI_nlt (by omega) (by omega)), fun _ => ?_⟩
      have st := inn B 0 I3 J3 (by omega) f h38 (fun j2 h3 => absurd h3 (Nat.not_lt_zero _)) h10
      rw [← nI_succ, show A + 1 = 1 + (A + 0) by omega]
      exact st
  exact c92_37 (one A 0 I J (by omega) FS.rf (fun i2 _ h3 => absurd h3 (Nat.not_lt_zero _)) (fun h3 => absurd h3 (by omega)))
end TRA
