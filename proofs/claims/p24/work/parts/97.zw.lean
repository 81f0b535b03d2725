/-! trials: two sides, the reference -/
section TRB
def sdA (b : Nat → Int32) (n : Nat) : Nat := if n = 0 then 0 else (b 0).toInt.toNat
def sdB (g b : Nat → Int32) (n : Nat) : Bool := decide (1 ≤ sdA b n ∧ sdA b n ≤ 6 ∧ sdA b n + 2 ≤ n ∧ n ≤ sdA b n + 7) && ulB g b 1 (n - 1)
variable {S : Nat × (Nat → Int32)} {d : Nat} {x : mX} {I I1 I2 : rI0} {J J1 J2 : rJ0} {g b : Nat → Int32} {W : Nat → lV} {P H : Nat → Bool} {A B : Nat}
/-- what sides of the reference leaves as it was -/
def FY (I : rI0) (J : rJ0) (I' : rI0) (J' : rJ0) : Prop := (∀ b, b ≠ 43 → b ≠ 50 → ¬ (56 ≤ b ∧ b ≤ 58) → b ≠ 60 → I' b = I b) ∧ (∀ q, q ≠ 0 → ¬ (2 ≤ q ∧ q ≤ 5) → q ≠ 30 → ¬ (42 ≤ q ∧ q ≤ 45) → q ≠ 47 → q ≠ 55 → I' 43 q = I 43 q) ∧ (∀ b, b ≠ 43 → ¬ (51 ≤ b ∧ b ≤ 55) → J' b = J b) ∧ (∀ q, ¬ (36 ≤ q ∧ q ≤ 41) → J' 43 q = J 43 q) ∧ I' 43 2 = 0
theorem FU.y (f : FU I J I1 J1) : FY I J I1 J1 := ⟨fun b h1 h2 h3 _ => f.1 b h1 h2 h3, fun q h1 h2 h3 h4 h5 _ => f.2.1 q h1 h2 h3 h4 h5, f.2.2.1, f.2.2.2.1, f.2.2.2.2⟩
theorem FY.h (f : FY I J I1 J1) (h : FH I1 J1 I2 J2) : FY I J I2 J2 := ⟨fun b h1 h2 h3 h4 => (h.1 b h1 h2).trans (f.1 b h1 h2 h3 h4), fun q h1 h2 h3 h4 h5 h6 => (h.2.1 q h3 h4).trans (f.2.1 q h1 h2 h3 h4 h5 h6), fun b h1 h2 => (h.2.2.1 b h1 h2).trans (f.2.2.1 b h1 h2), fun q h1 => (h.2.2.2 q h1).trans (f.2.2.2.1 q h1), (h.2.1 2 (by decide) (by omega)).trans f.2.2.2.2⟩
theorem FY.s {a q : Nat} {v : Int32} (f : FY I J I1 J1) (h : a = 58 ∨ a = 60) : FY I J (mSet I1 a q v) J1 := ⟨fun b h1 h2 h3 h4 => (mSet_ne (by omega)).trans (f.1 b h1 h2 h3 h4), fun q' h1 h2 h3 h4 h5 h6 => by rw [mSet_ne (by omega)]; exact f.2.1 q' h1 h2 h3 h4 h5 h6, f.2.2.1, f.2.2.2.1, by rw [mSet_ne (by omega)]; exact f.2.2.2.2⟩
theorem FY.e {v : Int32} (f : FY I J I1 J1) : FY I J (mSet I1 43 55 v) J1 := ⟨fun b h1 h2 h3 h4 => (mSet_ne h1).trans (f.1 b h1 h2 h3 h4), fun q' h1 h2 h3 h4 h5 h6 => by unfold mSet va_up; rw [if_pos rfl, if_neg h6]; exact f.2.1 q' h1 h2 h3 h4 h5 h6, f.2.2.1, f.2.2.2.1, by unfold mSet va_up; rw [if_pos rfl, if_neg (by decide)]; exact f.2.2.2.2⟩
theorem RH.y {a q : Nat} {v : Int32} (h : RH g W I J) (ha : a = 58 ∨ a = 60) : RH g W (mSet I a q v) J := ⟨h.1, h.2.1, h.2.2.1, h.2.2.2.1, (mSet_ne (by omega)).trans h.2.2.2.2.1, fun z => h.2.2.2.2.2 (by rw [mSet_ne (by omega)] at z; exact z)⟩
theorem RH.y5 {v : Int32} (h : RH g W I J) : RH g W (mSet I 43 55 v) J := ⟨h.1, h.2.1, h.2.2.1, h.2.2.2.1, (mSet_ne (by decide)).trans h.2.2.2.2.1, fun z => h.2.2.2.2.2 z⟩
theorem i6_e {i j : Nat} (hi : i < 6) (hj : j < 6) : ((6 : Int32) * nI i) + nI j = nI (6 * i + j) := by
  rw [show (6 : Int32) = nI 6 from rfl, nI_mu, nI_add]
/-- the loops of sides -/
theorem r226l {Q : Int32 → rI0 → rJ0 → Prop} (h3 : gN g 3 ≤ 64) (e16 : ∀ s, s < 64 → bits5 (J 43 16) s = P s) (e17 : ∀ s, s < 64 → bits5 (J 43 17) s = H s) (hA1 : 1 ≤ A) (hA : A ≤ 6) (hB1 : 1 ≤ B) (hB : B ≤ 6) (hu : ulB g b 1 (A + B) = true) (f0 : FY I J I1 J) (r0 : RH g W I1 J) (h56 : ∀ q, q < A + B → I1 56 q = b (1 + q)) (k : ∀ I' J', FY I J I' J' → RH g W I' J' → I' 43 55 = 1 → I' 60 0 = nI (mxS (shN g W P H b A) (seS (shN g W P H b A) A B) A) → I' 60 1 = b (1 + fiS (shN g W P H b A) B A) → I' 60 2 = b (1 + (A + seS (shN g W P H b A) A B)) → Q (nI (mnS (shN g W P H b A) (fiS (shN g W P H b A) B A) B)) I' J') : wp S (d + 6) 226 87 [some (.ref 43), some (.int (nI A)), some (.int (nI B)), some (.int (-1)), some (.int (1000000000)), some (.int (0)), none, none, none] [] (wv x I1 J) (rI x Q) := by
  have hh : ∀ i j, shN g W P H b A i j ≤ 64 := fun _ _ => sh_l
  have se : ∀ q, q < A + B → ∃ s, s < 64 ∧ b (1 + q) = nI s ∧ seB g s = true := fun q hq => ulB_s hu hq
  have big : (1000000000 : Int32) = nI 1000000000 := rfl
  have two : ∀ (I3 : rI0) (J3 : rJ0), (∀ q, q < A + B → I3 56 q = b (1 + q)) → (∀ i j, i < A → j < B → I3 58 (6 * i + j) = nI (shN g W P H b A i j)) → I3 60 1 = b (1 + fiS (shN g W P H b A) B A) → ∀ (m j : Nat) (I4 : rI0), j + m = B → (∀ b, b ≠ 60 → I4 b = I3 b) → FY I J I4 J3 → RH g W I4 J3 → I4 60 1 = I3 60 1 → (0 < j → I4 60 2 = b (1 + (A + seS (shN g W P H b A) A j))) → wp S (d + 6) 226 214 [some (.ref 43), some (.int (nI A)), some (.int (nI B)), some (.int (nI (mnS (shN g W P H b A) (fiS (shN g W P H b A) B A) B))), some (.int (nI (if j = 0 then 1000000000 else mxS (shN g W P H b A) (seS (shN g W P H b A) A j) A))), some (.int (nI j)), none, none, none] [] (wv x I4 J3) (rI x Q) := by
    intro I3 J3 g56 h58 h1
    revert k hh h58 h1
    generalize shN g W P H b A = h
    intro k hh h58 h1 m
    induction m with
    | zero =>
      intro j I4 hj f4 fs rs e1 e2
      have hj : j = B := by omega
      subst hj
      rw [if_neg (by omega)]
      refine v226_43_214 ⟨fun q => absurd q (nI_nlt (Nat.le_refl _) (by omega)), fun _ => ⟨by decide, ?_⟩⟩
      refine k _ J3 (fs.s (Or.inr rfl)).e (rs.y (Or.inr rfl)).y5 ?_ ?_ ?_ ?_
      · unfold mSet va_up
        rw [if_pos rfl, if_pos rfl]
      · rw [mSet_ne (by decide)]
        unfold mSet va_up
        rw [if_pos rfl]
        exact if_pos rfl
      · rw [mSet_ne (by decide)]
        unfold mSet va_up
        rw [if_pos rfl]
        exact (if_neg (by decide)).trans (e1.trans h1)
      · rw [mSet_ne (by decide)]
        unfold mSet va_up
        rw [if_pos rfl]
        exact (if_neg (by decide)).trans (e2 (by omega))
    | succ m ih =>
      intro j I4 hj f4 fs rs e1 e2
      have mx : ∀ (q i : Nat), i + q = A → wp S (d + 6) 226 226 [some (.ref 43), some (.int (nI A)), some (.int (nI B)), some (.int (nI (mnS h (fiS h B A) B))), some (.int (nI (if j = 0 then 1000000000 else mxS h (seS h A j) A))), some (.int (nI j)), some (.int (nI (mxS h j i))), some (.int (nI i)), none] [] (wv x I4 J3) (rI x Q) := by
        intro q
        induction q with
        | zero =>
          intro i hi
          have hi : i = A := by omega
          subst hi
          have ml := mx_l (j := j) hh i
          have sl := mx_l (j := seS h i j) hh i
          have lt : nI (mxS h j i) < nI (if j = 0 then 1000000000 else mxS h (seS h i j) i) ↔ (j = 0 ∨ mxS h j i < mxS h (seS h i j) i) := by
            by_cases z : j = 0
            · rw [if_pos z]
              exact iff_of_true (nI_lt (by omega) (by omega)) (Or.inl z)
            · rw [if_neg z, nI_ltI (by omega) (by omega)]
              exact ⟨Or.inr, fun y => y.resolve_left z⟩
          have es : seS h i (j + 1) = if j = 0 ∨ mxS h j i < mxS h (seS h i j) i then j else seS h i j := rfl
          refine v226_43_226 ⟨fun w => absurd w (nI_nlt (Nat.le_refl _) (by omega)), fun _ => ⟨fun w => ⟨?_, by decide, ?_⟩, fun w => ?_⟩⟩
          · rw [nI_add]
            exact nI_in (by omega) (by omega)
          · rw [if_pos (lt.mp w)] at es
            rw [nI_add, nI_clamp (by omega), ← nI_succ, f4 56 (by decide), g56 (i + j) (by omega)]
            have i2 := ih (j + 1) (mSet I4 60 2 (b (1 + (i + j)))) (by omega) (fun b hb => (mSet_ne hb).trans (f4 b hb)) (fs.s (Or.inr rfl)) (rs.y (Or.inr rfl)) ?_ (fun _ => ?_)
            · rw [if_neg (by omega), es] at i2
              exact i2
            · unfold mSet va_up
              rw [if_pos rfl, if_neg (by decide)]
              exact e1
            · rw [es]
              unfold mSet va_up
              rw [if_pos rfl, if_pos rfl]
          · have nz := mt lt.mpr w
            rw [if_neg nz] at es
            have j0 : ¬ j = 0 := fun y => nz (Or.inl y)
            have i2 := ih (j + 1) I4 (by omega) f4 fs rs e1 (fun _ => by rw [es]; exact e2 (by omega))
            rw [if_neg (by omega), es] at i2
            rw [if_neg j0, ← nI_succ]
            exact i2
        | succ q ihq =>
          intro i hi
          have i2 := ihq (i + 1) (by omega)
          rw [show mxS h j (i + 1) = if mxS h j i < h i j then h i j else mxS h j i from rfl] at i2
          have ml := mx_l (j := j) hh i
          have hl := hh i j
          have io : ¬ mOut (nI (6 * i + j)) 256 := nI_in (by omega) (by omega)
          refine v226_43_226 ⟨fun _ => ?_, fun w => absurd (nI_lt (by omega) (by omega)) w⟩
          rw [i6_e (by omega) (by omega), nI_clamp (by omega), f4 58 (by decide), h58 i j (by omega) (by omega), ← nI_succ]
          refine ⟨io, fun y => ⟨io, ?_⟩, fun y => ?_⟩
          · rw [if_pos ((nI_ltI (by omega) (by omega)).mp y)] at i2
            exact i2
          · rw [if_neg (fun w => y (nI_lt w (by omega)))] at i2
            exact i2
      exact v226_43_214 ⟨fun _ => mx A 0 (by omega), fun q => absurd (nI_lt (by omega) (by omega)) q⟩
  have one : ∀ (m i : Nat) (I3 : rI0) (J3 : rJ0), i + m = A → FY I J I3 J3 → RH g W I3 J3 → (∀ q, q < A + B → I3 56 q = b (1 + q)) → (∀ i2 j, i2 < i → j < B → I3 58 (6 * i2 + j) = nI (shN g W P H b A i2 j)) → (0 < i → I3 60 1 = b (1 + fiS (shN g W P H b A) B i)) → wp S (d + 6) 226 87 [some (.ref 43), some (.int (nI A)), some (.int (nI B)), some (.int (if i = 0 then -1 else nI (mnS (shN g W P H b A) (fiS (shN g W P H b A) B i) B))), some (.int (1000000000)), some (.int (nI i)), none, none, none] [] (wv x I3 J3) (rI x Q) := by
    intro m
    induction m with
    | zero =>
      intro i I3 J3 hi f r g56 h58 h1
      have hi : i = A := by omega
      subst hi
      rw [if_neg (by omega)]
      exact v226_43_87 ⟨fun q => absurd q (nI_nlt (Nat.le_refl _) (by omega)), fun _ => two I3 J3 g56 (fun i2 j h3 h4 => h58 i2 j h3 h4) (h1 (by omega)) B 0 I3 (by omega) (fun _ _ => rfl) f r rfl (fun z => absurd z (by omega))⟩
    | succ m ih =>
      intro i I3 J3 hi f r g56 h58 h1
      have es : fiS (shN g W P H b A) B (i + 1) = if i = 0 ∨ mnS (shN g W P H b A) (fiS (shN g W P H b A) B i) B < mnS (shN g W P H b A) i B then i else fiS (shN g W P H b A) B i := rfl
      have inn : ∀ (q j : Nat) (I4 : rI0) (J4 : rJ0), j + q = B → FY I J I4 J4 → RH g W I4 J4 → (∀ q, q < A + B → I4 56 q = b (1 + q)) → (∀ i2 j2, i2 < i → j2 < B → I4 58 (6 * i2 + j2) = nI (shN g W P H b A i2 j2)) → (∀ j2, j2 < j → I4 58 (6 * i + j2) = nI (shN g W P H b A i j2)) → (0 < i → I4 60 1 = b (1 + fiS (shN g W P H b A) B i)) → wp S (d + 6) 226 101 [some (.ref 43), some (.int (nI A)), some (.int (nI B)), some (.int (if i = 0 then -1 else nI (mnS (shN g W P H b A) (fiS (shN g W P H b A) B i) B))), some (.int (1000000000)), some (.int (nI i)), some (.int (nI (if j = 0 then 1000000000 else mnS (shN g W P H b A) i j))), some (.int (nI j)), none] [] (wv x I4 J4) (rI x Q) := by
        intro q
        induction q with
        | zero =>
          intro j I4 J4 hj f4 r4 g56b h58a h58b h1b
          have hj : j = B := by omega
          subst hj
          rw [if_neg (show ¬ j = 0 by omega)]
          have ml := mn_l (h := shN g W P H b A) (i := i) j
          have ml2 := mn_l (h := shN g W P H b A) (i := fiS (shN g W P H b A) j i) j
          have lt : (if i = 0 then -1 else nI (mnS (shN g W P H b A) (fiS (shN g W P H b A) j i) j)) < nI (mnS (shN g W P H b A) i j) ↔ (i = 0 ∨ mnS (shN g W P H b A) (fiS (shN g W P H b A) j i) j < mnS (shN g W P H b A) i j) := by
            by_cases z : i = 0
            · rw [if_pos z]
              refine iff_of_true ?_ (Or.inl z)
              rw [Int32.lt_iff_toInt_lt, nI_toInt (by omega)]
              have e : (-1 : Int32).toInt = -1 := by decide
              omega
            · rw [if_neg z, nI_ltI (by omega) (by omega)]
              exact ⟨Or.inr, fun y => y.resolve_left z⟩
          have h58c : ∀ i2 j2, i2 < i + 1 → j2 < j → I4 58 (6 * i2 + j2) = nI (shN g W P H b A i2 j2) := fun i2 j2 h1 h2 => by
            by_cases y : i2 = i
            · rw [y]
              exact h58b j2 h2
            · exact h58a i2 j2 (by omega) h2
          refine v226_43_101 ⟨fun w => absurd w (nI_nlt (Nat.le_refl _) (by omega)), fun _ => ⟨fun w => ⟨nI_in (by omega) (by omega), by decide, ?_⟩, fun w => ?_⟩⟩
          · rw [if_pos (lt.mp w)] at es
            rw [nI_clamp (by omega), g56b i (by omega), ← nI_succ]
            have i3 := ih (i + 1) (mSet I4 60 1 (b (1 + i))) J4 (by omega) (f4.s (Or.inr rfl)) (r4.y (Or.inr rfl)) (fun q hq => by rw [mSet_ne (by decide)]; exact g56b q hq) (fun i2 j2 h1 h2 => by rw [mSet_ne (by decide)]; exact h58c i2 j2 h1 h2) (fun _ => by rw [es]; unfold mSet va_up; rw [if_pos rfl, if_pos rfl])
            rw [if_neg (by omega), es] at i3
            exact i3
          · have nz := mt lt.mpr w
            rw [if_neg nz] at es
            have i0 : ¬ i = 0 := fun y => nz (Or.inl y)
            have i3 := ih (i + 1) I4 J4 (by omega) f4 r4 g56b h58c (fun _ => by rw [es]; exact h1b (by omega))
            rw [if_neg (by omega), es] at i3
            rw [if_neg i0, ← nI_succ]
            exact i3
        | succ q ihq =>
          intro j I4 J4 hj f4 r4 g56b h58a h58b h1b
          obtain ⟨u, hu1, eu, hsu⟩ := se i (by omega)
          obtain ⟨w, hw1, ew, hsw⟩ := se (A + j) (by omega)
          refine v226_43_101 (d := d + 5) ⟨fun _ => ⟨nI_in (by omega) (by omega), ?_⟩, fun z => absurd (nI_lt (by omega) (by omega)) z⟩
          rw [nI_add, nI_clamp (by omega), nI_clamp (by omega), g56b i (by omega), g56b (A + j) (by omega), eu, ew]
          refine ⟨nI_in (by omega) (by omega), rht (d := d) (P := puB P u) (H := puB H w) r4 h3 (pu_e hu1 (fun s hs => by rw [f4.2.2.2.1 16 (by omega)]; exact e16 s hs)) (pu_e hw1 (fun s hs => by rw [f4.2.2.2.1 17 (by omega)]; exact e17 s hs)) (fun I5 J5 f5 r5 _ _ => ?_)⟩
          have er : hgt g W (puB P u) (puB H w) 60 = shN g W P H b A i j := by
            unfold shN
            rw [eu, ew, nI_tn (by omega), nI_tn (by omega)]
          have hl := hh i j
          have ml := mn_l (h := shN g W P H b A) (i := i) j
          rw [er, i6_e (by omega) (by omega), nI_clamp (by omega), ← nI_succ]
          have nx := ihq (j + 1) (mSet I5 58 (6 * i + j) (nI (shN g W P H b A i j))) J5 (by omega) ((f4.h f5).s (Or.inl rfl)) (r5.h.y (Or.inl rfl)) (fun q hq => by rw [mSet_ne (by decide), f5.1 56 (by decide) (by decide)]; exact g56b q hq) (fun i2 j2 h3 h4 => by
            unfold mSet va_up
            rw [if_pos rfl, if_neg (by omega), f5.1 58 (by decide) (by decide)]
            exact h58a i2 j2 h3 h4) (fun j2 h3 => by
            unfold mSet va_up
            rw [if_pos rfl]
            by_cases y : j2 = j
            · rw [y, if_pos rfl]
            · rw [if_neg (by omega), f5.1 58 (by decide) (by decide)]
              exact h58b j2 (by omega)) (fun h3 => by
            rw [mSet_ne (by decide), f5.1 60 (by decide) (by decide)]
            exact h1b h3)
          rw [if_neg (show ¬ j + 1 = 0 by omega), show mnS (shN g W P H b A) i (j + 1) = if shN g W P H b A i j < mnS (shN g W P H b A) i j then shN g W P H b A i j else mnS (shN g W P H b A) i j from rfl] at nx
          refine ⟨nI_in (by omega) (by omega), ?_⟩
          by_cases z : j = 0
          · have e0 : (if shN g W P H b A i j < mnS (shN g W P H b A) i j then shN g W P H b A i j else mnS (shN g W P H b A) i j) = shN g W P H b A i j := by
              have e : mnS (shN g W P H b A) i j = 64 := by
                rw [z]
                rfl
              rw [e]
              split <;> omega
            rw [e0] at nx
            rw [if_pos z]
            exact ⟨fun _ => nx, fun y => absurd (nI_lt (by omega) (by omega)) y⟩
          · rw [if_neg z]
            refine ⟨fun y => ?_, fun y => ?_⟩
            · rw [if_pos ((nI_ltI (by omega) (by omega)).mp y)] at nx
              exact nx
            · rw [if_neg (fun v => y (nI_lt v (by omega)))] at nx
              exact nx
      exact v226_43_87 ⟨fun _ => inn B 0 I3 J3 (by omega) f r g56 h58 (fun j2 h3 => absurd h3 (Nat.not_lt_zero _)) h1, fun q => absurd (nI_lt (by omega) (by omega)) q⟩
  exact one A 0 I1 J (by omega) f0 r0 h56 (fun i2 _ h3 => absurd h3 (Nat.not_lt_zero _)) (fun h3 => absurd h3 (by omega))
end TRB
