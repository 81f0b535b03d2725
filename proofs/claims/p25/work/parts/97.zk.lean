section
/-! hands: SEATS that the tape names, and their sets -/
section HN0
/-- m bytes from a on name SEATS, no two the same -/
def ulB (g b : Nat → Int32) (a : Nat) : Nat → Bool
  | 0 => true
  | m + 1 => ulB g b a m && (seI g (b (a + m)) && decide (nb (fun j => decide (b (a + j) = b (a + m))) m = 0))
def hSt (b : Nat → Int32) (n X u : Nat) : Bool := decide (0 < nb (fun i => X.testBit i && decide (b i = nI u)) n)
def psN (g b : Nat → Int32) (X : Nat) : Nat → Nat
  | 0 => 0
  | i + 1 => psN g b X i + (if X.testBit i = true then gN g (70 + (b i).toInt.toNat / gN g 1) else 0)
variable {S : Nat × (Nat → Int32)} {d : Nat} {x : mX} {I : rI0} {J : rJ0} {g b : Nat → Int32} {W : Nat → lV} {P H : Nat → Bool}
theorem ulB_f {a m : Nat} (h : ulB g b a m = false) : ∀ k, m ≤ k → ulB g b a k = false := by
  intro k hk
  induction k with
  | zero =>
    rw [show m = 0 by omega] at h
    exact h
  | succ k ih =>
    by_cases z : m = k + 1
    · rw [← z]
      exact h
    · show (ulB g b a k && _) = false
      rw [ih (by omega)]
      rfl
theorem ulB_s {a m i : Nat} (h : ulB g b a m = true) (hi : i < m) : ∃ s, s < 64 ∧ b (a + i) = nI s ∧ seB g s = true := by
  induction m with
  | zero => exact absurd hi (by omega)
  | succ m ih =>
    have h : (ulB g b a m && (seI g (b (a + m)) && decide (nb (fun j => decide (b (a + j) = b (a + m))) m = 0))) = true := h
    rw [Bool.and_eq_true, Bool.and_eq_true] at h
    by_cases z : i = m
    · rw [z]
      exact seI_t h.2.1
    · exact ih h.1 (by omega)
/-- the class: areUnlikeSeats -/
theorem c81x {a n : Nat} {Q : Int32 → rI0 → rJ0 → Prop} (hb : ∀ s, s < 64 → bits5 (J 4 5) s = seB g s) (e2 : I 2 = b) (ha : a ≤ n) (hn : n ≤ 940) (k : Q (nI (if ulB g b a (n - a) = true then 1 else 0)) I J) : wcI S (d + 1) 81 [.ref 37, .int (nI a), .int (nI n)] x I J Q := by
  have no : ∀ m, m ≤ n - a → ulB g b a m = false → Q 0 I J := by
    intro m hm h
    rw [ulB_f h (n - a) hm] at k
    exact k
  have lp : ∀ (j m : Nat) (l3 : Int64), a + m + j = n → ulB g b a m = true → (∀ u, u < 64 → bits5 l3 u = decide (0 < nb (fun j => decide (b (a + j) = nI u)) m)) → wp S (d + 1) 81 5 [some (.ref 37), some (.int (nI a)), some (.int (nI n)), some (.long l3), none, some (.int (nI (a + m)))] [] (wv x I J) (rI x Q) := by
    intro j
    induction j with
    | zero =>
      intro m l3 hm hu hl
      rw [show n - a = m by omega, hu] at k
      exact v81_37_5 ⟨fun q => absurd q (nI_nlt (by omega) (by omega)), fun _ => k⟩
    | succ j ih =>
      intro m l3 hm hu hl
      have us : ulB g b a (m + 1) = (seI g (b (a + m)) && decide (nb (fun j => decide (b (a + j) = b (a + m))) m = 0)) := by
        show (ulB g b a m && _) = _
        rw [hu, Bool.true_and]
      have io : ¬ mOut (nI (a + m)) 940 := nI_in (by omega) (by omega)
      refine v81_37_5 ⟨fun _ => ⟨io, ?_⟩, fun q => absurd (nI_lt (by omega) (by omega)) q⟩
      rw [nI_clamp (by omega), e2]
      refine cIs hb (fun s hs es hse hsi => ⟨fun z => absurd z (by decide), fun _ => ⟨io, ?_⟩⟩) (fun hsi => ⟨fun _ => no (m + 1) (by omega) (by rw [us, hsi]; rfl), fun z => absurd rfl z⟩)
      rw [hsi, Bool.true_and] at us
      rw [es] at us
      rw [e2, es]
      refine bO hs ?_
      rw [hl s hs]
      by_cases z : 0 < nb (fun j => decide (b (a + j) = nI s)) m
      · rw [decide_eq_true z]
        refine ⟨fun _ => no (m + 1) (by omega) (by rw [us]; exact decide_eq_false (by omega)), fun y => absurd rfl y⟩
      · rw [decide_eq_false z]
        refine ⟨fun y => absurd y (by decide), fun _ => ⟨io, ?_⟩⟩
        rw [e2, es, ← nI_succ]
        refine ih (m + 1) _ (by omega) (by rw [us]; exact decide_eq_true (by omega)) (fun u hu2 => ?_)
        rw [b5_or, hl u hu2, b5_1 hs, nb_s, es, ← Bool.decide_or]
        refine decide_eq_decide.mpr ?_
        by_cases y : u = s
        · rw [y, decide_eq_true (show nI s = nI s from rfl), if_pos rfl]
          exact iff_of_true (Or.inr rfl) (by omega)
        · rw [decide_eq_false (show ¬ nI s = nI u from fun w => y (nI_ij (by omega) (by omega) w).symm), if_neg (by decide)]
          exact ⟨fun w => w.elim (fun v => by omega) (fun v => absurd v y), fun w => Or.inl (by omega)⟩
  exact c81_37 (lp (n - a) 0 0 (by omega) rfl (fun u hu => by rw [b5_0]; rfl))
/-- the class: areHands -/
theorem c80x {n : Nat} {Q : Int32 → rI0 → rJ0 → Prop} (hb : ∀ s, s < 64 → bits5 (J 4 5) s = seB g s) (e2 : I 2 = b) (hn : n ≤ 940) (k : Q (nI (if (decide (1 ≤ n ∧ n ≤ 8) && ulB g b 0 n) = true then 1 else 0)) I J) : wcI S (d + 2) 80 [.ref 37, .int (nI n)] x I J Q := by
  refine c80_37 ⟨fun q => ?_, fun q => ⟨fun q2 => ?_, fun q2 => c81x (a := 0) (d := d) hb e2 (Nat.zero_le _) hn ?_⟩⟩
  · have q := (nI_ltI (b := 1) (by omega) (by omega)).mp q
    rw [decide_eq_false (by omega), Bool.false_and] at k
    exact k
  · have q2 := (nI_ltI (a := 8) (by omega) (by omega)).mp q2
    rw [decide_eq_false (by omega), Bool.false_and] at k
    exact k
  · have q : ¬ n < 1 := fun z => q (nI_lt (b := 1) z (by omega))
    have q2 : ¬ 8 < n := fun z => q2 (nI_lt (a := 8) z (by omega))
    rw [decide_eq_true (by omega), Bool.true_and] at k
    cases y : ulB g b 0 (n - 0) with
    | false =>
      rw [show n - 0 = n by omega] at y
      rw [y] at k
      exact ⟨fun _ => k, fun z => absurd rfl z⟩
    | true =>
      rw [show n - 0 = n by omega] at y
      rw [y] at k
      exact ⟨fun z => absurd z (by decide), fun _ => k⟩
theorem hSt_s {n X u : Nat} : hSt b (n + 1) X u = (hSt b n X u || (X.testBit n && decide (b n = nI u))) := by
  unfold hSt
  rw [nb_s]
  cases y : (X.testBit n && decide (b n = nI u)) with
  | true =>
    rw [Bool.or_true, if_pos rfl]
    exact decide_eq_true (by omega)
  | false =>
    rw [Bool.or_false, if_neg (by decide)]
    rfl
theorem hSt_se {n X u : Nat} (h : ulB g b 0 n = true) (hu : hSt b n X u = true) (h64 : u < 64) : seB g u = true := by
  unfold hSt at hu
  obtain ⟨i, hi, e⟩ := (nb_pos n).mp (of_decide_eq_true hu)
  rw [Bool.and_eq_true, decide_eq_true_iff] at e
  obtain ⟨s, hs, e2, e3⟩ := ulB_s h hi
  rw [Nat.zero_add, e.2] at e2
  rw [nI_ij (by omega) (by omega) e2]
  exact e3
theorem put_h {l : Int64} {n X s : Nat} (hs : s < 64) (e : b n = nI s) (ht : X.testBit n = true) (h : ∀ u, u < 64 → bits5 l u = hSt b n X u) : ∀ u, u < 64 → bits5 (l ||| ((1 : Int64) <<< ((nI s).toInt64 &&& 63))) u = hSt b (n + 1) X u := by
  intro u hu
  rw [b5_or, h u hu, b5_1 hs, hSt_s, ht, e, Bool.true_and]
  congr 1
  exact decide_eq_decide.mpr ⟨fun w => by rw [w], fun w => (nI_ij (by omega) (by omega) w).symm⟩
theorem skip_h {l : Int64} {n X : Nat} (ht : ¬ X.testBit n = true) (h : ∀ u, u < 64 → bits5 l u = hSt b n X u) : ∀ u, u < 64 → bits5 l u = hSt b (n + 1) X u := by
  intro u hu
  rw [h u hu, hSt_s, ts_nt ht, Bool.false_and, Bool.or_false]
/-- the class: seatsOf -/
theorem c82x {n X : Nat} {Q : Int64 → rI0 → rJ0 → Prop} (e2 : I 2 = b) (hn : n ≤ 8) (hX : X < 256) (hu : ulB g b 0 n = true) (k : ∀ v, (∀ u, u < 64 → bits5 v u = hSt b n X u) → Q v I J) : wcJ S d 82 [.ref 37, .int (nI X), .int (nI n)] x I J Q := by
  have lp : ∀ (j i : Nat) (l : Int64), i + j = n → (∀ u, u < 64 → bits5 l u = hSt b i X u) → wp S d 82 5 [some (.ref 37), some (.int (nI X)), some (.int (nI n)), some (.long l), none, some (.int (nI i))] [] (wv x I J) (rJ x Q) := by
    intro j
    induction j with
    | zero =>
      intro i l hi h
      have hi : i = n := by omega
      subst hi
      exact v82_37_5 ⟨fun q => absurd q (nI_nlt (Nat.le_refl _) (by omega)), fun _ => k l h⟩
    | succ j ih =>
      intro i l hi h
      refine v82_37_5 ⟨fun _ => ⟨fun q => ?_, fun q => ⟨nI_in (by omega) (by omega), ?_⟩⟩, fun q => absurd (nI_lt (by omega) (by omega)) q⟩
      · have q := (hcu_n hX (by omega)).mp q
        rw [← nI_succ]
        exact ih (i + 1) l (by omega) (skip_h q h)
      · have q : X.testBit i = true := Classical.not_not.mp (fun w => q ((hcu_n hX (by omega)).mpr w))
        obtain ⟨s, hs, es, -⟩ := ulB_s hu (show i < n by omega)
        rw [Nat.zero_add] at es
        rw [nI_clamp (by omega), e2, es, ← nI_succ]
        exact ih (i + 1) _ (by omega) (put_h hs es q h)
  exact c82_37 (lp n 0 0 (by omega) (fun u hu => by rw [b5_0]; rfl))
theorem psN_l {X : Nat} (hp : ∀ r, r < 8 → gN g (70 + r) ≤ 999) (hG : GA g) : ∀ n, ulB g b 0 n = true → psN g b X n ≤ 999 * n := by
  intro n
  induction n with
  | zero => intro _; exact Nat.le_refl _
  | succ n ih =>
    intro h
    have h1 : ulB g b 0 n = true := by
      have h : (ulB g b 0 n && _) = true := h
      rw [Bool.and_eq_true] at h
      exact h.1
    obtain ⟨s, hs, es, hse⟩ := ulB_s h (show n < n + 1 by omega)
    rw [Nat.zero_add] at es
    have ih := ih h1
    have hr := (seC hG hse).2.1
    have := hp (s / gN g 1) (by have := hG.1; omega)
    show psN g b X n + (if X.testBit n = true then gN g (70 + (b n).toInt.toNat / gN g 1) else 0) ≤ _
    rw [es, nI_tn (by omega)]
    split <;> omega
/-- the class: rowOf, priceOf -/
theorem c26x {s : Nat} {Q : Int32 → rI0 → rJ0 → Prop} (hG : GA g) (hM : HM g W I J) (hP : ∀ r, r < 8 → I 7 r = nI (gN g (70 + r))) (hse : seB g s = true) (k : Q (nI (gN g (70 + s / gN g 1))) I J) : wcI S (d + 2) 26 [.ref 4, .int (nI s)] x I J Q := by
  obtain ⟨hc, hr, hm⟩ := seC hG hse
  have hs := seB_l hse
  have sl := (hG.2.2.2.2.1 s hse).1
  have h8 := hG.1
  have h8c := hG.2.1
  have hRC : gN g 0 * gN g 1 ≤ 64 := Nat.le_trans (Nat.mul_le_mul h8 h8c) (by omega)
  have e1 : nI s / nI (gN g 1) = nI (s / gN g 1) := by
    rw [← Int32.toInt_inj, (i_div (nI_toInt (show s < 2 ^ 31 by omega)) (nI_toInt (show gN g 1 < 2 ^ 31 by omega)) (by omega) (by omega)).1, nI_toInt (by omega)]
    exact (Int.natCast_ediv s (gN g 1)).symm
  refine c26_4 (c25_4 ⟨fun _ => ⟨fun q => absurd q (nI_nlt (b := 0) (by omega) (by omega)), fun _ => c23_4 ⟨fun _ => ⟨?_, ?_, ?_⟩, fun q => absurd ?_ q⟩⟩, fun q => absurd ?_ q⟩)
  · rw [hM.2.1]
    exact fun z => absurd (nI_ij (b := 0) (by omega) (by omega) z) (by omega)
  · rw [hM.2.1, e1]
    exact nI_in (by omega) (by omega)
  · rw [hM.2.1, e1, nI_clamp (by omega), hP _ (by omega)]
    exact k
  · rw [hM.1, hM.2.1, nI_mu]
    exact nI_lt sl (by omega)
  · rw [hM.2.1]
    exact nI_lt (a := 0) hc (by omega)
/-- the class: priceOfSet -/
theorem c83x {n X : Nat} {Q : Int32 → rI0 → rJ0 → Prop} (hG : GA g) (hM : HM g W I J) (hP : ∀ r, r < 8 → I 7 r = nI (gN g (70 + r))) (e2 : I 2 = b) (hn : n ≤ 8) (hX : X < 256) (hu : ulB g b 0 n = true) (k : Q (nI (psN g b X n)) I J) : wcI S (d + 3) 83 [.ref 37, .int (nI X), .int (nI n)] x I J Q := by
  have lp : ∀ (j i : Nat), i + j = n → wp S (d + 3) 83 5 [some (.ref 37), some (.int (nI X)), some (.int (nI n)), some (.int (nI (psN g b X i))), some (.int (nI i))] [] (wv x I J) (rI x Q) := by
    intro j
    induction j with
    | zero =>
      intro i hi
      have hi : i = n := by omega
      subst hi
      exact v83_37_5 ⟨fun q => absurd q (nI_nlt (Nat.le_refl _) (by omega)), fun _ => k⟩
    | succ j ih =>
      intro i hi
      have i2 := ih (i + 1) (by omega)
      rw [show psN g b X (i + 1) = psN g b X i + (if X.testBit i = true then gN g (70 + (b i).toInt.toNat / gN g 1) else 0) from rfl] at i2
      refine v83_37_5 (d := d + 2) ⟨fun _ => ⟨fun q => ?_, fun q => ⟨nI_in (by omega) (by omega), ?_⟩⟩, fun q => absurd (nI_lt (by omega) (by omega)) q⟩
      · have q := (hcu_n hX (by omega)).mp q
        rw [if_neg q] at i2
        rw [← nI_succ]
        exact i2
      · have q : X.testBit i = true := Classical.not_not.mp (fun w => q ((hcu_n hX (by omega)).mpr w))
        obtain ⟨s, hs, es, hse⟩ := ulB_s hu (show i < n by omega)
        rw [Nat.zero_add] at es
        rw [if_pos q, es, nI_tn (by omega)] at i2
        rw [nI_clamp (by omega), e2, es]
        refine c26x (d := d) hG hM hP hse ?_
        rw [nI_add, ← nI_succ]
        exact i2
  exact c83_37 (lp n 0 (by omega))
/-! the reference -/
theorem r216x {a n : Nat} {Q : Int32 → rI0 → rJ0 → Prop} (hG : GA g) (hI : GI g) (eg : I 45 = g) (hb : ∀ i, i < 940 → I 44 i &&& 255 = b i) (ha : a ≤ n) (hn : n ≤ 940) (h14 : n - a ≤ 14) (k : ∀ I', (∀ r, r ≠ 43 → r ≠ 56 → I' r = I r) → (∀ q, q ≠ 47 → I' 43 q = I 43 q) → (ulB g b a (n - a) = true → I' 43 47 = nI (n - a) ∧ ∀ j, j < n - a → I' 56 j = b (a + j)) → Q (nI (if ulB g b a (n - a) = true then 1 else 0)) I' J) : wcI S (d + 2) 216 [.ref 43, .int (nI a), .int (nI n)] x I J Q := by
  have lp : ∀ (j m : Nat) (I1 : rI0), a + m + j = n → ulB g b a m = true → (∀ r, r ≠ 43 → r ≠ 56 → I1 r = I r) → (∀ q, q ≠ 47 → I1 43 q = I 43 q) → I1 43 47 = nI m → (∀ j, j < m → I1 56 j = b (a + j)) → wp S (d + 2) 216 17 [some (.ref 43), some (.int (nI a)), some (.int (nI n)), some (.int (nI (a + m))), none, none] [] (wv x I1 J) (rI x Q) := by
    intro j
    induction j with
    | zero =>
      intro m I1 hm hu f1 f2 e47 h56
      have em : n - a = m := by omega
      have kk := k I1 f1 f2 (fun _ => ⟨by rw [em]; exact e47, by rw [em]; exact h56⟩)
      rw [em, hu] at kk
      exact v216_43_17 ⟨fun q => absurd q (nI_nlt (by omega) (by omega)), fun _ => kk⟩
    | succ j ih =>
      intro m I1 hm hu f1 f2 e47 h56
      have us : ulB g b a (m + 1) = (seI g (b (a + m)) && decide (nb (fun j => decide (b (a + j) = b (a + m))) m = 0)) := by
        show (ulB g b a m && _) = _
        rw [hu, Bool.true_and]
      have no : ulB g b a (m + 1) = false → Q 0 I1 J := by
        intro h
        have hf := ulB_f h (n - a) (by omega)
        have kk := k I1 f1 f2 (fun y => by rw [hf] at y; cases y)
        rw [hf] at kk
        exact kk
      refine v216_43_17 (d := d + 1) ⟨fun _ => c155_43 ⟨nI_in (by omega) (by omega), ?_⟩, fun q => absurd (nI_lt (by omega) (by omega)) q⟩
      rw [nI_clamp (by omega), f1 44 (by decide) (by decide), hb (a + m) (by omega)]
      refine rIs (d := d) hG hI ((f1 45 (by decide) (by decide)).trans eg) (fun s hs es hse hsi => ⟨fun z => absurd z (by decide), fun _ => ?_⟩) (fun hsi => ⟨fun _ => no (by rw [us, hsi]; rfl), fun z => absurd rfl z⟩)
      rw [hsi, Bool.true_and] at us
      have inn : ∀ (i q : Nat), q + i = m → (∀ j, j < q → b (a + j) ≠ b (a + m)) → wp S (d + 2) 216 43 [some (.ref 43), some (.int (nI a)), some (.int (nI n)), some (.int (nI (a + m))), some (.int (b (a + m))), some (.int (nI q))] [] (wv x I1 J) (rI x Q) := by
        intro i
        induction i with
        | zero =>
          intro q hq hd
          have hq : q = m := by omega
          subst hq
          refine v216_43_43 ⟨fun w => absurd w (by rw [e47]; exact nI_nlt (Nat.le_refl _) (by omega)), fun _ => ⟨by rw [e47]; exact nI_in (by omega) (by omega), ?_⟩⟩
          rw [e47, nI_clamp (by omega), ← nI_succ, ← nI_succ]
          have un : ulB g b a (q + 1) = true := by
            rw [us]
            exact decide_eq_true (nb_none q (fun j hj => decide_eq_false (hd j hj)))
          refine ih (q + 1) _ (by omega) un (fun r h1 h2 => by rw [mSet_ne h1, mSet_ne h2]; exact f1 r h1 h2) (fun w hw => ?_) rfl (fun j hj => ?_)
          · show mSet (mSet I1 56 q _) 43 47 _ 43 w = _
            rw [show mSet (mSet I1 56 q (b (a + q))) 43 47 (nI (q + 1)) 43 w = (mSet I1 56 q (b (a + q))) 43 w from by unfold mSet va_up; rw [if_pos rfl, if_neg hw], mSet_ne (by decide)]
            exact f2 w hw
          · rw [mSet_ne (by decide)]
            show mSet I1 56 q _ 56 j = _
            unfold mSet va_up
            rw [if_pos rfl]
            by_cases y : j = q
            · rw [if_pos y, y]
            · rw [if_neg y]
              exact h56 j (by omega)
        | succ i ih2 =>
          intro q hq hd
          refine v216_43_43 ⟨fun _ => ⟨nI_in (by omega) (by omega), ?_⟩, fun w => absurd (by rw [e47]; exact nI_lt (by omega) (by omega)) w⟩
          rw [nI_clamp (by omega), h56 q (by omega), ← nI_succ]
          refine ⟨fun w => no ?_, fun w => ih2 (q + 1) (by omega) (fun j hj => ?_)⟩
          · rw [us]
            refine decide_eq_false (fun y => ?_)
            have : 0 < nb (fun j => decide (b (a + j) = b (a + m))) m := (nb_pos m).mpr ⟨q, by omega, decide_eq_true w⟩
            omega
          · by_cases y : j = q
            · rw [y]
              exact w
            · exact hd j (by omega)
      exact inn m 0 (by omega) (fun j hj => absurd hj (by omega))
  have en : nI n - nI a = nI (n - a) := by
    rw [← Int32.toInt_inj, i_sub (nI_toInt (by omega)) (nI_toInt (by omega)) (by omega), nI_toInt (by omega)]
    omega
  refine c216_43 ⟨fun q => absurd q (by rw [en]; exact nI_nlt (a := 14) (by omega) (by omega)), fun _ => lp (n - a) 0 _ (by omega) rfl (fun r h1 _ => mSet_ne h1) (fun q hq => ?_) rfl (fun j hj => absurd hj (by omega))⟩
  show mSet I 43 47 _ 43 q = _
  unfold mSet va_up
  rw [if_pos rfl, if_neg hq]
/-- what taking the tape leaves as it was -/
def FT (I : rI0) (I' : rI0) : Prop := (∀ r, r ≠ 43 → r ≠ 56 → I' r = I r) ∧ (∀ q, ¬ (2 ≤ q ∧ q ≤ 5) → q ≠ 47 → I' 43 q = I 43 q) ∧ I' 43 2 = 0
theorem r217x {n : Nat} {Q : Int32 → rI0 → rJ0 → Prop} (hG : GA g) (hI : GI g) (eg : I 45 = g) (hb : ∀ i, i < 940 → I 44 i &&& 255 = b i) (e2 : I 43 2 = nI n) (hn : n ≤ 940) (k : ∀ I', FT I I' → ((decide (1 ≤ n ∧ n ≤ 8) && ulB g b 0 n) = true → I' 43 47 = nI n ∧ ∀ j, j < n → I' 56 j = b j) → Q (nI (if (decide (1 ≤ n ∧ n ≤ 8) && ulB g b 0 n) = true then 1 else 0)) I' J) : wcI S (d + 3) 217 [.ref 43] x I J Q := by
  have f0 : FT I (mSet (mSet (mSet (mSet I 43 3 (I 43 2)) 43 2 0) 43 4 0) 43 5 940) := ⟨fun r h _ => by rw [mSet_ne h, mSet_ne h, mSet_ne h, mSet_ne h], fun q h _ => by unfold mSet va_up; rw [if_pos rfl, if_neg (by omega), if_pos rfl, if_neg (by omega), if_pos rfl, if_neg (by omega), if_pos rfl, if_neg (by omega)], rfl⟩
  refine c217_43 (c150_43 ?_)
  have e3 : (mSet (mSet (mSet (mSet I 43 3 (I 43 2)) 43 2 0) 43 4 0) 43 5 940) 43 3 = nI n := e2
  rw [e3]
  refine rIn (a := 1) (b := 8) (by decide) (by decide) (by omega) (fun t h1 h2 et _ => ⟨fun z => absurd z (by decide), fun _ => ?_⟩) (fun hh => ⟨fun _ => ?_, fun z => absurd rfl z⟩)
  · have et : n = t := by
      have := congrArg Int32.toInt et
      rw [nI_toInt (by omega), nI_toInt (by omega)] at this
      omega
    have n8 : 1 ≤ n ∧ n ≤ 8 := by omega
    rw [decide_eq_true n8, Bool.true_and] at k
    rw [e3]
    refine r216x (a := 0) (b := b) (d := d) hG hI ((f0.1 45 (by decide) (by decide)).trans eg) (fun i hi => hb i hi) (Nat.zero_le _) hn (by omega) (fun I1 f1 f2 h47 => ?_)
    rw [show n - 0 = n by omega] at h47 ⊢
    have f3 : FT I I1 := ⟨fun r h1 h2 => (f1 r h1 h2).trans (f0.1 r h1 h2), fun q h1 h2 => (f2 q h2).trans (f0.2.1 q h1 h2), (f2 2 (by decide)).trans f0.2.2⟩
    have kk := k I1 f3 (fun y => by
      have := h47 y
      exact ⟨this.1, fun j hj => by have := this.2 j hj; rw [Nat.zero_add] at this; exact this⟩)
    cases y : ulB g b 0 n with
    | false =>
      rw [y] at kk
      exact ⟨fun _ => kk, fun z => absurd rfl z⟩
    | true =>
      rw [y] at kk
      exact ⟨fun z => absurd z (by decide), fun _ => kk⟩
  · rw [nI_toInt (by omega)] at hh
    have n8 : ¬ (1 ≤ n ∧ n ≤ 8) := fun y => absurd (of_decide_eq_false hh) (fun w => w (by omega))
    rw [decide_eq_false n8, Bool.false_and] at k
    exact k _ f0 (fun y => by cases y)
/-- the reference: bitsOf -/
theorem r218x {n X : Nat} {Q : Int64 → rI0 → rJ0 → Prop} (e47 : I 43 47 = nI n) (h56 : ∀ j, j < n → I 56 j = b j) (hn : n ≤ 8) (hX : X < 256) (hu : ulB g b 0 n = true) (k : ∀ v, (∀ u, u < 64 → bits5 v u = hSt b n X u) → Q v I J) : wcJ S (d + 1) 218 [.ref 43, .int (nI X)] x I J Q := by
  have lp : ∀ (j i : Nat) (l : Int64), i + j = n → (∀ u, u < 64 → bits5 l u = hSt b i X u) → wp S (d + 1) 218 5 [some (.ref 43), some (.int (nI X)), some (.long l), none, some (.int (nI i))] [] (wv x I J) (rJ x Q) := by
    intro j
    induction j with
    | zero =>
      intro i l hi h
      have hi : i = n := by omega
      subst hi
      exact v218_43_5 ⟨fun q => absurd q (by rw [e47]; exact nI_nlt (Nat.le_refl _) (by omega)), fun _ => k l h⟩
    | succ j ih =>
      intro i l hi h
      refine v218_43_5 ⟨fun _ => c152 ⟨fun q => ⟨fun z => absurd z (by decide), fun _ => ⟨nI_in (by omega) (by omega), ?_⟩⟩, fun q => ⟨fun _ => ?_, fun z => absurd rfl z⟩⟩, fun q => absurd (by rw [e47]; exact nI_lt (by omega) (by omega)) q⟩
      · have q := (hbt_n hX (by omega)).mp q
        obtain ⟨s, hs, es, -⟩ := ulB_s hu (show i < n by omega)
        rw [Nat.zero_add] at es
        rw [nI_clamp (by omega), h56 i (by omega), es, ← nI_succ]
        exact ih (i + 1) _ (by omega) (put_h hs es q h)
      · have q := mt (hbt_n hX (by omega)).mpr q
        rw [← nI_succ]
        refine ih (i + 1) _ (by omega) (skip_h q (fun u hu2 => ?_))
        rw [b5_or, b5_0, Bool.or_false]
        exact h u hu2
  exact c218_43 (lp n 0 0 (by omega) (fun u hu => by rw [b5_0]; rfl))
/-- the reference: price -/
theorem r188x {s : Nat} {Q : Int32 → rI0 → rJ0 → Prop} (hG : GA g) (hI : GI g) (eg : I 45 = g) (hse : seB g s = true) (k : Q (nI (gN g (70 + s / gN g 1))) I J) : wcI S d 188 [.ref 43, .int (nI s)] x I J Q := by
  obtain ⟨-, z1, -, -, -, -⟩ := k0c
  obtain ⟨hc, hr, hm⟩ := seC hG hse
  have hs := seB_l hse
  have h8 := hG.1
  have h8c := hG.2.1
  have e1 : nI s / nI (gN g 1) = nI (s / gN g 1) := by
    rw [← Int32.toInt_inj, (i_div (nI_toInt (show s < 2 ^ 31 by omega)) (nI_toInt (show gN g 1 < 2 ^ 31 by omega)) (by omega) (by omega)).1, nI_toInt (by omega)]
    exact (Int.natCast_ediv s (gN g 1)).symm
  have ei : (70 : Int32) + nI (s / gN g 1) = nI (70 + s / gN g 1) := by
    show nI 70 + _ = _
    rw [nI_add]
  refine c188_43 ?_
  rw [z1, eg, hI.1 1 (by omega), e1, ei, nI_clamp (by omega), (hI.2.2.1 _ (by omega)).1]
  exact ⟨by decide, fun z => absurd (nI_ij (b := 0) (by omega) (by omega) z) (by omega), nI_in (by omega) (by omega), k⟩
/-! counting the bits of a set -/
end HN0
end
section
/-! trials: the best set of hands -/
section TR0
/-- how many hands a set has -/
def bcN (X : Nat) : Nat := nb (fun i => X.testBit i) 8
theorem pc_b : ∀ X, X < 256 → pc (nI X).toInt64 = bcN X := by decide +kernel
theorem bt249 : ∀ X, X < 256 → (((((((((nI X) - ((((nI X).toUInt32 >>> ((1 : Int32).toUInt32 &&& Int32.toUInt32 31)).toInt32) &&& (1431655765 : Int32))) &&& (858993459 : Int32)) + (((((nI X) - ((((nI X).toUInt32 >>> ((1 : Int32).toUInt32 &&& Int32.toUInt32 31)).toInt32) &&& (1431655765 : Int32))).toUInt32 >>> ((2 : Int32).toUInt32 &&& Int32.toUInt32 31)).toInt32) &&& (858993459 : Int32))) + ((((((nI X) - ((((nI X).toUInt32 >>> ((1 : Int32).toUInt32 &&& Int32.toUInt32 31)).toInt32) &&& (1431655765 : Int32))) &&& (858993459 : Int32)) + (((((nI X) - ((((nI X).toUInt32 >>> ((1 : Int32).toUInt32 &&& Int32.toUInt32 31)).toInt32) &&& (1431655765 : Int32))).toUInt32 >>> ((2 : Int32).toUInt32 &&& Int32.toUInt32 31)).toInt32) &&& (858993459 : Int32))).toUInt32 >>> ((4 : Int32).toUInt32 &&& Int32.toUInt32 31)).toInt32)) &&& (252645135 : Int32)) + ((((((((nI X) - ((((nI X).toUInt32 >>> ((1 : Int32).toUInt32 &&& Int32.toUInt32 31)).toInt32) &&& (1431655765 : Int32))) &&& (858993459 : Int32)) + (((((nI X) - ((((nI X).toUInt32 >>> ((1 : Int32).toUInt32 &&& Int32.toUInt32 31)).toInt32) &&& (1431655765 : Int32))).toUInt32 >>> ((2 : Int32).toUInt32 &&& Int32.toUInt32 31)).toInt32) &&& (858993459 : Int32))) + ((((((nI X) - ((((nI X).toUInt32 >>> ((1 : Int32).toUInt32 &&& Int32.toUInt32 31)).toInt32) &&& (1431655765 : Int32))) &&& (858993459 : Int32)) + (((((nI X) - ((((nI X).toUInt32 >>> ((1 : Int32).toUInt32 &&& Int32.toUInt32 31)).toInt32) &&& (1431655765 : Int32))).toUInt32 >>> ((2 : Int32).toUInt32 &&& Int32.toUInt32 31)).toInt32) &&& (858993459 : Int32))).toUInt32 >>> ((4 : Int32).toUInt32 &&& Int32.toUInt32 31)).toInt32)) &&& (252645135 : Int32)).toUInt32 >>> ((8 : Int32).toUInt32 &&& Int32.toUInt32 31)).toInt32)) + (((((((((nI X) - ((((nI X).toUInt32 >>> ((1 : Int32).toUInt32 &&& Int32.toUInt32 31)).toInt32) &&& (1431655765 : Int32))) &&& (858993459 : Int32)) + (((((nI X) - ((((nI X).toUInt32 >>> ((1 : Int32).toUInt32 &&& Int32.toUInt32 31)).toInt32) &&& (1431655765 : Int32))).toUInt32 >>> ((2 : Int32).toUInt32 &&& Int32.toUInt32 31)).toInt32) &&& (858993459 : Int32))) + ((((((nI X) - ((((nI X).toUInt32 >>> ((1 : Int32).toUInt32 &&& Int32.toUInt32 31)).toInt32) &&& (1431655765 : Int32))) &&& (858993459 : Int32)) + (((((nI X) - ((((nI X).toUInt32 >>> ((1 : Int32).toUInt32 &&& Int32.toUInt32 31)).toInt32) &&& (1431655765 : Int32))).toUInt32 >>> ((2 : Int32).toUInt32 &&& Int32.toUInt32 31)).toInt32) &&& (858993459 : Int32))).toUInt32 >>> ((4 : Int32).toUInt32 &&& Int32.toUInt32 31)).toInt32)) &&& (252645135 : Int32)) + ((((((((nI X) - ((((nI X).toUInt32 >>> ((1 : Int32).toUInt32 &&& Int32.toUInt32 31)).toInt32) &&& (1431655765 : Int32))) &&& (858993459 : Int32)) + (((((nI X) - ((((nI X).toUInt32 >>> ((1 : Int32).toUInt32 &&& Int32.toUInt32 31)).toInt32) &&& (1431655765 : Int32))).toUInt32 >>> ((2 : Int32).toUInt32 &&& Int32.toUInt32 31)).toInt32) &&& (858993459 : Int32))) + ((((((nI X) - ((((nI X).toUInt32 >>> ((1 : Int32).toUInt32 &&& Int32.toUInt32 31)).toInt32) &&& (1431655765 : Int32))) &&& (858993459 : Int32)) + (((((nI X) - ((((nI X).toUInt32 >>> ((1 : Int32).toUInt32 &&& Int32.toUInt32 31)).toInt32) &&& (1431655765 : Int32))).toUInt32 >>> ((2 : Int32).toUInt32 &&& Int32.toUInt32 31)).toInt32) &&& (858993459 : Int32))).toUInt32 >>> ((4 : Int32).toUInt32 &&& Int32.toUInt32 31)).toInt32)) &&& (252645135 : Int32)).toUInt32 >>> ((8 : Int32).toUInt32 &&& Int32.toUInt32 31)).toInt32)).toUInt32 >>> ((16 : Int32).toUInt32 &&& Int32.toUInt32 31)).toInt32)) &&& (63 : Int32)) = nI (bcN X) := by decide +kernel
theorem sh_1 : ∀ n, n < 9 → (1 : Int32) <<< (nI n &&& 31) = nI (2 ^ n) := by decide +kernel
theorem pw_8 {n : Nat} (h : n ≤ 8) : 2 ^ n ≤ 256 := Nat.pow_le_pow_right (n := 2) (by omega) h
theorem bc_l {X : Nat} : bcN X ≤ 8 := nb_le 8
variable {S : Nat × (Nat → Int32)} {d : Nat} {x : mX} {I : rI0} {J : rJ0} {g b : Nat → Int32} {W : Nat → lV} {P H : Nat → Bool}
theorem c249x {X : Nat} {Q : Int32 → rI0 → rJ0 → Prop} (hX : X < 256) (k : Q (nI (bcN X)) I J) : wcI S d 249 [.int (nI X)] x I J Q := by
  refine c249 ?_
  rw [bt249 X hX]
  exact k
theorem c154x {X : Nat} {Q : Int32 → rI0 → rJ0 → Prop} (hX : X < 256) (k : Q (nI (bcN X)) I J) : wcI S d 154 [.long (nI X).toInt64] x I J Q := by
  refine rbX ?_
  rw [pc_b X hX]
  exact k
/-- the best of the sets below X: 256 for none -/
def btB (ps : Nat → Nat) (B X : Nat) : Bool := decide (B = 256) || (decide (ps X < ps B) || decide (ps X = ps B ∧ bcN X < bcN B))
def chN (cr : Nat → Bool) (ps : Nat → Nat) : Nat → Nat
  | 0 => 256
  | X + 1 => if (btB ps (chN cr ps X) X && cr X) = true then X else chN cr ps X
def bI (B : Nat) : Int32 := if B = 256 then -1 else nI B
def cpI (ps : Nat → Nat) (B : Nat) : Int32 := if B = 256 then -1 else nI (ps B)
def rpI (ps : Nat → Nat) (B : Nat) : Int32 := if B = 256 then 1000000000 else nI (ps B)
variable {cr : Nat → Bool} {ps : Nat → Nat}
theorem chN_l : ∀ X, X ≤ 256 → chN cr ps X = 256 ∨ chN cr ps X < X := by
  intro X
  induction X with
  | zero => exact fun _ => Or.inl rfl
  | succ X ih =>
    intro h
    show (if (btB ps (chN cr ps X) X && cr X) = true then X else chN cr ps X) = 256 ∨ (if (btB ps (chN cr ps X) X && cr X) = true then X else chN cr ps X) < X + 1
    split
    · exact Or.inr (by omega)
    · exact (ih (by omega)).elim Or.inl (fun z => Or.inr (by omega))
theorem chN_n {X : Nat} (h : (btB ps (chN cr ps X) X && cr X) = false) : chN cr ps (X + 1) = chN cr ps X := by
  show (if (btB ps (chN cr ps X) X && cr X) = true then X else chN cr ps X) = _
  rw [h]
  rfl
theorem chN_y {X : Nat} (h : (btB ps (chN cr ps X) X && cr X) = true) : chN cr ps (X + 1) = X := by
  show (if (btB ps (chN cr ps X) X && cr X) = true then X else chN cr ps X) = _
  rw [if_pos h]
theorem nI_n1 {B : Nat} (h : B < 2 ^ 31) : ¬ nI B = -1 := by
  intro z
  have := congrArg Int32.toInt z
  rw [nI_toInt h] at this
  have e : (-1 : Int32).toInt = -1 := by decide
  omega
theorem nI_n0 {B : Nat} (h : B < 2 ^ 31) : ¬ nI B < 0 := nI_nlt (b := 0) (Nat.zero_le _) h
theorem bI_y {B : Nat} (h : B < 256) : bI B = nI B := if_neg (by omega)
/-- does it carry? -/
def crB (g : Nat → Int32) (W : Nat → lV) (P H : Nat → Bool) : Bool := decide (gN g 3 ≤ hgt g W P H 60)
def paB (P : Nat → Bool) (b : Nat → Int32) (n X s : Nat) : Bool := decide (s < 64) && (P s || hSt b n X s)
theorem paB_e {n X : Nat} {v w : Int64} (e : ∀ s, s < 64 → bits5 v s = P s) (h : ∀ u, u < 64 → bits5 w u = hSt b n X u) : ∀ s, s < 64 → bits5 (v ||| w) s = paB P b n X s := by
  intro s hs
  unfold paB
  rw [b5_or, e s hs, h s hs, decide_eq_true hs, Bool.true_and]
theorem paB_s {n X : Nat} (hP : ∀ s, P s = true → seB g s = true) (hu : ulB g b 0 n = true) : ∀ s, paB P b n X s = true → seB g s = true := by
  intro s h
  unfold paB at h
  rw [Bool.and_eq_true, Bool.or_eq_true, decide_eq_true_iff] at h
  exact h.2.elim (hP s) (fun z => hSt_se hu z h.1)
/-- the class: cheapestOf -/
theorem c84x {n : Nat} {Q : Int32 → rI0 → rJ0 → Prop} (hG : GA g) (hM : HM g W I J) (ec : I 4 2 = nI (gN g 3)) (h3 : gN g 3 ≤ 64) (hP : ∀ s, P s = true → seB g s = true) (e5 : ∀ s, s < 64 → bits5 (J 3 5) s = P s) (e6 : ∀ s, s < 64 → bits5 (J 3 6) s = H s) (hp : ∀ r, r < 8 → I 7 r = nI (gN g (70 + r))) (hpl : ∀ r, r < 8 → gN g (70 + r) ≤ 999) (e2 : I 2 = b) (hn : n ≤ 8) (hu : ulB g b 0 n = true) (k : ∀ I' J', F41 I J I' J' → Q (cpI (fun X => psN g b X n) (chN (fun X => crB g W (paB P b n X) H) (fun X => psN g b X n) (2 ^ n))) (if chN (fun X => crB g W (paB P b n X) H) (fun X => psN g b X n) (2 ^ n) = 256 then I' else mSet I' 37 8 (nI (chN (fun X => crB g W (paB P b n X) H) (fun X => psN g b X n) (2 ^ n)))) J') : wcI S (d + 23) 84 [.ref 37, .int (nI n)] x I J Q := by
  have h8 := pw_8 hn
  have lp : ∀ (j X : Nat) (I1 : rI0) (J1 : rJ0), X + j = 2 ^ n → F41 I J I1 J1 → wp S (d + 23) 84 19 [some (.ref 37), some (.int (nI n)), some (.int (nI (gN g 3))), some (.int (bI (chN (fun X => crB g W (paB P b n X) H) (fun X => psN g b X n) X))), some (.int (cpI (fun X => psN g b X n) (chN (fun X => crB g W (paB P b n X) H) (fun X => psN g b X n) X))), some (.int (nI X)), none, none, none, none] [] (wv x I1 J1) (rI x Q) := by
    intro j
    induction j with
    | zero =>
      intro X I1 J1 hX f
      have hX : X = 2 ^ n := by omega
      subst hX
      have kk := k I1 J1 f
      have cl := chN_l (cr := fun X => crB g W (paB P b n X) H) (ps := fun X => psN g b X n) (2 ^ n) h8
      revert kk cl
      generalize chN (fun X => crB g W (paB P b n X) H) (fun X => psN g b X n) (2 ^ n) = B
      intro kk cl
      refine v84_37_19 ⟨fun q => absurd q (by rw [sh_1 n (by omega)]; exact nI_nlt (Nat.le_refl _) (by omega)), fun _ => ⟨fun z => ?_, fun z => ?_⟩⟩
      · by_cases y : B = 256
        · rw [if_pos y] at kk
          exact kk
        · rw [bI_y (by omega)] at z
          exact absurd z (nI_n1 (by omega))
      · by_cases y : B = 256
        · unfold bI at z
          rw [if_pos y] at z
          exact absurd rfl z
        · rw [if_neg y] at kk
          rw [bI_y (by omega)]
          exact kk
    | succ j ih =>
      intro X I1 J1 hX f
      have cl := chN_l (cr := fun X => crB g W (paB P b n X) H) (ps := fun X => psN g b X n) X (by omega)
      have yes := @chN_y (cr := fun X => crB g W (paB P b n X) H) (ps := fun X => psN g b X n) X
      have noo := @chN_n (cr := fun X => crB g W (paB P b n X) H) (ps := fun X => psN g b X n) X
      have pl : ∀ Y, psN g b Y n ≤ 7992 := fun Y => by
        have := psN_l (X := Y) hpl hG n hu
        omega
      have f2 : I1 2 = b := (f.1 2 (by decide)).trans e2
      have hM1 := hM.n41 f
      have ih0 := ih (X + 1)
      revert cl yes noo ih0
      generalize chN (fun X => crB g W (paB P b n X) H) (fun X => psN g b X n) (X + 1) = B1
      generalize chN (fun X => crB g W (paB P b n X) H) (fun X => psN g b X n) X = B
      intro cl yes noo ih0
      refine v84_37_19 (d := d + 22) ⟨fun _ => c82x (d := d + 22) f2 hn (by omega) hu (fun v hv => c83x (d := d + 19) hG hM1 (fun r hr => by rw [f.1 7 (by decide)]; exact hp r hr) f2 hn (by omega) hu ?_), fun q => absurd (by rw [sh_1 n (by omega)]; exact nI_lt (by omega) (by omega)) q⟩
      have mid : ∀ s0 : Int32, (s0 = 0 ∧ btB (fun X => psN g b X n) B X = false) ∨ (s0 = 1 ∧ btB (fun X => psN g b X n) B X = true) → wp S (d + 23) 84 89 [some (.ref 37), some (.int (nI n)), some (.int (nI (gN g 3))), some (.int (bI B)), some (.int (cpI (fun X => psN g b X n) B)), some (.int (nI X)), some (.long ((J1 3 5) ||| v)), none, some (.int (nI (psN g b X n))), none] [.int s0] (wv x I1 J1) (rI x Q) := by
        intro s0 hs
        refine v84_37_89 (d := d + 22) ⟨fun z => ?_, fun z => ?_⟩
        · have hb : btB (fun X => psN g b X n) B X = false := by
            rcases hs with y | y
            · exact y.2
            · rw [y.1] at z
              exact absurd z (by decide)
          have e := noo (by rw [hb, Bool.false_and])
          subst e
          rw [← nI_succ]
          exact ih0 I1 J1 (by omega) f
        · have hb : btB (fun X => psN g b X n) B X = true := by
            rcases hs with y | y
            · exact absurd y.1 z
            · exact y.2
          refine ht_41 (d := d) (P := paB P b n X) (H := H) hG hM1 (paB_s hP hu) (paB_e (by rw [f.2 3 (by decide)]; exact e5) hv) (by rw [f.2 3 (by decide)]; exact e6) (fun I2 J2 r f3 h1 h2 => ⟨fun q => ?_, fun q => ?_⟩)
          · have q := (nI_ltI (by have := hgt_l (g := g) (W := W) (P := paB P b n X) (H := H) (t := 60); omega) (by omega)).mp q
            rw [nI_toInt (by omega)] at h2
            have e := noo (by
              rw [hb, Bool.true_and]
              exact decide_eq_false (by omega))
            subst e
            rw [← nI_succ]
            exact ih0 I2 J2 (by omega) (f.tr f3)
          · have q : ¬ r < gN g 3 := fun w => q (nI_lt w (by omega))
            have e := yes (by
              rw [hb, Bool.true_and]
              exact decide_eq_true (by omega))
            subst e
            rw [← nI_succ]
            have := ih0 I2 J2 (by omega) (f.tr f3)
            unfold cpI at this
            rw [bI_y (by omega), if_neg (by omega)] at this
            exact this
      clear ih ih0 yes noo
      by_cases y : B = 256
      · refine ⟨fun _ => mid 1 (Or.inr ⟨rfl, ?_⟩), fun z => absurd (show bI B = -1 from if_pos y) z⟩
        unfold btB
        rw [decide_eq_true y, Bool.true_or]
      · have hB : B < 256 := by omega
        have bb : btB (fun X => psN g b X n) B X = (decide (psN g b X n < psN g b B n) || decide (psN g b X n = psN g b B n ∧ bcN X < bcN B)) := by
          unfold btB
          rw [decide_eq_false y, Bool.false_or]
        have ep : cpI (fun X => psN g b X n) B = nI (psN g b B n) := if_neg y
        have p1 := pl X
        have p2 := pl B
        rw [ep, bI_y hB] at mid
        rw [ep, bI_y hB]
        refine ⟨fun z => absurd z (nI_n1 (by omega)), fun _ => ⟨fun z => mid 1 (Or.inr ⟨rfl, ?_⟩), fun z => ⟨fun z2 => c249x (by omega) (c249x hB ⟨fun z3 => mid 1 (Or.inr ⟨rfl, ?_⟩), fun z3 => mid 0 (Or.inl ⟨rfl, ?_⟩)⟩), fun z2 => mid 0 (Or.inl ⟨rfl, ?_⟩)⟩⟩⟩
        · rw [bb, decide_eq_true ((nI_ltI (by omega) (by omega)).mp z), Bool.true_or]
        · have z2 := nI_inj (by omega) (by omega) z2
          have z3 := (nI_ltI (by have := @bc_l X; omega) (by have := @bc_l B; omega)).mp z3
          rw [bb, decide_eq_true (show psN g b X n = psN g b B n ∧ bcN X < bcN B from ⟨z2, z3⟩), Bool.or_true]
        · have z := fun w => z (nI_lt (a := psN g b X n) (b := psN g b B n) w (by omega))
          have z3 := fun w => z3 (nI_lt (a := bcN X) (b := bcN B) w (by have := @bc_l B; omega))
          rw [bb, decide_eq_false z, decide_eq_false (fun w => z3 w.2)]
          rfl
        · have z := fun w => z (nI_lt (a := psN g b X n) (b := psN g b B n) w (by omega))
          rw [bb, decide_eq_false z, decide_eq_false (fun w => z2 (by rw [w.1]))]
          rfl
  have st := lp (2 ^ n) 0 I J (by omega) F41.rf
  refine c84_37 ?_
  rw [ec]
  exact st
/-- the class: hushOf -/
theorem c85x {n : Nat} {Q : Int32 → rI0 → rJ0 → Prop} (hG : GA g) (hM : HM g W I J) (ec : I 4 2 = nI (gN g 3)) (h3 : gN g 3 ≤ 64) (hP : ∀ s, P s = true → seB g s = true) (e5 : ∀ s, s < 64 → bits5 (J 3 5) s = P s) (e6 : ∀ s, s < 64 → bits5 (J 3 6) s = H s) (e2 : I 2 = b) (hn : n ≤ 8) (hu : ulB g b 0 n = true) (k : ∀ I' J', F41 I J I' J' → Q (bI (chN (fun X => !crB g W P (paB H b n X)) (fun _ => 0) (2 ^ n))) I' J') : wcI S (d + 23) 85 [.ref 37, .int (nI n)] x I J Q := by
  have h8 := pw_8 hn
  have lp : ∀ (j X : Nat) (I1 : rI0) (J1 : rJ0), X + j = 2 ^ n → F41 I J I1 J1 → wp S (d + 23) 85 16 [some (.ref 37), some (.int (nI n)), some (.int (nI (gN g 3))), some (.int (bI (chN (fun X => !crB g W P (paB H b n X)) (fun _ => 0) X))), some (.int (nI X)), none, none, none] [] (wv x I1 J1) (rI x Q) := by
    intro j
    induction j with
    | zero =>
      intro X I1 J1 hX f
      have hX : X = 2 ^ n := by omega
      subst hX
      exact v85_37_16 ⟨fun q => absurd q (by rw [sh_1 n (by omega)]; exact nI_nlt (Nat.le_refl _) (by omega)), fun _ => k I1 J1 f⟩
    | succ j ih =>
      intro X I1 J1 hX f
      have cl := chN_l (cr := fun X => !crB g W P (paB H b n X)) (ps := fun _ => 0) X (by omega)
      have yes := @chN_y (cr := fun X => !crB g W P (paB H b n X)) (ps := fun _ => 0) X
      have noo := @chN_n (cr := fun X => !crB g W P (paB H b n X)) (ps := fun _ => 0) X
      have f2 : I1 2 = b := (f.1 2 (by decide)).trans e2
      have hM1 := hM.n41 f
      have ih0 := ih (X + 1)
      revert cl yes noo ih0
      generalize chN (fun X => !crB g W P (paB H b n X)) (fun _ => 0) (X + 1) = B1
      generalize chN (fun X => !crB g W P (paB H b n X)) (fun _ => 0) X = B
      intro cl yes noo ih0
      have mid : ∀ s0 : Int32, (s0 = 0 ∧ btB (fun _ => 0) B X = false) ∨ (s0 = 1 ∧ btB (fun _ => 0) B X = true) → wp S (d + 23) 85 46 [some (.ref 37), some (.int (nI n)), some (.int (nI (gN g 3))), some (.int (bI B)), some (.int (nI X)), none, none, none] [.int s0] (wv x I1 J1) (rI x Q) := by
        intro s0 hs
        refine v85_37_46 (d := d + 22) (c82x (d := d + 22) f2 hn (by omega) hu (fun v hv => ⟨fun z => ?_, fun z => ?_⟩))
        · have hb : btB (fun _ => 0) B X = false := by
            rcases hs with y | y
            · exact y.2
            · rw [y.1] at z
              exact absurd z (by decide)
          have e := noo (by rw [hb, Bool.false_and])
          subst e
          rw [← nI_succ]
          exact ih0 I1 J1 (by omega) f
        · have hb : btB (fun _ => 0) B X = true := by
            rcases hs with y | y
            · exact absurd y.1 z
            · exact y.2
          refine ht_41 (d := d) (P := P) (H := paB H b n X) hG hM1 hP (by rw [f.2 3 (by decide)]; exact e5) (paB_e (by rw [f.2 3 (by decide)]; exact e6) hv) (fun I2 J2 r f3 h1 h2 => ⟨fun q => ?_, fun q => ?_⟩)
          · have q := (nI_ltI (by have := hgt_l (g := g) (W := W) (P := P) (H := paB H b n X) (t := 60); omega) (by omega)).mp q
            rw [nI_toInt (by omega)] at h2
            have e := yes (by
              have c : crB g W P (paB H b n X) = false := decide_eq_false (by omega)
              rw [hb, Bool.true_and, c]
              rfl)
            subst e
            rw [← nI_succ]
            have := ih0 I2 J2 (by omega) (f.tr f3)
            rw [bI_y (by omega)] at this
            exact this
          · have q : ¬ r < gN g 3 := fun w => q (nI_lt w (by omega))
            have e := noo (by
              have c : crB g W P (paB H b n X) = true := decide_eq_true (by omega)
              rw [hb, Bool.true_and, c]
              rfl)
            subst e
            rw [← nI_succ]
            exact ih0 I2 J2 (by omega) (f.tr f3)
      clear ih ih0 yes noo
      refine v85_37_16 (d := d + 22) ⟨fun _ => ?_, fun q => absurd (by rw [sh_1 n (by omega)]; exact nI_lt (by omega) (by omega)) q⟩
      by_cases y : B = 256
      · refine ⟨fun _ => mid 1 (Or.inr ⟨rfl, ?_⟩), fun z => absurd (show bI B = -1 from if_pos y) z⟩
        unfold btB
        rw [decide_eq_true y, Bool.true_or]
      · have hB : B < 256 := by omega
        have bb : btB (fun _ => 0) B X = decide (bcN X < bcN B) := by
          unfold btB
          rw [decide_eq_false y, Bool.false_or, decide_eq_false (Nat.lt_irrefl 0), Bool.false_or]
          exact decide_eq_decide.mpr ⟨fun w => w.2, fun w => ⟨rfl, w⟩⟩
        rw [bI_y hB] at mid
        rw [bI_y hB]
        refine ⟨fun z => absurd z (nI_n1 (by omega)), fun _ => c249x (by omega) (c249x hB ⟨fun z3 => mid 1 (Or.inr ⟨rfl, ?_⟩), fun z3 => mid 0 (Or.inl ⟨rfl, ?_⟩)⟩)⟩
        · rw [bb]
          exact decide_eq_true ((nI_ltI (by have := @bc_l X; omega) (by have := @bc_l B; omega)).mp z3)
        · rw [bb]
          exact decide_eq_false (fun w => z3 (nI_lt (a := bcN X) (b := bcN B) w (by have := @bc_l B; omega)))
  have st := lp (2 ^ n) 0 I J (by omega) F41.rf
  refine c85_37 ?_
  rw [ec]
  exact st
end TR0
end
section
/-! trials: the best set of hands, the reference -/
section TR1
def hdB (g b : Nat → Int32) (n : Nat) : Bool := decide (1 ≤ n ∧ n ≤ 8) && ulB g b 0 n
def chB (g : Nat → Int32) (W : Nat → lV) (P H : Nat → Bool) (b : Nat → Int32) (n : Nat) : Nat := if hdB g b n = true then chN (fun X => crB g W (paB P b n X) H) (fun X => psN g b X n) (2 ^ n) else 256
def cheV (g : Nat → Int32) (W : Nat → lV) (P H : Nat → Bool) (b : Nat → Int32) (n : Nat) : Int32 := if hdB g b n = true then cpI (fun X => psN g b X n) (chB g W P H b n) else -2
def hushV (g : Nat → Int32) (W : Nat → lV) (P H : Nat → Bool) (b : Nat → Int32) (n : Nat) : Int32 := if hdB g b n = true then bI (chN (fun X => !crB g W P (paB H b n X)) (fun _ => 0) (2 ^ n)) else -2
def stI (I : rI0) (a q B : Nat) : rI0 := if B = 256 then I else mSet I a q (nI B)
/-- what a trial of the reference leaves as it was -/
def FU (I : rI0) (J : rJ0) (I' : rI0) (J' : rJ0) : Prop := (∀ b, b ≠ 43 → b ≠ 50 → ¬ (56 ≤ b ∧ b ≤ 58) → I' b = I b) ∧ (∀ q, q ≠ 0 → ¬ (2 ≤ q ∧ q ≤ 5) → q ≠ 30 → ¬ (42 ≤ q ∧ q ≤ 45) → q ≠ 47 → I' 43 q = I 43 q) ∧ (∀ b, b ≠ 43 → ¬ (51 ≤ b ∧ b ≤ 55) → J' b = J b) ∧ (∀ q, ¬ (36 ≤ q ∧ q ≤ 41) → J' 43 q = J 43 q) ∧ I' 43 2 = 0
variable {S : Nat × (Nat → Int32)} {d : Nat} {x : mX} {I I1 I2 : rI0} {J J1 J2 : rJ0} {g b : Nat → Int32} {W : Nat → lV} {P H : Nat → Bool}
theorem FU.h (f : FU I J I1 J1) (h : FH I1 J1 I2 J2) : FU I J I2 J2 := ⟨fun b h1 h2 h3 => (h.1 b h1 h2).trans (f.1 b h1 h2 h3), fun q h1 h2 h3 h4 h5 => (h.2.1 q h3 h4).trans (f.2.1 q h1 h2 h3 h4 h5), fun b h1 h2 => (h.2.2.1 b h1 h2).trans (f.2.2.1 b h1 h2), fun q h1 => (h.2.2.2 q h1).trans (f.2.2.2.1 q h1), (h.2.1 2 (by decide) (by omega)).trans f.2.2.2.2⟩
theorem FT.u {v : Int32} (f : FT (mSet I 43 0 v) I1) : FU I J I1 J := ⟨fun b h1 h2 h3 => (f.1 b h1 (by omega)).trans (mSet_ne h1), fun q h1 h2 _ _ h5 => (f.2.1 q h2 h5).trans (by unfold mSet va_up; rw [if_pos rfl, if_neg h1]), fun _ _ _ => rfl, fun _ _ => rfl, f.2.2⟩
theorem RH.ft (h : RH g W I J) (f : FT I I1) : RH g W I1 J := ⟨h.1, h.2.1, h.2.2.1, h.2.2.2.1, (f.1 45 (by decide) (by decide)).trans h.2.2.2.2.1, fun z => h.2.2.2.2.2 ((f.2.1 30 (by omega) (by decide)).symm.trans z)⟩
/-- areEight -/
theorem rHd {n : Nat} {Q : Int32 → rI0 → rJ0 → Prop} (hR : RH g W I J) (hb : ∀ i, i < 940 → I 44 i &&& 255 = b i) (e2 : I 43 2 = nI n) (hn : n ≤ 940) (k0 : hdB g b n = false → ∀ I', FU I J I' J → RH g W I' J → Q 0 I' J) (k1 : hdB g b n = true → ∀ I', FU I J I' J → RH g W I' J → I' 43 47 = nI n → (∀ j, j < n → I' 56 j = b j) → Q 1 I' J) : wcI S (d + 3) 217 [.ref 43] x (mSet I 43 0 0) J Q := by
  have hR1 : RH g W (mSet I 43 0 0) J := hR.t
  refine r217x (b := b) (d := d) hR1.1 hR1.2.1 hR1.2.2.2.2.1 (fun i hi => hb i hi) (show mSet I 43 0 0 43 2 = nI n from e2) hn (fun I1 f h => ?_)
  cases y : hdB g b n with
  | false =>
    unfold hdB at y
    rw [y]
    exact k0 (by unfold hdB; exact y) I1 f.u (hR1.ft f)
  | true =>
    unfold hdB at y
    rw [y] at h ⊢
    exact k1 (by unfold hdB; exact y) I1 f.u (hR1.ft f) (h rfl).1 (h rfl).2
theorem hdB_t {n : Nat} (h : hdB g b n = true) : 1 ≤ n ∧ n ≤ 8 ∧ ulB g b 0 n = true := by
  unfold hdB at h
  rw [Bool.and_eq_true, decide_eq_true_iff] at h
  exact ⟨h.1.1, h.1.2, h.2⟩
theorem rpI_n {ps : Nat → Nat} {B : Nat} : rpI ps B = nI (if B = 256 then 1000000000 else ps B) := by
  unfold rpI
  split
  · rfl
  · rfl
theorem bI_0 {B : Nat} (h : B = 256) : bI B = -1 := if_pos h
/-- the reference: cheapest -/
theorem r219x {n : Nat} {Q : Int32 → rI0 → rJ0 → Prop} (hR : RH g W I J) (h3 : gN g 3 ≤ 64) (e16 : ∀ s, s < 64 → bits5 (J 43 16) s = P s) (e17 : ∀ s, s < 64 → bits5 (J 43 17) s = H s) (hb : ∀ i, i < 940 → I 44 i &&& 255 = b i) (e2 : I 43 2 = nI n) (hn : n ≤ 940) (k : ∀ I' J', FU I J I' J' → RH g W I' J' → Q (cheV g W P H b n) (stI I' 43 48 (chB g W P H b n)) J') : wcI S (d + 6) 219 [.ref 43] x I J Q := by
  refine c219_43 (d := d + 5) (rHd (d := d + 2) (n := n) (b := b) hR hb e2 hn (fun h I1 f r => ⟨fun _ => ?_, fun z => absurd rfl z⟩) (fun h I1 f r e47 h56 => ⟨fun z => absurd z (by decide), fun _ => ?_⟩))
  · have kk := k I1 J f r
    unfold cheV stI chB at kk
    rw [h] at kk
    exact kk
  obtain ⟨n1, n8, hu⟩ := hdB_t h
  have h8 := pw_8 n8
  have hG := hR.1
  have hI := hR.2.1
  have pl : ∀ Y, psN g b Y n ≤ 7992 := fun Y => by
    have := psN_l (X := Y) (fun r hr => (hI.2.2.1 r hr).2.1) hG n hu
    omega
  have lp : ∀ (j X : Nat) (I2 : rI0) (J2 : rJ0), X + j = 2 ^ n → FH I1 J I2 J2 → RH g W I2 J2 → wp S (d + 6) 219 23 [some (.ref 43), some (.int (bI (chN (fun X => crB g W (paB P b n X) H) (fun X => psN g b X n) X))), some (.int (rpI (fun X => psN g b X n) (chN (fun X => crB g W (paB P b n X) H) (fun X => psN g b X n) X))), some (.int (nI X)), none, none] [] (wv x I2 J2) (rI x Q) := by
    intro j
    induction j with
    | zero =>
      intro X I2 J2 hX f2 r2
      have hX : X = 2 ^ n := by omega
      subst hX
      have kk := k I2 J2 (f.h f2) r2
      have cl := chN_l (cr := fun X => crB g W (paB P b n X) H) (ps := fun X => psN g b X n) (2 ^ n) h8
      have ee : chB g W P H b n = chN (fun X => crB g W (paB P b n X) H) (fun X => psN g b X n) (2 ^ n) := by
        unfold chB
        rw [if_pos h]
      have e47b : I2 43 47 = nI n := (f2.2.1 47 (by decide) (by omega)).trans e47
      unfold cheV at kk
      rw [if_pos h, ee] at kk
      revert kk cl
      generalize chN (fun X => crB g W (paB P b n X) H) (fun X => psN g b X n) (2 ^ n) = B
      intro kk cl
      unfold cpI stI at kk
      refine v219_43_23 ⟨fun q => absurd q (by rw [e47b, sh_1 n (by omega)]; exact nI_nlt (Nat.le_refl _) (by omega)), fun _ => ⟨fun z => ?_, fun z => ?_⟩⟩
      · by_cases y : B = 256
        · rw [if_pos y, if_pos y] at kk
          exact kk
        · rw [bI_y (by omega)] at z
          exact absurd z (nI_n0 (by omega))
      · by_cases y : B = 256
        · rw [bI_0 y] at z
          exact absurd (by decide) z
        · rw [if_neg y, if_neg y] at kk
          rw [bI_y (by omega), show rpI (fun X => psN g b X n) B = nI (psN g b B n) from if_neg y]
          exact kk
    | succ j ih =>
      intro X I2 J2 hX f2 r2
      have cl := chN_l (cr := fun X => crB g W (paB P b n X) H) (ps := fun X => psN g b X n) X (by omega)
      have yes := @chN_y (cr := fun X => crB g W (paB P b n X) H) (ps := fun X => psN g b X n) X
      have noo := @chN_n (cr := fun X => crB g W (paB P b n X) H) (ps := fun X => psN g b X n) X
      have e47b : I2 43 47 = nI n := (f2.2.1 47 (by decide) (by omega)).trans e47
      have h56b : ∀ j, j < n → I2 56 j = b j := fun j hj => by rw [f2.1 56 (by decide) (by decide)]; exact h56 j hj
      have j16 : J2 43 16 = J 43 16 := f2.2.2.2 16 (by omega)
      have j17 : J2 43 17 = J 43 17 := f2.2.2.2 17 (by omega)
      have ih0 := ih (X + 1)
      revert cl yes noo ih0
      generalize chN (fun X => crB g W (paB P b n X) H) (fun X => psN g b X n) (X + 1) = B1
      generalize chN (fun X => crB g W (paB P b n X) H) (fun X => psN g b X n) X = B
      intro cl yes noo ih0
      have nx : btB (fun X => psN g b X n) B X = false → wp S (d + 6) 219 23 [some (.ref 43), some (.int (bI B)), some (.int (rpI (fun X => psN g b X n) B)), some (.int (nI X + 1)), none, none] [] (wv x I2 J2) (rI x Q) := by
        intro hb
        have e := noo (by rw [hb, Bool.false_and])
        subst e
        rw [← nI_succ]
        exact ih0 I2 J2 (by omega) f2 r2
      have mid : btB (fun X => psN g b X n) B X = true → wp S (d + 6) 219 111 [some (.ref 43), some (.int (bI B)), some (.int (rpI (fun X => psN g b X n) B)), some (.int (nI X)), some (.int (nI (psN g b X n))), some (.int (nI n))] [] (wv x I2 J2) (rI x Q) := by
        intro hb
        refine v219_43_111 (d := d + 5) (r218x (d := d + 4) (b := b) (n := n) (g := g) e47b h56b n8 (by omega) hu (fun v hv => rht (d := d) (P := paB P b n X) (H := H) r2 h3 (paB_e (by rw [j16]; exact e16) hv) (by rw [j17]; exact e17) (fun I3 J3 f3 h4 h44 h45 => ?_)))
        rw [h45]
        by_cases c : gN g 3 ≤ hgt g W (paB P b n X) H 60
        · rw [if_pos c]
          refine ⟨fun z => absurd z (by decide), fun _ => ?_⟩
          have e := yes (by
            rw [hb, Bool.true_and]
            exact decide_eq_true c)
          subst e
          rw [← nI_succ]
          have := ih0 I3 J3 (by omega) (f2.tr f3) h4.h
          unfold rpI at this
          rw [bI_y (by omega), if_neg (by omega)] at this
          exact this
        · rw [if_neg c]
          refine ⟨fun _ => ?_, fun z => absurd rfl z⟩
          have e := noo (by
            rw [hb, Bool.true_and]
            exact decide_eq_false c)
          subst e
          rw [← nI_succ]
          exact ih0 I3 J3 (by omega) (f2.tr f3) h4.h
      clear ih ih0 yes noo
      have inn : ∀ (q i : Nat), i + q = n → wp S (d + 6) 219 39 [some (.ref 43), some (.int (bI B)), some (.int (rpI (fun X => psN g b X n) B)), some (.int (nI X)), some (.int (nI (psN g b X i))), some (.int (nI i))] [] (wv x I2 J2) (rI x Q) := by
        intro q
        induction q with
        | zero =>
          intro i hi
          have hi : i = n := by omega
          subst hi
          refine v219_43_39 (d := d + 5) ⟨fun w => absurd w (by rw [e47b]; exact nI_nlt (Nat.le_refl _) (by omega)), fun _ => ?_⟩
          have p1 := pl X
          have p2 := pl B
          by_cases y : B = 256
          · have ep : rpI (fun X => psN g b X i) B = nI 1000000000 := by rw [rpI_n, if_pos y]
            have bb : btB (fun X => psN g b X i) B X = true := by
              unfold btB
              rw [decide_eq_true y, Bool.true_or]
            have mid := mid bb
            rw [ep] at mid ⊢
            exact ⟨fun z => absurd z (nI_nlt (by omega) (by omega)), fun _ => ⟨fun z => absurd (nI_inj (by omega) (by omega) z) (by omega), fun _ => mid⟩⟩
          · have hB : B < 256 := by omega
            have ep : rpI (fun X => psN g b X i) B = nI (psN g b B i) := if_neg y
            have bb : btB (fun X => psN g b X i) B X = (decide (psN g b X i < psN g b B i) || decide (psN g b X i = psN g b B i ∧ bcN X < bcN B)) := by
              unfold btB
              rw [decide_eq_false y, Bool.false_or]
            rw [ep, bI_y hB] at mid nx
            rw [ep, bI_y hB]
            refine ⟨fun z => nx ?_, fun z => ⟨fun z2 => c154x (by omega) (c154x hB ⟨fun z3 => mid ?_, fun z3 => nx ?_⟩), fun z2 => mid ?_⟩⟩
            · have z := (nI_ltI (by omega) (by omega)).mp z
              rw [bb, decide_eq_false (by omega), decide_eq_false (by omega)]
              rfl
            · have z2 := nI_inj (by omega) (by omega) z2
              have z3 := (nI_ltI (by have := @bc_l X; omega) (by have := @bc_l B; omega)).mp z3
              rw [bb, decide_eq_true (show psN g b X i = psN g b B i ∧ bcN X < bcN B from ⟨z2, z3⟩), Bool.or_true]
            · have z2 := nI_inj (by omega) (by omega) z2
              have z3 := fun w => z3 (nI_lt (a := bcN X) (b := bcN B) w (by have := @bc_l B; omega))
              rw [bb, decide_eq_false (by omega), decide_eq_false (fun w => z3 w.2)]
              rfl
            · have z : ¬ psN g b B i < psN g b X i := fun w => z (nI_lt (a := psN g b B i) (b := psN g b X i) w (by omega))
              have z2 : ¬ psN g b X i = psN g b B i := fun w => z2 (by rw [w])
              rw [bb, decide_eq_true (by omega), Bool.true_or]
        | succ q ihq =>
          intro i hi
          have i2 := ihq (i + 1) (by omega)
          rw [show psN g b X (i + 1) = psN g b X i + (if X.testBit i = true then gN g (70 + (b i).toInt.toNat / gN g 1) else 0) from rfl] at i2
          refine v219_43_39 (d := d + 5) ⟨fun _ => c152 ⟨fun w => ⟨fun z => absurd z (by decide), fun _ => ⟨nI_in (by omega) (by omega), ?_⟩⟩, fun w => ⟨fun _ => ?_, fun z => absurd rfl z⟩⟩, fun w => absurd (by rw [e47b]; exact nI_lt (by omega) (by omega)) w⟩
          · have w := (hbt_n (by omega) (by omega)).mp w
            obtain ⟨s, hs, es, hse⟩ := ulB_s hu (show i < n by omega)
            rw [Nat.zero_add] at es
            rw [if_pos w, es, nI_tn (by omega)] at i2
            rw [nI_clamp (by omega), h56b i (by omega), es]
            refine r188x (d := d + 5) hG hI r2.2.2.2.2.1 hse ?_
            rw [nI_add, ← nI_succ]
            exact i2
          · have w := mt (hbt_n (by omega) (by omega)).mpr w
            rw [if_neg w, Nat.add_zero] at i2
            rw [Int32.add_zero, ← nI_succ]
            exact i2
      exact v219_43_23 (d := d + 5) ⟨fun _ => inn n 0 (by omega), fun q => absurd (by rw [e47b, sh_1 n (by omega)]; exact nI_lt (by omega) (by omega)) q⟩
  exact lp (2 ^ n) 0 I1 J (by omega) FH.rf r
/-- the reference: hush -/
theorem r221x {n : Nat} {Q : Int32 → rI0 → rJ0 → Prop} (hR : RH g W I J) (h3 : gN g 3 ≤ 64) (e16 : ∀ s, s < 64 → bits5 (J 43 16) s = P s) (e17 : ∀ s, s < 64 → bits5 (J 43 17) s = H s) (hb : ∀ i, i < 940 → I 44 i &&& 255 = b i) (e2 : I 43 2 = nI n) (hn : n ≤ 940) (k : ∀ I' J', FU I J I' J' → RH g W I' J' → Q (hushV g W P H b n) I' J') : wcI S (d + 6) 221 [.ref 43] x I J Q := by
  refine c221_43 (d := d + 5) (rHd (d := d + 2) (n := n) (b := b) hR hb e2 hn (fun h I1 f r => ⟨fun _ => ?_, fun z => absurd rfl z⟩) (fun h I1 f r e47 h56 => ⟨fun z => absurd z (by decide), fun _ => ?_⟩))
  · have kk := k I1 J f r
    unfold hushV at kk
    rw [h] at kk
    exact kk
  obtain ⟨n1, n8, hu⟩ := hdB_t h
  have h8 := pw_8 n8
  have lp : ∀ (j X : Nat) (I2 : rI0) (J2 : rJ0), X + j = 2 ^ n → FH I1 J I2 J2 → RH g W I2 J2 → wp S (d + 6) 221 19 [some (.ref 43), some (.int (bI (chN (fun X => !crB g W P (paB H b n X)) (fun _ => 0) X))), some (.int (nI X))] [] (wv x I2 J2) (rI x Q) := by
    intro j
    induction j with
    | zero =>
      intro X I2 J2 hX f2 r2
      have hX : X = 2 ^ n := by omega
      subst hX
      have kk := k I2 J2 (f.h f2) r2
      have e47b : I2 43 47 = nI n := (f2.2.1 47 (by decide) (by omega)).trans e47
      unfold hushV at kk
      rw [if_pos h] at kk
      exact v221_43_19 ⟨fun q => absurd q (by rw [e47b, sh_1 n (by omega)]; exact nI_nlt (Nat.le_refl _) (by omega)), fun _ => kk⟩
    | succ j ih =>
      intro X I2 J2 hX f2 r2
      have cl := chN_l (cr := fun X => !crB g W P (paB H b n X)) (ps := fun _ => 0) X (by omega)
      have yes := @chN_y (cr := fun X => !crB g W P (paB H b n X)) (ps := fun _ => 0) X
      have noo := @chN_n (cr := fun X => !crB g W P (paB H b n X)) (ps := fun _ => 0) X
      have e47b : I2 43 47 = nI n := (f2.2.1 47 (by decide) (by omega)).trans e47
      have h56b : ∀ j, j < n → I2 56 j = b j := fun j hj => by rw [f2.1 56 (by decide) (by decide)]; exact h56 j hj
      have j16 : J2 43 16 = J 43 16 := f2.2.2.2 16 (by omega)
      have j17 : J2 43 17 = J 43 17 := f2.2.2.2 17 (by omega)
      have ih0 := ih (X + 1)
      revert cl yes noo ih0
      generalize chN (fun X => !crB g W P (paB H b n X)) (fun _ => 0) (X + 1) = B1
      generalize chN (fun X => !crB g W P (paB H b n X)) (fun _ => 0) X = B
      intro cl yes noo ih0
      have nx : btB (fun _ => 0) B X = false → wp S (d + 6) 221 19 [some (.ref 43), some (.int (bI B)), some (.int (nI X + 1))] [] (wv x I2 J2) (rI x Q) := by
        intro hb
        have e := noo (by rw [hb, Bool.false_and])
        subst e
        rw [← nI_succ]
        exact ih0 I2 J2 (by omega) f2 r2
      have mid : btB (fun _ => 0) B X = true → wp S (d + 6) 221 49 [some (.ref 43), some (.int (bI B)), some (.int (nI X))] [] (wv x I2 J2) (rI x Q) := by
        intro hb
        refine v221_43_49 (d := d + 5) (r218x (d := d + 4) (b := b) (n := n) (g := g) e47b h56b n8 (by omega) hu (fun v hv => rht (d := d) (P := P) (H := paB H b n X) r2 h3 (by rw [j16]; exact e16) (paB_e (by rw [j17]; exact e17) hv) (fun I3 J3 f3 h4 h44 h45 => ?_)))
        rw [h45]
        by_cases c : gN g 3 ≤ hgt g W P (paB H b n X) 60
        · rw [if_pos c]
          refine ⟨fun z => absurd z (by decide), fun _ => ?_⟩
          have e := noo (by
            have c : crB g W P (paB H b n X) = true := decide_eq_true c
            rw [hb, Bool.true_and, c]
            rfl)
          subst e
          rw [← nI_succ]
          exact ih0 I3 J3 (by omega) (f2.tr f3) h4.h
        · rw [if_neg c]
          refine ⟨fun _ => ?_, fun z => absurd rfl z⟩
          have e := yes (by
            have c : crB g W P (paB H b n X) = false := decide_eq_false c
            rw [hb, Bool.true_and, c]
            rfl)
          subst e
          rw [← nI_succ]
          have := ih0 I3 J3 (by omega) (f2.tr f3) h4.h
          rw [bI_y (by omega)] at this
          exact this
      clear ih ih0 yes noo
      refine v221_43_19 (d := d + 5) ⟨fun _ => ?_, fun q => absurd (by rw [e47b, sh_1 n (by omega)]; exact nI_lt (by omega) (by omega)) q⟩
      by_cases y : B = 256
      · refine ⟨fun _ => mid ?_, fun z => absurd (by rw [bI_0 y]; decide) z⟩
        unfold btB
        rw [decide_eq_true y, Bool.true_or]
      · have hB : B < 256 := by omega
        have bb : btB (fun _ => 0) B X = decide (bcN X < bcN B) := by
          unfold btB
          rw [decide_eq_false y, Bool.false_or, decide_eq_false (Nat.lt_irrefl 0), Bool.false_or]
          exact decide_eq_decide.mpr ⟨fun w => w.2, fun w => ⟨rfl, w⟩⟩
        rw [bI_y hB] at mid nx
        rw [bI_y hB]
        refine ⟨fun z => absurd z (nI_n0 (by omega)), fun _ => c154x (by omega) (c154x hB ⟨fun z3 => mid ?_, fun z3 => nx ?_⟩)⟩
        · rw [bb]
          exact decide_eq_true ((nI_ltI (by have := @bc_l X; omega) (by have := @bc_l B; omega)).mp z3)
        · rw [bb]
          exact decide_eq_false (fun w => z3 (nI_lt (a := bcN X) (b := bcN B) w (by have := @bc_l B; omega)))
  exact lp (2 ^ n) 0 I1 J (by omega) FH.rf r
end TR1
end
