/-! hands: SEATS that the tape names, and their sets -/
section HN0
/-- m bytes from a on name SEATS, no two the same -/
def ulB (g b : Nat → Int32) (a : Nat) : Nat → Bool
  | 0 => true
  | m + 1 => ulB g b a m && (seI g (b (a + m)) && decide (nb (fun j => decide (b (a + j) = b (a + m))) m = 0))
def hSt (b : Nat → Int32) (n X u : Nat) : Bool := decide (0 < nb (fun i => X.testBit i && decide (b i = nI u)) n)
def psN (g b : Nat → Int32) (X : Nat) : Nat → Nat
  | 0 => 0
  | i + 1 => psN g b X i + (if X.testBit i = true then gN g (70 + (b i).toInt.toNat / gN g 1) else 0)
variable {S : Nat × (Nat → Int32)} {d : Nat} {x : mX} {I : rI0} {J : rJ0} {g b : Nat → Int32} {W : Nat → lV} {P H : Nat → Bool}
theorem ulB_f {a m : Nat} (h : ulB g b a m = false) : ∀ k, m ≤ k → ulB g b a k = false := by
  intro k hk
  induction k with
  | zero =>
    rw [show m = 0 by omega] at h
    exact h
  | succ k ih =>
    by_cases z : m = k + 1
    · rw [← z]
      exact h
    · show (ulB g b a k && _) = false
      rw [ih (by omega)]
      rfl
theorem ulB_s {a m i : Nat} (h : ulB g b a m = true) (hi : i < m) : ∃ s, s < 64 ∧ b (a + i) = nI s ∧ seB g s = true := by
  induction m with
  | zero => exact absurd hi (by omega)
  | succ m ih =>
    have h : (ulB g b a m && (seI g (b (a + m)) && decide (nb (fun j => decide (b (a + j) = b (a + m))) m = 0))) = true := h
    rw [Bool.and_eq_true, Bool.and_eq_true] at h
    by_cases z : i = m
    · rw [z]
      exact seI_t h.2.1
    · exact ih h.1 (by omega)
/-- the class: areUnlikeSeats -/
theorem c81x {a n : Nat} {Q : Int32 → rI0 → rJ0 → Prop} (hb : ∀ s, s < 64 → bits5 (J 4 5) s = seB g s) (e2 : I 2 = b) (ha : a ≤ n) (hn : n ≤ 940) (k : Q (nI (if ulB g b a (n - a) = true then 1 else 0)) I J) : wcI S (d + 1) 81 [.ref 37, .int (nI a), .int (nI n)] x I J Q := by
  have no : ∀ m, m ≤ n - a → ulB g b a m = false → Q 0 I J := by
    intro m hm h
    rw [ulB_f h (n - a) hm] at k
    exact k
  have lp : ∀ (j m : Nat) (l3 : Int64), a + m + j = n → ulB g b a m = true → (∀ u, u < 64 → bits5 l3 u = decide (0 < nb (fun j => decide (b (a + j) = nI u)) m)) → wp S (d + 1) 81 5 [some (.ref 37), some (.int (nI a)), some (.int (nI n)), some (.long l3), none, some (.int (nI (a + m)))] [] (wv x I J) (rI x Q) := by
    intro j
    induction j with
    | zero =>
      intro m l3 hm hu hl
      rw [show n - a = m by omega, hu] at k
      exact v81_37_5 ⟨fun q => absurd q (nI_nlt (by omega) (by omega)), fun _ => k⟩
    | succ j ih =>
      intro m l3 hm hu hl
      have us : ulB g b a (m + 1) = (seI g (b (a + m)) && decide (nb (fun j => decide (b (a + j) = b (a + m))) m = 0)) := by
        show (ulB g b a m && _) = _
        rw [hu, Bool.true_and]
      have io : ¬ mOut (nI (a + m)) 940 := nI_in (by omega) (by omega)
      refine v81_37_5 ⟨fun _ => ⟨io, ?_⟩, fun q => absurd (nI_lt (by omega) (by omega)) q⟩
      rw [nI_clamp (by omega), e2]
      refine cIs hb (fun s hs es hse hsi => ⟨fun z => absurd z (by decide), fun _ => ⟨io, ?_⟩⟩) (fun hsi => ⟨fun _ => no (m + 1) (by omega) (by rw [us, hsi]; rfl), fun z => absurd rfl z⟩)
      rw [hsi, Bool.true_and] at us
      rw [es] at us
      rw [e2, es]
      refine bO hs ?_
      rw [hl s hs]
      by_cases z : 0 < nb (fun j => decide (b (a + j) = nI s)) m
      · rw [decide_eq_true z]
        refine ⟨fun _ => no (m + 1) (by omega) (by rw [us]; exact decide_eq_false (by omega)), fun y => absurd rfl y⟩
      · rw [decide_eq_false z]
        refine ⟨fun y => absurd y (by decide), fun _ => ⟨io, ?_⟩⟩
        rw [e2, es, ← nI_succ]
        refine ih (m + 1) _ (by omega) (by rw [us]; exact decide_eq_true (by omega)) (fun u hu2 => ?_)
        rw [b5_or, hl u hu2, b5_1 hs, nb_s, es, ← Bool.decide_or]
        refine decide_eq_decide.mpr ?_
        by_cases y : u = s
        · rw [y, decide_eq_true (show nI s = nI s from rfl), if_pos rfl]
          exact iff_of_true (Or.inr rfl) (by omega)
        · rw [decide_eq_false (show ¬ nI s = nI u from fun w => y (nI_ij (by omega) (by omega) w).symm), if_neg (by decide)]
          exact ⟨fun w => w.elim (fun v => by omega) (fun v => absurd v y), fun w => Or.inl (by omega)⟩
  exact c81_37 (lp (n - a) 0 0 (by omega) rfl (fun u hu => by rw [b5_0]; rfl))
/-- the class: areHands -/
theorem c80x {n : Nat} {Q : Int32 → rI0 → rJ0 → Prop} (hb : ∀ s, s < 64 → bits5 (J 4 5) s = seB g s) (e2 : I 2 = b) (hn : n ≤ 940) (k : Q (nI (if (decide (1 ≤ n ∧ n ≤ 8) && ulB g b 0 n) = true then 1 else 0)) I J) : wcI S (d + 2) 80 [.ref 37, .int (nI n)] x I J Q := by
  refine c80_37 ⟨fun q => ?_, fun q => ⟨fun q2 => ?_, fun q2 => c81x (a := 0) (d := d) hb e2 (Nat.zero_le _) hn ?_⟩⟩
  · have q := (nI_ltI (b := 1) (by omega) (by omega)).mp q
    rw [decide_eq_false (by omega), Bool.false_and] at k
    exact k
  · have q2 := (nI_ltI (a := 8) (by omega) (by omega)).mp q2
    rw [decide_eq_false (by omega), Bool.false_and] at k
    exact k
  · have q : ¬ n < 1 := fun z => q (nI_lt (b := 1) z (by omega))
    have q2 : ¬ 8 < n := fun z => q2 (nI_lt (a := 8) z (by omega))
    rw [decide_eq_true (by omega), Bool.true_and] at k
    cases y : ulB g b 0 (n - 0) with
    | false =>
      rw [show n - 0 = n by omega] at y
      rw [y] at k
      exact ⟨fun _ => k, fun z => absurd rfl z⟩
    | true =>
      rw [show n - 0 = n by omega] at y
      rw [y] at k
      exact ⟨fun z => absurd z (by decide), fun _ => k⟩
theorem hSt_s {n X u : Nat} : hSt b (n + 1) X u = (hSt b n X u || (X.testBit n && decide (b n = nI u))) := by
  unfold hSt
  rw [nb_s]
  cases y : (X.testBit n && decide (b n = nI u)) with
  | true =>
    rw [Bool.or_true, if_pos rfl]
    exact decide_eq_true (by omega)
  | false =>
    rw [Bool.or_false, if_neg (by decide)]
    rfl
theorem hSt_se {n X u : Nat} (h : ulB g b 0 n = true) (hu : hSt b n X u = true) (h64 : u < 64) : seB g u = true := by
  unfold hSt at hu
  obtain ⟨i, hi, e⟩ := (nb_pos n).mp (of_decide_eq_true hu)
  rw [Bool.and_eq_true, decide_eq_true_iff] at e
  obtain ⟨s, hs, e2, e3⟩ := ulB_s h hi
  rw [Nat.zero_add, e.2] at e2
  rw [nI_ij (by omega) (by omega) e2]
  exact e3
theorem put_h {l : Int64} {n X s : Nat} (hs : s < 64) (e : b n = nI s) (ht : X.testBit n = true) (h : ∀ u, u < 64 → bits5 l u = hSt b n X u) : ∀ u, u < 64 → bits5 (l ||| ((1 : Int64) <<< ((nI s).toInt64 &&& 63))) u = hSt b (n + 1) X u := by
  intro u hu
  rw [b5_or, h u hu, b5_1 hs, hSt_s, ht, e, Bool.true_and]
  congr 1
  exact decide_eq_decide.mpr ⟨fun w => by rw [w], fun w => (nI_ij (by omega) (by omega) w).symm⟩
theorem skip_h {l : Int64} {n X : Nat} (ht : ¬ X.testBit n = true) (h : ∀ u, u < 64 → bits5 l u = hSt b n X u) : ∀ u, u < 64 → bits5 l u = hSt b (n + 1) X u := by
  intro u hu
  rw [h u hu, hSt_s, ts_nt ht, Bool.false_and, Bool.or_false]
/-- the class: seatsOf -/
theorem c82x {n X : Nat} {Q : Int64 → rI0 → rJ0 → Prop} (e2 : I 2 = b) (hn : n ≤ 8) (hX : X < 256) (hu : ulB g b 0 n = true) (k : ∀ v, (∀ u, u < 64 → bits5 v u = hSt b n X u) → Q v I J) : wcJ S d 82 [.ref 37, .int (nI X), .int (nI n)] x I J Q := by
  have lp : ∀ (j i : Nat) (l : Int64), i + j = n → (∀ u, u < 64 → bits5 l u = hSt b i X u) → wp S d 82 5 [some (.ref 37), some (.int (nI X)), some (.int (nI n)), some (.long l), none, some (.int (nI i))] [] (wv x I J) (rJ x Q) := by
    intro j
    induction j with
    | zero =>
      intro i l hi h
      have hi : i = n := by omega
      subst hi
      exact v82_37_5 ⟨fun q => absurd q (nI_nlt (Nat.le_refl _) (by omega)), fun _ => k l h⟩
    | succ j ih =>
      intro i l hi h
      refine v82_37_5 ⟨fun _ => ⟨fun q => ?_, fun q => ⟨nI_in (by omega) (by omega), ?_⟩⟩, fun q => absurd (nI_lt (by omega) (by omega)) q⟩
      · have q := (hcu_n hX (by omega)).mp q
        rw [← nI_succ]
        exact ih (i + 1) l (by omega) (skip_h q h)
      · have q : X.testBit i = true := Classical.not_not.mp (fun w => q ((hcu_n hX (by omega)).mpr w))
        obtain ⟨s, hs, es, -⟩ := ulB_s hu (show i < n by omega)
        rw [Nat.zero_add] at es
        rw [nI_clamp (by omega), e2, es, ← nI_succ]
        exact ih (i + 1) _ (by omega) (put_h hs es q h)
  exact c82_37 (lp n 0 0 (by omega) (fun u hu => by rw [b5_0]; rfl))
theorem psN_l {X : Nat} (hp : ∀ r, r < 8 → gN g (70 + r) ≤ 999) (hG : GA g) : ∀ n, ulB g b 0 n = true → psN g b X n ≤ 999 * n := by
  intro n
  induction n with
  | zero => intro _; exact Nat.le_refl _
  | succ n ih =>
    intro h
    have h1 : ulB g b 0 n = true := by
      have h : (ulB g b 0 n && _) = true := h
      rw [Bool.and_eq_true] at h
      exact h.1
    obtain ⟨s, hs, es, hse⟩ := ulB_s h (show n < n + 1 by omega)
    rw [Nat.zero_add] at es
    have ih := ih h1
    have hr := (seC hG hse).2.1
    have := hp (s / gN g 1) (by have := hG.1; omega)
    show psN g b X n + (if X.testBit n = true then gN g (70 + (b n).toInt.toNat / gN g 1) else 0) ≤ _
    rw [es, nI_tn (by omega)]
    split <;> omega
/-- the class: rowOf, priceOf -/
theorem c26x {s : Nat} {Q : Int32 → rI0 → rJ0 → Prop} (hG : GA g) (hM : HM g W I J) (hP : ∀ r, r < 8 → I 7 r = nI (gN g (70 + r))) (hse : seB g s = true) (k : Q (nI (gN g (70 + s / gN g 1))) I J) : wcI S (d + 2) 26 [.ref 4, .int (nI s)] x I J Q := by
  obtain ⟨hc, hr, hm⟩ := seC hG hse
  have hs := seB_l hse
  have sl := (hG.2.2.2.2.1 s hse).1
  have h8 := hG.1
  have h8c := hG.2.1
  have hRC : gN g 0 * gN g 1 ≤ 64 := Nat.le_trans (Nat.mul_le_mul h8 h8c) (by omega)
  have e1 : nI s / nI (gN g 1) = nI (s / gN g 1) := by
    rw [← Int32.toInt_inj, (i_div (nI_toInt (show s < 2 ^ 31 by omega)) (nI_toInt (show gN g 1 < 2 ^ 31 by omega)) (by omega) (by omega)).1, nI_toInt (by omega)]
    exact (Int.natCast_ediv s (gN g 1)).symm
  refine c26_4 (c25_4 ⟨fun _ => ⟨fun q => absurd q (nI_nlt (b := 0) (by omega) (by omega)), fun _ => c23_4 ⟨fun _ => ⟨?_, ?_, ?_⟩, fun q => absurd ?_ q⟩⟩, fun q => absurd ?_ q⟩)
  · rw [hM.2.1]
    exact fun z => absurd (nI_ij (b := 0) (by omega) (by omega) z) (by omega)
  · rw [hM.2.1, e1]
    exact nI_in (by omega) (by omega)
  · rw [hM.2.1, e1, nI_clamp (by omega), hP _ (by omega)]
    exact k
  · rw [hM.1, hM.2.1, nI_mu]
    exact nI_lt sl (by omega)
  · rw [hM.2.1]
    exact nI_lt (a := 0) hc (by omega)
/-- the class: priceOfSet -/
theorem c83x {n X : Nat} {Q : Int32 → rI0 → rJ0 → Prop} (hG : GA g) (hM : HM g W I J) (hP : ∀ r, r < 8 → I 7 r = nI (gN g (70 + r))) (e2 : I 2 = b) (hn : n ≤ 8) (hX : X < 256) (hu : ulB g b 0 n = true) (k : Q (nI (psN g b X n)) I J) : wcI S (d + 3) 83 [.ref 37, .int (nI X), .int (nI n)] x I J Q := by
  have lp : ∀ (j i : Nat), i + j = n → wp S (d + 3) 83 5 [some (.ref 37), some (.int (nI X)), some (.int (nI n)), some (.int (nI (psN g b X i))), some (.int (nI i))] [] (wv x I J) (rI x Q) := by
    intro j
    induction j with
    | zero =>
      intro i hi
      have hi : i = n := by omega
      subst hi
      exact v83_37_5 ⟨fun q => absurd q (nI_nlt (Nat.le_refl _) (by omega)), fun _ => k⟩
    | succ j ih =>
      intro i hi
      have i2 := ih (i + 1) (by omega)
      rw [show psN g b X (i + 1) = psN g b X i + (if X.testBit i = true then gN g (70 + (b i).toInt.toNat / gN g 1) else 0) from rfl] at i2
      refine v83_37_5 (d := d + 2) ⟨fun _ => ⟨fun q => ?_, fun q => ⟨nI_in (by omega) (by omega), ?_⟩⟩, fun q => absurd (nI_lt (by omega) (by omega)) q⟩
      · have q := (hcu_n hX (by omega)).mp q
        rw [if_neg q] at i2
        rw [← nI_succ]
        exact i2
      · have q : X.testBit i = true := Classical.not_not.mp (fun w => q ((hcu_n hX (by omega)).mpr w))
        obtain ⟨s, hs, es, hse⟩ := ulB_s hu (show i < n by omega)
        rw [Nat.zero_add] at es
        rw [if_pos q, es, nI_tn (by omega)] at i2
        rw [nI_clamp (by omega), e2, es]
        refine c26x (d := d) hG hM hP hse ?_
        rw [nI_add, ← nI_succ]
        exact i2
  exact c83_37 (lp n 0 (by omega))
/-! the reference -/
theorem r216x {a n : Nat} {Q : Int32 → rI0 → rJ0 → Prop} (hG : GA g) (hI : GI g) (eg : I 45 = g) (hb : ∀ i, i < 940 → I 44 i &&& 255 = b i) (ha : a ≤ n) (hn : n ≤ 940) (h14 : n - a ≤ 14) (k : ∀ I', (∀ r, r ≠ 43 → r ≠ 56 → I' r = I r) → (∀ q, q ≠ 47 → I' 43 q = I 43 q) → (ulB g b a (n - a) = true → I' 43 47 = nI (n - a) ∧ ∀ j, j < n - a → I' 56 j = b (a + j)) → Q (nI (if ulB g b a (n - a) = true then 1 else 0)) I' J) : wcI S (d + 2) 216 [.ref 43, .int (nI a), .int (nI n)] x I J Q := by
  have lp : ∀ (j m : Nat) (I1 : rI0), a + m + j = n → ulB g b a m = true → (∀ r, r ≠ 43 → r ≠ 56 → I1 r = I r) → (∀ q, q ≠ 47 → I1 43 q = I 43 q) → I1 43 47 = nI m → (∀ j, j < m → I1 56 j = b (a + j)) → wp S (d + 2) 216 17 [some (.ref 43), some (.int (nI a)), some (.int (nI n)), some (.int (nI (a + m))), none, none] [] (wv x I1 J) (rI x Q) := by
    intro j
    induction j with
    | zero =>
      intro m I1 hm hu f1 f2 e47 h56
      have em : n - a = m := by omega
      have kk := k I1 f1 f2 (fun _ => ⟨by rw [em]; exact e47, by rw [em]; exact h56⟩)
      rw [em, hu] at kk
      exact v216_43_17 ⟨fun q => absurd q (nI_nlt (by omega) (by omega)), fun _ => kk⟩
    | succ j ih =>
      intro m I1 hm hu f1 f2 e47 h56
      have us : ulB g b a (m + 1) = (seI g (b (a + m)) && decide (nb (fun j => decide (b (a + j) = b (a + m))) m = 0)) := by
        show (ulB g b a m && _) = _
        rw [hu, Bool.true_and]
      have no : ulB g b a (m + 1) = false → Q 0 I1 J := by
        intro h
        have hf := ulB_f h (n - a) (by omega)
        have kk := k I1 f1 f2 (fun y => by rw [hf] at y; cases y)
        rw [hf] at kk
        exact kk
      refine v216_43_17 (d := d + 1) ⟨fun _ => c155_43 ⟨nI_in (by omega) (by omega), ?_⟩, fun q => absurd (nI_lt (by omega) (by omega)) q⟩
      rw [nI_clamp (by omega), f1 44 (by decide) (by decide), hb (a + m) (by omega)]
      refine rIs (d := d) hG hI ((f1 45 (by decide) (by decide)).trans eg) (fun s hs es hse hsi => ⟨fun z => absurd z (by decide), fun _ => ?_⟩) (fun hsi => ⟨fun _ => no (by rw [us, hsi]; rfl), fun z => absurd rfl z⟩)
      rw [hsi, Bool.true_and] at us
      have inn : ∀ (i q : Nat), q + i = m → (∀ j, j < q → b (a + j) ≠ b (a + m)) → wp S (d + 2) 216 43 [some (.ref 43), some (.int (nI a)), some (.int (nI n)), some (.int (nI (a + m))), some (.int (b (a + m))), some (.int (nI q))] [] (wv x I1 J) (rI x Q) := by
        intro i
        induction i with
        | zero =>
          intro q hq hd
          have hq : q = m := by omega
          subst hq
          refine v216_43_43 ⟨fun w => absurd w (by rw [e47]; exact nI_nlt (Nat.le_refl _) (by omega)), fun _ => ⟨by rw [e47]; exact nI_in (by omega) (by omega), ?_⟩⟩
          rw [e47, nI_clamp (by omega), ← nI_succ, ← nI_succ]
          have un : ulB g b a (q + 1) = true := by
            rw [us]
            exact decide_eq_true (nb_none q (fun j hj => decide_eq_false (hd j hj)))
          refine ih (q + 1) _ (by omega) un (fun r h1 h2 => by rw [mSet_ne h1, mSet_ne h2]; exact f1 r h1 h2) (fun w hw => ?_) rfl (fun j hj => ?_)
          · show mSet (mSet I1 56 q _) 43 47 _ 43 w = _
            rw [show mSet (mSet I1 56 q (b (a + q))) 43 47 (nI (q + 1)) 43 w = (mSet I1 56 q (b (a + q))) 43 w from by unfold mSet va_up; rw [if_pos rfl, if_neg hw], mSet_ne (by decide)]
            exact f2 w hw
          · rw [mSet_ne (by decide)]
            show mSet I1 56 q _ 56 j = _
            unfold mSet va_up
            rw [if_pos rfl]
            by_cases y : j = q
            · rw [if_pos y, y]
            · rw [if_neg y]
              exact h56 j (by omega)
        | succ i ih2 =>
          intro q hq hd
          refine v216_43_43 ⟨fun _ => ⟨nI_in (by omega) (by omega), ?_⟩, fun w => absurd (by rw [e47]; exact nI_lt (by omega) (by omega)) w⟩
          rw [nI_clamp (by omega), h56 q (by omega), ← nI_succ]
          refine ⟨fun w => no ?_, fun w => ih2 (q + 1) (by omega) (fun j hj => ?_)⟩
          · rw [us]
            refine decide_eq_false (fun y => ?_)
            have : 0 < nb (fun j => decide (b (a + j) = b (a + m))) m := (nb_pos m).mpr ⟨q, by omega, decide_eq_true w⟩
            omega
          · by_cases y : j = q
            · rw [y]
              exact w
            · exact hd j (by omega)
      exact inn m 0 (by omega) (fun j hj => absurd hj (by omega))
  have en : nI n - nI a = nI (n - a) := by
    rw [← Int32.toInt_inj, i_sub (nI_toInt (by omega)) (nI_toInt (by omega)) (by omega), nI_toInt (by omega)]
    omega
  refine c216_43 ⟨fun q => absurd q (by rw [en]; exact nI_nlt (a := 14) (by omega) (by omega)), fun _ => lp (n - a) 0 _ (by omega) rfl (fun r h1 _ => mSet_ne h1) (fun q hq => ?_) rfl (fun j hj => absurd hj (by omega))⟩
  show mSet I 43 47 _ 43 q = _
  unfold mSet va_up
  rw [if_pos rfl, if_neg hq]
/-- what taking the tape leaves as it was -/
def FT (I : rI0) (I' : rI0) : Prop := (∀ r, r ≠ 43 → r ≠ 56 → I' r = I r) ∧ (∀ q, ¬ (2 ≤ q ∧ q ≤ 5) → q ≠ 47 → I' 43 q = I 43 q) ∧ I' 43 2 = 0
theorem r217x {n : Nat} {Q : Int32 → rI0 → rJ0 → Prop} (hG : GA g) (hI : GI g) (eg : I 45 = g) (hb : ∀ i, i < 940 → I 44 i &&& 255 = b i) (e2 : I 43 2 = nI n) (hn : n ≤ 940) (k : ∀ I', FT I I' → ((decide (1 ≤ n ∧ n ≤ 8) && ulB g b 0 n) = true → I' 43 47 = nI n ∧ ∀ j, j < n → I' 56 j = b j) → Q (nI (if (decide (1 ≤ n ∧ n ≤ 8) && ulB g b 0 n) = true then 1 else 0)) I' J) : wcI S (d + 3) 217 [.ref 43] x I J Q := by
  have f0 : FT I (mSet (mSet (mSet (mSet I 43 3 (I 43 2)) 43 2 0) 43 4 0) 43 5 940) := ⟨fun r h _ => by rw [mSet_ne h, mSet_ne h, mSet_ne h, mSet_ne h], fun q h _ => by unfold mSet va_up; rw [if_pos rfl, if_neg (by omega), if_pos rfl, if_neg (by omega), if_pos rfl, if_neg (by omega), if_pos rfl, if_neg (by omega)], rfl⟩
  refine c217_43 (c150_43 ?_)
  have e3 : (mSet (mSet (mSet (mSet I 43 3 (I 43 2)) 43 2 0) 43 4 0) 43 5 940) 43 3 = nI n := e2
  rw [e3]
  refine rIn (a := 1) (b := 8) (by decide) (by decide) (by omega) (fun t h1 h2 et _ => ⟨fun z => absurd z (by decide), fun _ => ?_⟩) (fun hh => ⟨fun _ => ?_, fun z => absurd rfl z⟩)
  · have et : n = t := by
      have := congrArg Int32.toInt et
      rw [nI_toInt (by omega), nI_toInt (by omega)] at this
      omega
    have n8 : 1 ≤ n ∧ n ≤ 8 := by omega
    rw [decide_eq_true n8, Bool.true_and] at k
    rw [e3]
    refine r216x (a := 0) (b := b) (d := d) hG hI ((f0.1 45 (by decide) (by decide)).trans eg) (fun i hi => hb i hi) (Nat.zero_le _) hn (by omega) (fun I1 f1 f2 h47 => ?_)
    rw [show n - 0 = n by omega] at h47 ⊢
    have f3 : FT I I1 := ⟨fun r h1 h2 => (f1 r h1 h2).trans (f0.1 r h1 h2), fun q h1 h2 => (f2 q h2).trans (f0.2.1 q h1 h2), (f2 2 (by decide)).trans f0.2.2⟩
    have kk := k I1 f3 (fun y => by
      have := h47 y
      exact ⟨this.1, fun j hj => by have := this.2 j hj; rw [Nat.zero_add] at this; exact this⟩)
    cases y : ulB g b 0 n with
    | false =>
      rw [y] at kk
      exact ⟨fun _ => kk, fun z => absurd rfl z⟩
    | true =>
      rw [y] at kk
      exact ⟨fun z => absurd z (by decide), fun _ => kk⟩
  · rw [nI_toInt (by omega)] at hh
    have n8 : ¬ (1 ≤ n ∧ n ≤ 8) := fun y => absurd (of_decide_eq_false hh) (fun w => w (by omega))
    rw [decide_eq_false n8, Bool.false_and] at k
    exact k _ f0 (fun y => by cases y)
/-- the reference: bitsOf -/
theorem r218x {n X : Nat} {Q : Int64 → rI0 → rJ0 → Prop} (e47 : I 43 47 = nI n) (h56 : ∀ j, j < n → I 56 j = b j) (hn : n ≤ 8) (hX : X < 256) (hu : ulB g b 0 n = true) (k : ∀ v, (∀ u, u < 64 → bits5 v u = hSt b n X u) → Q v I J) : wcJ S (d + 1) 218 [.ref 43, .int (nI X)] x I J Q := by
  have lp : ∀ (j i : Nat) (l : Int64), i + j = n → (∀ u, u < 64 → bits5 l u = hSt b i X u) → wp S (d + 1) 218 5 [some (.ref 43), some (.int (nI X)), some (.long l), none, some (.int (nI i))] [] (wv x I J) (rJ x Q) := by
    intro j
    induction j with
    | zero =>
      intro i l hi h
      have hi : i = n := by omega
      subst hi
      exact v218_43_5 ⟨fun q => absurd q (by rw [e47]; exact nI_nlt (Nat.le_refl _) (by omega)), fun _ => k l h⟩
    | succ j ih =>
      intro i l hi h
      refine v218_43_5 ⟨fun _ => c152 ⟨fun q => ⟨fun z => absurd z (by decide), fun _ => ⟨nI_in (by omega) (by omega), ?_⟩⟩, fun q => ⟨fun _ => ?_, fun z => absurd rfl z⟩⟩, fun q => absurd (by rw [e47]; exact nI_lt (by omega) (by omega)) q⟩
      · have q := (hbt_n hX (by omega)).mp q
        obtain ⟨s, hs, es, -⟩ := ulB_s hu (show i < n by omega)
        rw [Nat.zero_add] at es
        rw [nI_clamp (by omega), h56 i (by omega), es, ← nI_succ]
        exact ih (i + 1) _ (by omega) (put_h hs es q h)
      · have q := mt (hbt_n hX (by omega)).mpr q
        rw [← nI_succ]
        refine ih (i + 1) _ (by omega) (skip_h q (fun u hu2 => ?_))
        rw [b5_or, b5_0, Bool.or_false]
        exact h u hu2
  exact c218_43 (lp n 0 0 (by omega) (fun u hu => by rw [b5_0]; rfl))
/-- the reference: price -/
theorem r188x {s : Nat} {Q : Int32 → rI0 → rJ0 → Prop} (hG : GA g) (hI : GI g) (eg : I 45 = g) (hse : seB g s = true) (k : Q (nI (gN g (70 + s / gN g 1))) I J) : wcI S d 188 [.ref 43, .int (nI s)] x I J Q := by
  obtain ⟨-, z1, -, -, -, -⟩ := k0c
  obtain ⟨hc, hr, hm⟩ := seC hG hse
  have hs := seB_l hse
  have h8 := hG.1
  have h8c := hG.2.1
  have e1 : nI s / nI (gN g 1) = nI (s / gN g 1) := by
    rw [← Int32.toInt_inj, (i_div (nI_toInt (show s < 2 ^ 31 by omega)) (nI_toInt (show gN g 1 < 2 ^ 31 by omega)) (by omega) (by omega)).1, nI_toInt (by omega)]
    exact (Int.natCast_ediv s (gN g 1)).symm
  have ei : (70 : Int32) + nI (s / gN g 1) = nI (70 + s / gN g 1) := by
    show nI 70 + _ = _
    rw [nI_add]
  refine c188_43 ?_
  rw [z1, eg, hI.1 1 (by omega), e1, ei, nI_clamp (by omega), (hI.2.2.1 _ (by omega)).1]
  exact ⟨by decide, fun z => absurd (nI_ij (b := 0) (by omega) (by omega) z) (by omega), nI_in (by omega) (by omega), k⟩
/-! counting the bits of a set -/
end HN0
