section MC0
theorem mWordA {S : Nat × (Nat → Int32)} {d : Nat} {x : mX} {I : rI0} {J : rJ0} {p1 : Int64} {Q : Int32 → rI0 → rJ0 → Prop} (k : ∀ r, (r.toInt = 0 ∨ r.toInt = 1) → Q r I J) : wcI S (d + 0) 163 [.ref 43, .long p1] x I J Q := by
  refine c163_43 ?_
  have t1 : TI (1 : Int32) (1) := show (1 : Int32).toInt = 1 by decide
  refine ⟨fun q2 => ?_, fun q2 => ?_⟩
  · have c3 := j_eq q2 (ti_r (e := (I 43 9))) t1
    refine ⟨fun q4 => ?_, fun q4 => ?_⟩
    · exact k _ (by (try simp only [t1.o, true_or, or_true, true_and, and_true]); first | done | omega)
    · have t5 : TI (0 : Int32) (0) := show (0 : Int32).toInt = 0 by decide
      exact k _ (by (try simp only [t5.o, true_or, or_true, true_and, and_true]); first | done | omega)
  · have c6 := j_ne q2 (ti_r (e := (I 43 9))) t1
    have t7 : TI (0 : Int32) (0) := show (0 : Int32).toInt = 0 by decide
    exact k _ (by (try simp only [t7.o, true_or, or_true, true_and, and_true]); first | done | omega)
theorem mAtom {S : Nat × (Nat → Int32)} {d : Nat} {x : mX} {I : rI0} {J : rJ0} {Q : Int32 → rI0 → rJ0 → Prop} (k : ∀ r, (-1 ≤ r.toInt ∧ r.toInt ≤ 7) → Q r I J) : wcI S (d + 1) 178 [.ref 43] x I J Q := by
  refine c178_43 ?_
  refine mWordA  ?_
  intro r1 g1a
  have t1 : TI (0 : Int32) (0) := show (0 : Int32).toInt = 0 by decide
  refine ⟨fun q2 => ?_, fun q2 => ?_⟩
  · have c3 := j_eq q2 (ti_r (e := r1)) t1
    refine mWordA  ?_
    intro r2 g2a
    refine ⟨fun q4 => ?_, fun q4 => ?_⟩
    · have c5 := j_eq q4 (ti_r (e := r2)) t1
      refine mWordA  ?_
      intro r3 g3a
      refine ⟨fun q6 => ?_, fun q6 => ?_⟩
      · have c7 := j_eq q6 (ti_r (e := r3)) t1
        refine mWordA  ?_
        intro r4 g4a
        refine ⟨fun q8 => ?_, fun q8 => ?_⟩
        · have c9 := j_eq q8 (ti_r (e := r4)) t1
          refine mWordA  ?_
          intro r5 g5a
          refine ⟨fun q10 => ?_, fun q10 => ?_⟩
          · have c11 := j_eq q10 (ti_r (e := r5)) t1
            refine mWordA  ?_
            intro r6 g6a
            refine ⟨fun q12 => ?_, fun q12 => ?_⟩
            · have c13 := j_eq q12 (ti_r (e := r6)) t1
              refine mWordA  ?_
              intro r7 g7a
              refine ⟨fun q14 => ?_, fun q14 => ?_⟩
              · have c15 := j_eq q14 (ti_r (e := r7)) t1
                refine mWordA  ?_
                intro r8 g8a
                refine ⟨fun q16 => ?_, fun q16 => ?_⟩
                · have c17 := j_eq q16 (ti_r (e := r8)) t1
                  have t18 : TI (-1 : Int32) (-1) := show (-1 : Int32).toInt = -1 by decide
                  exact k _ (by (try simp only [t18.o, true_or, or_true, true_and, and_true]); first | done | omega)
                · have c19 := j_ne q16 (ti_r (e := r8)) t1
                  have t20 : TI (7 : Int32) (7) := show (7 : Int32).toInt = 7 by decide
                  exact k _ (by (try simp only [t20.o, true_or, or_true, true_and, and_true]); first | done | omega)
              · have c21 := j_ne q14 (ti_r (e := r7)) t1
                have t22 : TI (6 : Int32) (6) := show (6 : Int32).toInt = 6 by decide
                exact k _ (by (try simp only [t22.o, true_or, or_true, true_and, and_true]); first | done | omega)
            · have c23 := j_ne q12 (ti_r (e := r6)) t1
              have t24 : TI (5 : Int32) (5) := show (5 : Int32).toInt = 5 by decide
              exact k _ (by (try simp only [t24.o, true_or, or_true, true_and, and_true]); first | done | omega)
          · have c25 := j_ne q10 (ti_r (e := r5)) t1
            have t26 : TI (4 : Int32) (4) := show (4 : Int32).toInt = 4 by decide
            exact k _ (by (try simp only [t26.o, true_or, or_true, true_and, and_true]); first | done | omega)
        · have c27 := j_ne q8 (ti_r (e := r4)) t1
          have t28 : TI (3 : Int32) (3) := show (3 : Int32).toInt = 3 by decide
          exact k _ (by (try simp only [t28.o, true_or, or_true, true_and, and_true]); first | done | omega)
      · have c29 := j_ne q6 (ti_r (e := r3)) t1
        have t30 : TI (2 : Int32) (2) := show (2 : Int32).toInt = 2 by decide
        exact k _ (by (try simp only [t30.o, true_or, or_true, true_and, and_true]); first | done | omega)
    · have c31 := j_ne q4 (ti_r (e := r2)) t1
      have t32 : TI (1 : Int32) (1) := show (1 : Int32).toInt = 1 by decide
      exact k _ (by (try simp only [t32.o, true_or, or_true, true_and, and_true]); first | done | omega)
  · have c33 := j_ne q2 (ti_r (e := r1)) t1
    exact k _ (by (try simp only [t1.o, true_or, or_true, true_and, and_true]); first | done | omega)
variable {S : Nat × (Nat → Int32)} {d : Nat} {x : mX} {I I' I0 : rI0} {J J' J0 : rJ0} {Tl : Int32} {R C P Z : Int}
def sOK (s : Int32) : Prop := ¬ s &&& 7 = 3 ∧ ¬ s &&& 7 = 4 ∧ ¬ s &&& 7 = 5 ∧ ((s >>> ((3 : Int32) &&& 31)) &&& 7).toInt ≤ 5
theorem sOK1 : sOK ((1 : Int32) ||| ((0 : Int32) <<< ((3 : Int32) &&& 31))) := by unfold sOK; decide
theorem sOK2 : sOK ((2 : Int32) ||| ((0 : Int32) <<< ((3 : Int32) &&& 31))) := by unfold sOK; decide
theorem sOKa : ∀ t, t < 6 → (¬ ((0 : Int32) ||| (nI t <<< ((3 : Int32) &&& 31))) &&& 7 = 3 ∧ ¬ ((0 : Int32) ||| (nI t <<< ((3 : Int32) &&& 31))) &&& 7 = 4 ∧ ¬ ((0 : Int32) ||| (nI t <<< ((3 : Int32) &&& 31))) &&& 7 = 5 ∧ ((((0 : Int32) ||| (nI t <<< ((3 : Int32) &&& 31))) >>> ((3 : Int32) &&& 31)) &&& 7).toInt ≤ 5) := by decide
theorem sOKt {l : Int32} (h : 0 ≤ l.toInt ∧ l.toInt < 6) : sOK ((0 : Int32) ||| (l <<< ((3 : Int32) &&& 31))) := by
  obtain ⟨t, ht, rfl⟩ := i_nI (n := 5) h.1 (by omega) (by omega)
  exact sOKa t (by omega)
theorem asks120 {l1 l2 l3 l4 s1 s2 : Int32} {m n o : Nat} {Q : Int32 → rI0 → rJ0 → Prop} (hs : sOK (s1 ||| (s2 <<< ((3 : Int32) &&& 31)))) (h : Pz_ I0 J0 Tl R C P Z I J) (l : Lw m n o 0 I) (hl : m + 1 ≤ o ∧ n + m + 2 ≤ 2 * o) (k1 : ∀ m' n' I' J', Pz_ I0 J0 Tl R C P Z I' J' → Lw m' n' o 1 I' → PGp P I' → Q 1 I' J') : wp S (d + 3) 180 120 [some (.ref 43), some (.int l1), some (.int l2), some (.int l3), some (.int l4)] [.int s2, .int s1, .ref 43] (wv x I J) (rI x Q) := by
  obtain ⟨h3, h4, h5, h6⟩ := hs
  have w := wrd l2 l3 (I 43 12) (s1 ||| (s2 <<< ((3 : Int32) &&& 31)))
  have e26 : I 43 26 = nI n := l.1.2.1
  have ho := l.2.1
  refine v180_43_120 (c172_43 ⟨by rw [e26]; exact nI_in (by omega) (by omega), ?_⟩)
  rw [e26, nI_clamp (by omega), ← nI_succ]
  have hD := l.2.2.1
  generalize ((((s1 ||| (s2 <<< ((3 : Int32) &&& 31))) ||| (l2 <<< ((6 : Int32) &&& 31))) ||| (l3 <<< ((8 : Int32) &&& 31))) ||| ((I 43 12) <<< ((10 : Int32) &&& 31))) = v at *
  have l' : Lw m (n + 1) o 1 (mSet (mSet I 48 n v) 43 26 (nI (n + 1))) := by
    refine l.wr (v := v) m 1 _ rfl rfl l.1.1 rfl rfl (by omega) (fun z => absurd (w.1 ▸ z) h3) (fun z => ?_) (by rw [w.2]; exact h6) ?_
    · rcases z with z | z
      · exact absurd (w.1 ▸ z) h4
      · exact absurd (w.1 ▸ z) h5
    · rw [hD, w.1, if_neg h3, if_neg (by rintro (z | z); exact h4 z; exact h5 z)]
      omega
  exact pNext ((h.sn (by decide)).si (by decide)) (fun I1 J1 h1 g1 f1 => pDown h1 (l'.fr f1.g) (fun m' n' I2 _ h2 l2 w2 _ _ => k1 m' n' I2 J1 h2 l2 (g1.w w2)))
theorem asks57 {l1 l2 : Int32} {m n o : Nat} {Q : Int32 → rI0 → rJ0 → Prop} (h1 : 0 ≤ l1.toInt ∧ l1.toInt ≤ 7) (h : Pz_ I0 J0 Tl R C P Z I J) (l : Lw m n o 0 I) (hl : m + 1 ≤ o ∧ n + m + 2 ≤ 2 * o) (k0 : ∀ I' J', Pz_ I0 J0 Tl R C P Z I' J' → Q 0 I' J') (k1 : ∀ m' n' I' J', Pz_ I0 J0 Tl R C P Z I' J' → Lw m' n' o 1 I' → PGp P I' → Q 1 I' J') : wp S (d + 3) 180 57 [some (.ref 43), some (.int l1), some (.int l2), none, none] [] (wv x I J) (rI x Q) := by
  have l6 : (6 : Int32).toInt = 6 := by decide
  have l7 : (7 : Int32).toInt = 7 := by decide
  refine v180_43_57 (pNext h (fun I1 J1 h' g1 f1 => ⟨fun _ => ⟨fun q => ⟨fun z => ?_, fun _ => asks120 sOK1 h' (l.fr f1.g) hl k1⟩, fun q6 => ⟨fun q => ⟨fun z => ?_, fun _ => asks120 sOK2 h' (l.fr f1.g) hl k1⟩, fun q7 => ⟨fun z => asks120 (sOKt ?_) h' (l.fr f1.g) hl k1, fun z => ?_⟩⟩⟩, fun _ => pBad h' k0⟩))
  · subst q
    exact absurd z (by decide)
  · subst q
    exact absurd z (by decide)
  · have := i_lt z
    omega
  · have := i_nlt z
    have := i_ne q6
    have := i_ne q7
    omega
theorem pAsks {p1 : Int32} {m n o : Nat} {Q : Int32 → rI0 → rJ0 → Prop} (h1 : 0 ≤ p1.toInt ∧ p1.toInt ≤ 7) (h : Pz_ I0 J0 Tl R C P Z I J) (l : Lw m n o 0 I) (hl : m + 1 ≤ o ∧ n + m + 2 ≤ 2 * o) (k0 : ∀ I' J', Pz_ I0 J0 Tl R C P Z I' J' → Q 0 I' J') (k1 : ∀ m' n' I' J', Pz_ I0 J0 Tl R C P Z I' J' → Lw m' n' o 1 I' → PGp P I' → Q 1 I' J') : wcI S (d + 3) 180 [.ref 43, .int p1] x I J Q := by
  have a24 : ∀ (l2 : Int32) (I : rI0) (J : rJ0), Pz_ I0 J0 Tl R C P Z I J → Lw m n o 0 I → wp S (d + 3) 180 24 [some (.ref 43), some (.int p1), some (.int l2), none, none] [] (wv x I J) (rI x Q) := by
    intro l2 I J h l
    have go : wp S (d + 3) 180 57 [some (.ref 43), some (.int p1), some (.int l2), none, none] [] (wv x I J) (rI x Q) := asks57 h1 h l hl k0 k1
    exact v180_43_24 (mSignQ ⟨fun _ => mSignQ ⟨fun _ => mSignQ ⟨fun _ => pBad h k0, fun z => absurd rfl z⟩ (fun _ => ⟨fun z => absurd z (by decide), fun _ => go⟩), fun z => absurd rfl z⟩ (fun _ => ⟨fun z => absurd z (by decide), fun _ => go⟩), fun z => absurd rfl z⟩ (fun _ => ⟨fun z => absurd z (by decide), fun _ => go⟩))
  exact c180_43 ⟨fun _ => pTakes h (fun I2 J2 h2 => ⟨fun _ => k0 _ _ h2, fun z => absurd rfl z⟩) (fun I2 J2 h2 _ f2 _ => ⟨fun z => absurd z (by decide), fun _ => a24 _ _ _ h2 (l.fr f2)⟩), fun _ => a24 _ _ _ h l⟩
theorem open_lp {m : Nat} {Q : Int32 → rI0 → rJ0 → Prop} (e : I 43 27 = nI m) (hm : m ≤ 30) (k0 : Q 0 I J) (k1 : (∃ j, j < m ∧ I 49 j = 6) → Q 1 I J) : ∀ t c : Nat, c + t = m → wp S d 176 2 [some (.ref 43), some (.int (nI c))] [] (wv x I J) (rI x Q) := by
  intro t
  induction t with
  | zero =>
    intro c hc
    exact v176_43_2 ⟨fun q => absurd q (by rw [e]; exact nI_nlt (by omega) (by omega)), fun _ => k0⟩
  | succ t ih =>
    intro c hc
    refine v176_43_2 ⟨fun _ => ⟨nI_in (by omega) (by omega), fun q => k1 ⟨c, by omega, ?_⟩, fun _ => ?_⟩, fun _ => k0⟩
    · rw [nI_clamp (by omega)] at q
      exact q
    · rw [← nI_succ]
      exact ih (c + 1) (by omega)
theorem mOpen {m : Nat} {Q : Int32 → rI0 → rJ0 → Prop} (e : I 43 27 = nI m) (hm : m ≤ 30) (k0 : Q 0 I J) (k1 : (∃ j, j < m ∧ I 49 j = 6) → Q 1 I J) : wcI S d 176 [.ref 43] x I J Q := c176_43 (open_lp e hm k0 k1 m 0 (by omega))
theorem opened_lp {m : Nat} {Q : Int32 → rI0 → rJ0 → Prop} (e : I 43 27 = nI m) (hm : m ≤ 30) (k : ∀ r, Q r I J) : ∀ (t c : Nat) (l1 : Int32), c + t = m → wp S d 175 4 [some (.ref 43), some (.int l1), some (.int (nI c))] [] (wv x I J) (rI x Q) := by
  intro t
  induction t with
  | zero =>
    intro c l1 hc
    exact v175_43_4 ⟨fun q => absurd q (by rw [e]; exact nI_nlt (by omega) (by omega)), fun _ => k _⟩
  | succ t ih =>
    intro c l1 hc
    have hi : ¬ mOut (nI c) 30 := nI_in (by omega) (by omega)
    refine v175_43_4 ⟨fun _ => ⟨hi, fun _ => ?_, fun _ => ⟨hi, fun _ => ?_, fun _ => ?_⟩⟩, fun _ => k _⟩
    · rw [← nI_succ]
      exact ih (c + 1) _ (by omega)
    · rw [← nI_succ]
      exact ih (c + 1) _ (by omega)
    · rw [← nI_succ]
      exact ih (c + 1) _ (by omega)
theorem mOpened {m : Nat} {Q : Int32 → rI0 → rJ0 → Prop} (e : I 43 27 = nI m) (hm : m ≤ 30) (k : ∀ r, Q r I J) : wcI S d 175 [.ref 43] x I J Q := c175_43 (opened_lp e hm k m 0 0 (by omega))
/-- something is laid on the pile -/
theorem Lw.pu {m n o a : Nat} {v : Int32} (l : Lw m n o a I) (a' : Nat) (hv : (v = 4 ∨ v = 5) ∧ a = 1 ∧ a' = 0 ∨ (v = 3 ∨ v = 6) ∧ a' = a) (hm : m + 1 + a' ≤ o ∧ n + (m + 1) + a' ≤ 2 * o) : Lw (m + 1) n o a' (mSet (mSet I 49 m v) 43 27 (nI (m + 1))) := by
  obtain ⟨⟨i27, i26, i28⟩, ⟨h1, h2, h3⟩, hD, hc, hp⟩ := l
  have e49 : (mSet (mSet I 49 m v) 43 27 (nI (m + 1))) 49 = va_up (I 49) m v := rfl
  have ev : va_up (I 49) m v m = v := by
    unfold va_up
    rw [if_pos rfl]
  have ec : ∀ j, j < m → va_up (I 49) m v j = I 49 j := fun j hj => by
    unfold va_up
    rw [if_neg (by omega)]
  refine ⟨⟨rfl, i26, i28⟩, ⟨h1, hm.1, hm.2⟩, ?_, hc, ?_⟩
  · rw [e49]
    show dpt (I 48) n = bn (va_up (I 49) m v) m + _ + _
    rw [hD, bn_congr m ec, ev]
    rcases hv with ⟨z, za, zb⟩ | ⟨z, za⟩
    · rw [if_pos z, za, zb]
      omega
    · rw [if_neg (by rcases z with z | z <;> rw [z] <;> decide), za]
      omega
  · rw [e49]
    intro k hk
    rcases (show k < m ∨ k = m by omega) with z | z
    · rw [ec k z]
      exact hp k z
    · subst z
      rw [ev]
      rcases hv with ⟨z | z, _, _⟩ | ⟨z | z, _⟩
      · exact Or.inr (Or.inl z)
      · exact Or.inr (Or.inr (Or.inl z))
      · exact Or.inl z
      · exact Or.inr (Or.inr (Or.inr z))
theorem pOne {Q : Int32 → rI0 → rJ0 → Prop} (k0 : ∀ I' J', Pz_ I0 J0 Tl R C P Z I' J' → Q 0 I' J') (o0 : Nat) (k1 : ∀ m n o I' J', o0 < o → Pz_ I0 J0 Tl R C P Z I' J' → Lw m n o 1 I' → PGp P I' → Q 1 I' J') : ∀ (t o m n : Nat) (I : rI0) (J : rJ0), 20 - o = t → o0 ≤ o → Pz_ I0 J0 Tl R C P Z I J → Lw m n o 0 I → wp S (d + 4) 179 0 [some (.ref 43), none, none] [] (wv x I J) (rI x Q) := by
  intro t
  induction t with
  | zero =>
    intro o m n I J ht hoo h l
    have ho := l.2.1
    have e20 : I 43 28 = 20 := by
      rw [l.1.2.2, show o = 20 by omega]
      rfl
    have a36 : ∀ r1 r2 : Int32, wp S (d + 4) 179 36 [some (.ref 43), some (.int r1), some (.int r2)] [] (wv x I J) (rI x Q) := fun r1 r2 => v179_43_36 ⟨fun _ => pBad h k0, fun z => absurd e20 z⟩
    exact v179_43_0 (mWordA (fun r1 _ => mAtom (fun r2 _ => ⟨fun _ => ⟨fun _ => mSignQ ⟨fun _ => pBad h k0, fun z => absurd rfl z⟩ (fun _ => ⟨fun z => absurd z (by decide), fun _ => a36 _ _⟩), fun _ => a36 _ _⟩, fun _ => a36 _ _⟩)))
  | succ t ih =>
    intro o m n I J ht hoo h l
    have ho := l.2.1
    have a36 : ∀ r1 r2 : Int32, -1 ≤ r2.toInt ∧ r2.toInt ≤ 7 → wp S (d + 4) 179 36 [some (.ref 43), some (.int r1), some (.int r2)] [] (wv x I J) (rI x Q) := by
      intro r1 r2 hr
      refine v179_43_36 ⟨fun _ => pBad h k0, fun _ => mOpened l.1.1 (by omega) (fun r => ⟨fun _ => pBad h k0, fun _ => ?_⟩)⟩
      rw [l.1.2.2, ← nI_succ]
      have l1 : Lw m n (o + 1) 0 (mSet I 43 28 (nI (o + 1))) := ⟨⟨l.1.1, l.1.2.1, rfl⟩, ⟨by omega, by omega, by omega⟩, l.2.2⟩
      refine pNext (h.si (by decide)) (fun I4 J4 h4 g4 f4 => ?_)
      have l4 := l1.fr f4.g
      have hi : ¬ mOut (I4 43 27) 30 := by rw [l4.1.1]; exact nI_in (by omega) (by omega)
      refine ⟨fun _ => ⟨fun _ => ⟨hi, ?_⟩, fun _ => ⟨hi, ?_⟩⟩, fun q => ?_⟩
      · rw [l4.1.1, nI_clamp (by omega), ← nI_succ]
        exact ih (o + 1) (m + 1) n _ _ (by omega) (by omega) ((h4.sn (by decide)).si (by decide)) (l4.pu 0 (Or.inr ⟨Or.inr rfl, rfl⟩) (by omega))
      · rw [l4.1.1, nI_clamp (by omega), ← nI_succ]
        exact ih (o + 1) (m + 1) n _ _ (by omega) (by omega) ((h4.sn (by decide)).si (by decide)) (l4.pu 0 (Or.inr ⟨Or.inl rfl, rfl⟩) (by omega))
      · have q := i_nlt q
        have z0 : (0 : Int32).toInt = 0 := by decide
        exact pAsks (by omega) h4 l4 (by omega) (fun I5 J5 h5 => ⟨Or.inl rfl, k0 _ _ h5⟩) (fun m' n' I5 J5 h5 l5 g5 => ⟨Or.inr rfl, k1 m' n' (o + 1) _ _ (by omega) h5 l5 g5⟩)
    exact v179_43_0 (mWordA (fun r1 _ => mAtom (fun r2 g2 => ⟨fun _ => ⟨fun _ => mSignQ ⟨fun _ => pBad h k0, fun z => absurd rfl z⟩ (fun _ => ⟨fun z => absurd z (by decide), fun _ => a36 _ _ g2⟩), fun _ => a36 _ _ g2⟩, fun _ => a36 _ _ g2⟩)))
theorem Lw.pop {m n o : Nat} (l : Lw (m + 1) n o 1 I) (h6 : I 49 m = 6) : Lw m n o 1 (mSet I 43 27 (nI m)) := by
  obtain ⟨⟨i27, i26, i28⟩, ⟨h1, h2, h3⟩, hD, hc, hp⟩ := l
  refine ⟨⟨rfl, i26, i28⟩, ⟨h1, by omega, by omega⟩, ?_, hc, fun k hk => hp k (by omega)⟩
  show dpt (I 48) n = bn (I 49) m + _
  have hb1 : bn (I 49) (m + 1) = bn (I 49) m + (if I 49 m = 4 ∨ I 49 m = 5 then 1 else 0) := rfl
  rw [hD, hb1, if_neg (by rw [h6]; decide)]
  omega
theorem pCond {Q : Int32 → rI0 → rJ0 → Prop} (k0 : ∀ I' J', Pz_ I0 J0 Tl R C P Z I' J' → Q 0 I' J') (k1 : ∀ m n o I' J', Pz_ I0 J0 Tl R C P Z I' J' → Lw m n o 1 I' → PGp P I' → Q 1 I' J') : ∀ (t o m n : Nat) (I : rI0) (J : rJ0), 20 - o = t → Pz_ I0 J0 Tl R C P Z I J → Lw m n o 0 I → wp S (d + 5) 177 0 [some (.ref 43), none] [] (wv x I J) (rI x Q) := by
  refine lpn ?_
  intro t ih o m n I J ht h l
  refine v177_43_0 (pOne (fun I1 J1 h1 => ⟨fun _ => k0 _ _ h1, fun z => absurd rfl z⟩) o (fun m1 n1 o1 I1 J1 ho1 h1 l1 g1 => ⟨fun z => absurd z (by decide), fun _ => ?_⟩) _ o m n I J rfl (Nat.le_refl _) h l)
  have a104 : ∀ (m n : Nat) (l1 s1 : Int32) (I : rI0) (J : rJ0), Pz_ I0 J0 Tl R C P Z I J → Lw m n o1 1 I → wp S (d + 5) 177 104 [some (.ref 43), some (.int l1)] [.int s1, .ref 43] (wv x I J) (rI x Q) := by
    intro m n l1 s1 I J h l
    refine v177_43_104 (pDown h l (fun m' n' I2 hm h2 l2 w2 _ _ => ?_))
    have hb := l2.2.1
    have hi : ¬ mOut (I2 43 27) 30 := by rw [l2.1.1]; exact nI_in (by omega) (by omega)
    refine ⟨fun _ => ⟨hi, ?_⟩, fun _ => ⟨hi, ?_⟩⟩
    · rw [l2.1.1, nI_clamp (by omega), ← nI_succ]
      exact pNext ((h2.sn (by decide)).si (by decide)) (fun I3 J3 h3 _ f3 => ih (20 - o1) (by omega) o1 (m' + 1) n' I3 J3 rfl h3 ((l2.pu 0 (Or.inl ⟨Or.inr rfl, rfl, rfl⟩) (by omega)).fr f3.g))
    · rw [l2.1.1, nI_clamp (by omega), ← nI_succ]
      exact pNext ((h2.sn (by decide)).si (by decide)) (fun I3 J3 h3 _ f3 => ih (20 - o1) (by omega) o1 (m' + 1) n' I3 J3 rfl h3 ((l2.pu 0 (Or.inl ⟨Or.inl rfl, rfl, rfl⟩) (by omega)).fr f3.g))
  have a52 : ∀ (m n : Nat) (I : rI0) (J : rJ0), Pz_ I0 J0 Tl R C P Z I J → Lw m n o1 1 I → PGp P I → wp S (d + 5) 177 52 [some (.ref 43), none] [] (wv x I J) (rI x Q) := by
    intro m n I J h l g
    have hb := l.2.1
    exact v177_43_52 (mWordA (fun r1 _ => ⟨fun _ => mWordA (fun r2 _ => ⟨fun _ => mOpen l.1.1 (by omega) ⟨fun _ => pDown h l (fun m' n' I2 hm h2 l2 w2 _ _ => k1 m' n' o1 _ _ h2 l2 (g.w w2)), fun z => absurd rfl z⟩ (fun _ => ⟨fun z => absurd z (by decide), fun _ => pBad h k0⟩), fun _ => ⟨fun _ => a104 m n _ _ I J h l, fun _ => a104 m n _ _ I J h l⟩⟩), fun _ => ⟨fun _ => a104 m n _ _ I J h l, fun _ => a104 m n _ _ I J h l⟩⟩))
  have a9 : ∀ (m : Nat) (n : Nat) (I : rI0) (J : rJ0), Pz_ I0 J0 Tl R C P Z I J → Lw m n o1 1 I → PGp P I → wp S (d + 5) 177 9 [some (.ref 43), none] [] (wv x I J) (rI x Q) := by
    refine lpn ?_
    intro m ih9 n I J h l g
    have hb := l.2.1
    refine v177_43_9 (mSignQ ⟨fun _ => a52 m n I J h l g, fun z => absurd rfl z⟩ (fun _ => ⟨fun z => absurd z (by decide), fun _ => mOpen l.1.1 (by omega) ⟨fun _ => a52 m n I J h l g, fun z => absurd rfl z⟩ (fun ⟨j, hj, ej⟩ => ⟨fun z => absurd z (by decide), fun _ => pDown h l (fun m' n' I2 hm h2 l2 w2 no ex => ?_)⟩)⟩))
    have hjm : j < m' := by
      rcases (show j < m' ∨ m' ≤ j by omega) with z | z
      · exact z
      · exact absurd ej (no j z hj)
    obtain ⟨m2, rfl⟩ : ∃ m2, m' = m2 + 1 := ⟨m' - 1, by omega⟩
    have h6 : I2 49 m2 = 6 := by
      rw [w2.1 49 (by decide) (by decide)]
      rcases ex with z | z | z
      · exact absurd z (by omega)
      · exact z
      · exact absurd z (by decide)
    rw [l2.1.1, nI_pr]
    refine pDown (h2.si (by decide)) (l2.pop h6) (fun m3 n3 I3 hm3 h3 l3 w3 _ _ => pNext h3 (fun I4 J4 h4 g4 f4 => ih9 m3 (by omega) n3 I4 J4 h4 (l3.fr f4.g) g4))
  exact a9 m1 n1 I1 J1 h1 l1 g1
end MC0
