section
section PD0
variable {S : Nat × (Nat → Int32)} {d : Nat} {x : mX} {I : rI0} {J : rJ0} {b : Nat → Int32} {n lim p : Nat}
theorem nI_m1 {w : Nat} (hw : w ≤ 9) : ¬ nI w = -1 := by
  intro q
  have := congrArg Int32.toInt q
  rw [nI_toInt (by omega)] at this
  have v : (-1 : Int32).toInt = -1 := by decide
  omega
theorem nI_inj {a c : Nat} (ha : a < 2 ^ 31) (hc : c < 2 ^ 31) (h : nI a = nI c) : a = c := by
  have := congrArg Int32.toInt h
  rw [nI_toInt ha, nI_toInt hc] at this
  omega
/-- too many, or too deep -/
theorem cFour {w m o : Nat} {p1 p2 : Int32} {Q : Int32 → rI0 → rJ0 → Prop} (hw : w ≤ 9) (hm : m ≤ 8) (ho : o ≤ 20) (h4 : o = 20 ∨ m = 0) (h2 : I 29 2 = nI o) (k : Q 0 (mSet I 28 8 4) J) : wp S (d + 1) 42 26 [some (.ref 29), some (.int p1), some (.int p2), some (.int (nI (9 - m))), none, none, none] [.int (nI w)] (wv x I J) (rI x Q) := by
  have f : wcI S d 75 [.ref 28, .int (4 : Int32)] x I J (fun r2 I2 J2 => (r2 = 0 ∨ r2 = 1) ∧ Q r2 I2 J2) := failS ⟨Or.inl rfl, k⟩
  refine v42_29_26 ⟨fun q => absurd q (nI_m1 hw), fun _ => ⟨fun z => ⟨fun _ => f, fun y => ?_⟩, fun _ => f⟩⟩
  rcases h4 with e | e
  · subst e
    rw [h2] at z
    exact absurd z (nI_nlt (a := 20) (b := 20) (by omega) (by omega))
  · subst e
    exact absurd (nI_lt (a := 8) (b := 9) (by omega) (by omega)) y
theorem rFour {l1 l2 : Int32} {m o : Nat} {C P : List Int32} {Q : Int32 → rI0 → rJ0 → Prop} (h : RS b n lim p o C P I J) (hP : P.length ≤ 30) (h8 : opn P + m = 8) (h4 : o = 20 ∨ m = 0) (k : Q 0 (bdI I 4) J) : wp S (d + 5) 179 36 [some (.ref 43), some (.int l1), some (.int l2)] [] (wv x I J) (rI x Q) := by
  refine v179_43_36 ⟨fun _ => badR ⟨Or.inl rfl, k⟩, fun z => opnR h hP ⟨fun _ => badR ⟨Or.inl rfl, k⟩, fun y => ?_⟩⟩
  rcases h4 with e | e
  · subst e
    exact absurd h.2.1 z
  · subst e
    exact absurd (by rw [show opn P = 8 by omega]; rfl) y
theorem cGo {w m o first j : Nat} {Q : Int32 → rI0 → rJ0 → Prop} (hw : w ≤ 9) (hm : m ≤ 7) (ho : o < 20) (h : Tck b n lim p I) (h8 : I 28 8 = 0) (h2 : I 29 2 = nI o)
    (k : ∀ I3, cFr first o I I3 → Tck b n lim (uE b n lim p) I3 → I3 28 8 = 0 → I3 29 2 = nI (o + 1) →
      (w = 9 → wcI S (d + 8) 41 [.ref 29, .int (nI first), .int (nI (9 - m))] x I3 J (fun r4 I4 J4 => (r4 = 0 → Q 0 I4 J4) ∧ (¬ r4 = 0 → wcI S (d + 8) 78 [.ref 28, .int (41 : Int32)] x I4 J4 (fun r5 I5 J5 => (r5 = 0 → Q 0 I5 J5) ∧ (¬ r5 = 0 → wp S (d + 9) 42 188 [some (.ref 29), some (.int (nI first)), some (.int (nI j)), some (.int (nI (9 - (m + 1)))), some (.int (nI w)), some (.int (nI o)), some (.int ((nI j <<< ((18 : Int32) &&& 31)) ||| (nI w <<< ((14 : Int32) &&& 31))))] [] (wv x I5 J5) (rI x Q))))))
      ∧ (w = 8 → wcI S (d + 8) 42 [.ref 29, .int (nI first), .int (nI 0), .int (nI (9 - m))] x I3 J (fun r6 I6 J6 => (r6 = 0 → Q 0 I6 J6) ∧ (¬ r6 = 0 → wp S (d + 9) 42 188 [some (.ref 29), some (.int (nI first)), some (.int (nI j)), some (.int (nI (9 - (m + 1)))), some (.int (nI w)), some (.int (nI o)), some (.int ((nI j <<< ((18 : Int32) &&& 31)) ||| (nI w <<< ((14 : Int32) &&& 31))))] [] (wv x I6 J6) (rI x Q))))
      ∧ (w < 8 → wcI S (d + 8) 43 [.ref 29, .int (if w < 6 then 1 else 0)] x I3 J (fun r7 I7 J7 => (r7 = 0 → Q 0 I7 J7) ∧ (¬ r7 = 0 → wp S (d + 9) 42 188 [some (.ref 29), some (.int (nI first)), some (.int (nI j)), some (.int (nI (9 - (m + 1)))), some (.int (nI w)), some (.int (nI o)), some (.int (((nI j <<< ((18 : Int32) &&& 31)) ||| (nI w <<< ((14 : Int32) &&& 31))) ||| I7 29 6))] [] (wv x I7 J7) (rI x Q))))) : wp S (d + 9) 42 26 [some (.ref 29), some (.int (nI first)), some (.int (nI j)), some (.int (nI (9 - (m + 1)))), none, none, none] [.int (nI w)] (wv x I J) (rI x Q) := by
  have ed : nI (9 - (m + 1)) + 1 = nI (9 - m) := by rw [← nI_succ, show 9 - (m + 1) + 1 = 9 - m by omega]
  refine v42_29_26 ⟨fun q => absurd q (nI_m1 hw), fun _ => ⟨fun _ => ⟨fun q => absurd q (nI_nlt (a := 8) (by omega) (by omega)), fun _ => readS h.2.1.s29 (fun I3 o3 t3 => ?_)⟩, fun q => absurd (by rw [h2]; exact nI_lt (b := 20) ho (by omega)) q⟩⟩
  have e2 : I3 29 2 = nI (o + 1) := by
    rw [o3.1 29 (by decide)]
    show I 29 2 + 1 = _
    rw [h2, nI_succ]
  have e8 : I3 28 8 = 0 := by
    rw [o3.2 8 (by omega), mSet_ne (by decide)]
    exact h8
  obtain ⟨k9, k8, k0⟩ := k I3 (cFr.s.tr (Nat.le_refl _) (cFr.o o3.1)) t3 e8 e2
  rw [h2, ed]
  refine ⟨fun q => k9 (nI_inj (by omega) (by omega) (c := 9) q), fun q9 => ⟨fun q => k8 (nI_inj (by omega) (by omega) (c := 8) q), fun q8 => ?_⟩⟩
  have w8 : w < 8 := by
    rcases (show w < 8 ∨ w = 8 ∨ w = 9 by omega) with e | e | e
    · exact e
    · subst e; exact absurd rfl q8
    · subst e; exact absurd rfl q9
  have k0 := k0 w8
  refine ⟨fun q => ?_, fun q => ?_⟩
  · have w6 : w < 6 := by
      rcases Nat.lt_or_ge w 6 with e | e
      · exact e
      · exact absurd q (nI_nlt (b := 6) e (by omega))
    rw [if_pos w6] at k0
    exact k0
  · have w6 : ¬ w < 6 := fun e => q (nI_lt (b := 6) e (by omega))
    rw [if_neg w6] at k0
    exact k0
theorem rGo {w m o : Nat} {l1 l2 : Int32} {C P : List Int32} {Q : Int32 → rI0 → rJ0 → Prop} (ho : o < 20) (h1 : w = 9 → l1 = 0 ∧ l2 < 0) (h2 : w = 8 → ¬ l1 = 0 ∧ l2 < 0) (h3 : w < 8 → l2 = nI w) (hw : w ≤ 9) (h : RS b n lim p o C P I J) (h8 : opn P + (m + 1) = 8) (hP : P.length ≤ 3 * opn P + 2) (hC : C.length + P.length ≤ 2 * o + 1) (k : ∀ I4 J4, pFr I J I4 J4 → RS b n lim (uE b n lim p) (o + 1) C P I4 J4 → (w = 9 → ∀ I5, pFr I4 J4 I5 J4 → RS b n lim (uE b n lim p) (o + 1) C (6 :: P) I5 J4 → wp S (d + 5) 179 0 [some (.ref 43), none, none] [] (wv x I5 J4) (rI x Q)) ∧ (w = 8 → ∀ I5, pFr I4 J4 I5 J4 → RS b n lim (uE b n lim p) (o + 1) C (3 :: P) I5 J4 → wp S (d + 5) 179 0 [some (.ref 43), none, none] [] (wv x I5 J4) (rI x Q)) ∧ (w < 8 → wcI S (d + 4) 180 [.ref 43, .int (nI w)] x I4 J4 (fun r5 I5 J5 => (r5 = 0 ∨ r5 = 1) ∧ Q r5 I5 J5))) : wp S (d + 5) 179 36 [some (.ref 43), some (.int l1), some (.int l2)] [] (wv x I J) (rI x Q) := by
  have hl : P.length ≤ 26 := by omega
  refine v179_43_36 ⟨fun q => ?_, fun _ => opnR h (by omega) ⟨fun q => ?_, fun _ => ?_⟩⟩
  · rw [h.2.1] at q
    exact absurd (nI_inj (by omega) (by omega) (c := 20) q) (by omega)
  · exact absurd (nI_inj (by omega) (by omega) (c := 8) q) (by omega)
  · have r0 : RS b n lim p (o + 1) C P (mSet I 43 28 (I 43 28 + 1)) J := ⟨h.1.cg (mSet_ne (by decide)) (fun k hk => mSet_x (by omega)), by show I 43 28 + 1 = _; rw [h.2.1, nI_succ], by rw [mSet_x (by omega)]; exact h.2.2.1, by rw [mSet_ne (by decide)]; exact h.2.2.2.1, by rw [mSet_x (by omega)]; exact h.2.2.2.2.1, by rw [mSet_ne (by decide)]; exact h.2.2.2.2.2⟩
    refine nextS r0.1.2.1 (fun I4 J4 f4 t4 => ?_)
    have r4 := r0.nx f4 t4
    obtain ⟨k9, k8, k0⟩ := k I4 J4 ((pFr.s (by omega)).tr (pFr.nx f4)) r4
    have e27 := r4.2.2.2.2.1
    have hin : ¬ mOut (I4 43 27) 30 := by rw [e27]; exact nI_in (by omega) (by omega)
    have z0 : (0 : Int32).toInt = 0 := by decide
    have np : w < 8 → ¬ l2 < 0 := fun q y => by
      rw [h3 q] at y
      exact absurd y (nI_nlt (b := 0) (by omega) (by omega))
    refine ⟨fun q => ⟨fun q1 => ⟨hin, ?_⟩, fun q1 => ⟨hin, ?_⟩⟩, fun q => ?_⟩
    · have w9 : w = 9 := by
        rcases (show w < 8 ∨ w = 8 ∨ w = 9 by omega) with e | e | e
        · exact absurd q (np e)
        · exact absurd q1 (h2 e).1
        · exact e
      rw [e27, nI_clamp (by omega)]
      exact k9 w9 _ ((pFr.t (by omega)).tr (pFr.s (by omega))) r4.ps
    · have w8 : w = 8 := by
        rcases (show w < 8 ∨ w = 8 ∨ w = 9 by omega) with e | e | e
        · exact absurd q (np e)
        · exact e
        · exact absurd (h1 e).1 q1
      rw [e27, nI_clamp (by omega)]
      exact k8 w8 _ ((pFr.t (by omega)).tr (pFr.s (by omega))) r4.ps
    · have w8 : w < 8 := by
        rcases (show w < 8 ∨ w = 8 ∨ w = 9 by omega) with e | e | e
        · exact e
        · exact absurd (h2 e).2 q
        · exact absurd (h1 e).2 q
      rw [h3 w8]
      exact k0 w8
theorem po1 : ∀ m, m ≤ 8 → ∀ p o, p ≤ n → o ≤ 20 → PO1 b n lim m p o := by
  intro m
  induction m with
  | zero =>
    intro _ p o hp ho
    by_cases hw : ∃ w, wAt b n lim p w
    · obtain ⟨w, hw⟩ := hw
      have w9 : w ≤ 9 := by
        rcases hw with ⟨-, e⟩ | ⟨-, e, -⟩ <;> omega
      refine ⟨4, p, o, [], fun _ => false, fun q => absurd q (by decide), ?_, ?_⟩
      · intro S d x I J first j Q hf hj h h8 h2 kf ks
        exact cOne (d := d + 1) hw h (cFour (m := 0) w9 (by omega) ho (Or.inr rfl) h2 (kf (by decide) _ (cFr.o (fun a ha => mSet_ne ha)) rfl h.2.2.2.1))
      · intro S d x I J C P Q h h8 hP hC kf ks
        exact rOne hw h.1 (fun l1 l2 _ _ _ => rFour h (by omega) h8 (Or.inr rfl) ⟨fun _ => kf (by decide) _ _ pFr.rf h.1.2.2.2.1, fun q => absurd rfl q⟩)
    · have h4 : ¬ uK b n lim p = 40 := fun q => hw ⟨9, Or.inl ⟨q, rfl⟩⟩
      have hn : ∀ w, w < 9 → ¬ uW b n lim p = TW2.getD w 0 := fun w h1 q => hw ⟨w, Or.inr ⟨h4, h1, q⟩⟩
      refine ⟨1, p, o, [], fun _ => false, fun q => absurd q (by decide), ?_, ?_⟩
      · intro S d x I J first j Q hf hj h h8 h2 kf ks
        exact cOne0 (d := d + 1) h4 hn h (kf (by decide) _ (cFr.o (fun a ha => mSet_ne ha)) rfl h.2.2.2.1)
      · intro S d x I J C P Q h h8 hP hC kf ks
        exact rOne0 h4 hn h.1 ⟨fun _ => kf (by decide) _ _ pFr.rf h.1.2.2.2.1, fun q => absurd rfl q⟩
  | succ m ih =>
    intro hm p o hp ho
    have eD : ∀ d, d + 2 * (m + 1) + 10 = (d + 2 * m + 3) + 9 := fun d => by omega
    by_cases hw : ∃ w, wAt b n lim p w
    · obtain ⟨w, hw⟩ := hw
      have w9 : w ≤ 9 := by
        rcases hw with ⟨-, e⟩ | ⟨-, e, -⟩ <;> omega
      have kn : ¬ uK b n lim p = 0 ∧ ¬ uK b n lim p = 1 := by
        rcases hw with ⟨e, -⟩ | ⟨-, e1, e2⟩
        · rw [e]; decide
        · have k2 : uK b n lim p = 2 := by
            by_cases z : uK b n lim p = 2
            · exact z
            · rw [uW_n z] at e2
              exact absurd e2 (tw2z w e1)
          rw [k2]; decide
      have pg := (uE_gt kn.1 kn.2).1
      have p1 := uE_le (b := b) (lim := lim) hp
      by_cases ho2 : o = 20
      · refine ⟨4, p, o, [], fun _ => false, fun q => absurd q (by decide), ?_, ?_⟩
        · intro S d x I J first j Q hf hj h h8 h2 kf ks
          rw [eD]
          exact cOne hw h (cFour (m := m + 1) w9 hm ho (Or.inl ho2) h2 (kf (by decide) _ (cFr.o (fun a ha => mSet_ne ha)) rfl h.2.2.2.1))
        · intro S d x I J C P Q h h8 hP hC kf ks
          exact rOne hw h.1 (fun l1 l2 _ _ _ => rFour h (by omega) h8 (Or.inl ho2) ⟨fun _ => kf (by decide) _ _ pFr.rf h.1.2.2.2.1, fun q => absurd rfl q⟩)
      · have ho3 : o < 20 := by omega
        rcases (show w = 9 ∨ w = 8 ∨ w < 8 by omega) with e | e | e
        · -- a group
          obtain ⟨f, p', o', s, V, g0, g1, g2⟩ := pj1 (by omega) (ih (by omega)) (o := o + 1) p1.2 (by omega)
          -- both up to the end of what is joined
          have cs : ∀ (S : Nat × (Nat → Int32)) (d : Nat) (x : mX) (I : rI0) (J : rJ0) (first j : Nat) (Q : Int32 → rI0 → rJ0 → Prop), first ≤ 220 → j ≤ 1 → Tck b n lim p I → I 28 8 = 0 → I 29 2 = nI o → (¬ f = 0 → ∀ I', cFr first o I I' → I' 28 8 = f → I' 28 4 = nI (uA b n lim p') → Q 0 I' J) → (f = 0 → ∀ I', cFr first o I I' → Tck b n lim p' I' → I' 28 8 = 0 → I' 29 2 = nI o' → lJ (lO (I' 22) m) (first + (o + 1)) (o' - (o + 1)) V → wcI S (d + 2 * m + 11) 78 [.ref 28, .int (41 : Int32)] x I' J (fun r5 I5 J5 => (r5 = 0 → Q 0 I5 J5) ∧ (¬ r5 = 0 → wp S (d + 2 * m + 3 + 9) 42 188 [some (.ref 29), some (.int (nI first)), some (.int (nI j)), some (.int (nI (9 - (m + 1)))), some (.int (nI w)), some (.int (nI o)), some (.int ((nI j <<< ((18 : Int32) &&& 31)) ||| (nI w <<< ((14 : Int32) &&& 31))))] [] (wv x I5 J5) (rI x Q)))) → wcI S (d + 2 * (m + 1) + 10) 42 [.ref 29, .int (nI first), .int (nI j), .int (nI (9 - (m + 1)))] x I J Q := by
            intro S d x I J first j Q hf hj h h8 h2 kf ks
            rw [eD]
            refine cOne hw h (cGo w9 (by omega) ho3 h h8 h2 (fun I3 c3 t3 e8 e2 => ⟨fun _ => ?_, fun q => absurd q (by omega), fun q => absurd q (by omega)⟩))
            refine g1 S d x I3 J first _ hf t3 e8 e2 (fun y I' c1 c2 c4 => ⟨fun _ => kf y I' (c3.tr (by omega) c1) c2 c4, fun q => absurd rfl q⟩) (fun y I' c1 c2 c4 c5 c6 => ⟨fun q => absurd q (by decide), fun _ => ks y I' (c3.tr (by omega) c1) c2 c4 c5 c6⟩)
          have rs : ∀ (S : Nat × (Nat → Int32)) (d : Nat) (x : mX) (I : rI0) (J : rJ0) (C P : List Int32) (Q : Int32 → rI0 → rJ0 → Prop), RS b n lim p o C P I J → opn P + (m + 1) = 8 → P.length ≤ 3 * opn P + 2 → C.length + P.length ≤ 2 * o + 1 → (¬ f = 0 → ∀ I' J', pFr I J I' J' → I' 43 10 = nI (uA b n lim p') → Q 0 (bdI I' f) J') → (f = 0 → ∀ I' J', pFr I J I' J' → RS b n lim p' o' (s.2.2 ++ C) (aF s.2.1 ++ (oF s.1 ++ 6 :: P)) I' J' → wp S (d + 6) 177 9 [some (.ref 43), none] [] (wv x I' J') (rI x Q)) → wp S (d + 5) 179 0 [some (.ref 43), none, none] [] (wv x I J) (rI x (fun r I1 J1 => (r = 0 → Q 0 I1 J1) ∧ (¬ r = 0 → wp S (d + 6) 177 9 [some (.ref 43), none] [] (wv x I1 J1) (rI x Q)))) := by
            intro S d x I J C P Q h h8 hP hC kf ks
            refine rOne hw h.1 (fun l1 l2 b1 b2 b3 => rGo ho3 b1 b2 b3 w9 h h8 hP hC (fun I4 J4 f4 r4 => ⟨fun _ I5 f5 r5 => ?_, fun q => absurd q (by omega), fun q => absurd q (by omega)⟩))
            have eo : opn ((6 : Int32) :: P) = opn P + 1 := rfl
            have el : ((6 : Int32) :: P).length = P.length + 1 := rfl
            exact g2 S d x I5 J4 C (6 :: P) Q r5 (by omega) (by omega) (by omega) (Or.inr ⟨P, rfl⟩) (fun y I' J' c1 c2 => kf y I' J' (f4.tr (f5.tr c1)) c2) (fun y I' J' c1 c2 => ks y I' J' (f4.tr (f5.tr c1)) c2)
          by_cases z : f = 0
          · obtain ⟨a1, a2, a3, a4, a5, a6, a7, a8⟩ := g0 z
            by_cases y : uK b n lim p' = 41
            · have p2 := uE_le (b := b) (lim := lim) a4
              refine ⟨0, uE b n lim p', o', eF s, V, fun _ => ⟨by omega, a2, by omega, p2.2, a5, by omega⟩, ?_, ?_⟩
              · intro S d x I J first j Q hf hj h h8 h2 kf ks
                refine cs S d x I J first j Q hf hj h h8 h2 (fun q => absurd z q) (fun _ I4 c1 c2 c3 c4 c5 => passS c2 c3 (fun q => absurd y q) (fun _ I5 o5 _ e8 t5 => ⟨fun q => absurd q (by decide), fun _ => ?_⟩))
                have e2 : I5 29 2 = nI o' := by rw [o5 29 (by decide)]; exact c4
                refine v42_29_188 ⟨by rw [nI_add]; exact nI_in (by omega) (by omega), ?_⟩
                rw [e2, pk_sub (by omega), e, tw_0 (by omega) hj (by omega), nI_add, nI_clamp (by omega)]
                have cf : cFr first o I5 (mSet I5 22 (first + o) (nI (pz (o' - o) j 9 0 0 0))) := cFr.w ho3
                refine ks rfl _ ((c1.tr (Nat.le_refl _) (cFr.o o5)).tr (Nat.le_refl _) cf) (t5.o (mSet_ne (by decide)) (mSet_ne (by decide))) (by rw [mSet_ne (by decide)]; exact e8) (by rw [mSet_ne (by decide)]; exact e2) (Or.inr (Or.inr ⟨by omega, ?_, ?_⟩))
                · unfold mSet va_up
                  rw [if_pos rfl, if_pos rfl]
                · rw [show first + o + 1 = first + (o + 1) by omega, show o' - o - 1 = o' - (o + 1) by omega]
                  refine lJ_cg (fun t h1 h2 => ?_) c5
                  rw [mSet_x (by omega), o5 22 (by decide)]
              · intro S d x I J C P Q h h8 hP hC kf ks
                refine rs S d x I J C P Q h h8 hP hC (fun q => absurd z q) (fun _ I1 J1 f1 r1 => closeR r1 y (by omega) (by omega) (fun I' J' f2 r2 => ks rfl I' J' (f1.tr f2) r2))
            · refine ⟨1, p', o', [], V, fun q => absurd q (by decide), ?_, ?_⟩
              · intro S d x I J first j Q hf hj h h8 h2 kf ks
                exact cs S d x I J first j Q hf hj h h8 h2 (fun q => absurd z q) (fun _ I4 c1 c2 c3 c4 c5 => passS c2 c3 (fun _ => ⟨fun _ => kf (by decide) _ (c1.tr (Nat.le_refl _) (cFr.o (fun a ha => mSet_ne ha))) rfl c2.2.2.2.1, fun q => absurd rfl q⟩) (fun q => absurd q y))
              · intro S d x I J C P Q h h8 hP hC kf ks
                have el : ((6 : Int32) :: P).length = P.length + 1 := rfl
                exact rs S d x I J C P Q h h8 hP hC (fun q => absurd z q) (fun _ I1 J1 f1 r1 => shutR r1 y a7 a8 (by omega) List.mem_cons_self (kf (by decide) _ _ f1 r1.1.2.2.2.1))
          · refine ⟨f, p', o', [], V, fun q => absurd q z, ?_, ?_⟩
            · intro S d x I J first j Q hf hj h h8 h2 kf ks
              exact cs S d x I J first j Q hf hj h h8 h2 kf (fun q => absurd q z)
            · intro S d x I J C P Q h h8 hP hC kf ks
              exact rs S d x I J C P Q h h8 hP hC kf (fun q => absurd q z)
        · -- not
          obtain ⟨f, p', o', R, V, g0, g1, g2⟩ := ih (by omega) (uE b n lim p) (o + 1) p1.2 (by omega)
          refine ⟨f, p', o', 3 :: R, fun at_ => !(V at_), fun z => ?_, ?_, ?_⟩
          · obtain ⟨a1, a2, a3, a4, a5, a6⟩ := g0 z
            exact ⟨by omega, a2, by omega, a4, rOk_not a5, by show R.length + 1 + 1 ≤ _; omega⟩
          · intro S d x I J first j Q hf hj h h8 h2 kf ks
            rw [eD]
            refine cOne hw h (cGo w9 (by omega) ho3 h h8 h2 (fun I3 c3 t3 e8 e2 => ⟨fun q => absurd q (by omega), fun _ => ?_, fun q => absurd q (by omega)⟩))
            have w := g1 S (d + 1) x I3 J first 0 (fun r6 I6 J6 => (r6 = 0 → Q 0 I6 J6) ∧ (¬ r6 = 0 → wp S (d + 2 * m + 3 + 9) 42 188 [some (.ref 29), some (.int (nI first)), some (.int (nI j)), some (.int (nI (9 - (m + 1)))), some (.int (nI w)), some (.int (nI o)), some (.int ((nI j <<< ((18 : Int32) &&& 31)) ||| (nI w <<< ((14 : Int32) &&& 31))))] [] (wv x I6 J6) (rI x Q))) hf (by omega) t3 e8 e2 (fun y I' c1 c2 c4 => ⟨fun _ => kf y I' (c3.tr (by omega) c1) c2 c4, fun q => absurd rfl q⟩) (fun y I' c1 c2 c4 c5 c6 => ⟨fun q => absurd q (by decide), fun _ => ?_⟩)
            · rw [show d + 1 + 2 * m + 10 = d + 2 * m + 3 + 8 by omega] at w
              exact w
            · obtain ⟨a1, a2, a3, a4, a5, a6⟩ := g0 y
              refine v42_29_188 ⟨by rw [nI_add]; exact nI_in (by omega) (by omega), ?_⟩
              rw [c5, pk_sub (by omega), e, tw_0 (by omega) hj (by omega), nI_add, nI_clamp (by omega)]
              have cf : cFr first o I' (mSet I' 22 (first + o) (nI (pz (o' - o) j 8 0 0 0))) := cFr.w ho3
              refine ks y _ ((c3.tr (by omega) c1).tr (Nat.le_refl _) cf) (c2.o (mSet_ne (by decide)) (mSet_ne (by decide))) (by rw [mSet_ne (by decide)]; exact c4) (by rw [mSet_ne (by decide)]; exact c5) (Or.inr (Or.inl ⟨V, by omega, ?_, ?_, rfl⟩))
              · unfold mSet va_up
                rw [if_pos rfl, if_pos rfl]
              · rw [show first + o + 1 = first + (o + 1) by omega, show o' - o - 1 = o' - (o + 1) by omega]
                refine lO_cg _ _ _ _ _ (fun t h1 h2 => ?_) c6
                rw [mSet_x (by omega)]
          · intro S d x I J C P Q h h8 hP hC kf ks
            refine rOne hw h.1 (fun l1 l2 b1 b2 b3 => rGo ho3 b1 b2 b3 w9 h h8 hP hC (fun I4 J4 f4 r4 => ⟨fun q => absurd q (by omega), fun _ I5 f5 r5 => ?_, fun q => absurd q (by omega)⟩))
            have eo : opn ((3 : Int32) :: P) = opn P + 1 := rfl
            have el : ((3 : Int32) :: P).length = P.length + 1 := rfl
            refine g2 S d x I5 J4 C (3 :: P) Q r5 (by omega) (by omega) (by omega) (fun y I' J' c1 c2 => kf y I' J' (f4.tr (f5.tr c1)) c2) (fun y I' J' c1 c2 => ks y I' J' (f4.tr (f5.tr c1)) ?_)
            have e1 : wdC 3 ((3 : Int32) :: P) = wdC 3 P ++ [3] := rfl
            have e2 : wdP 3 ((3 : Int32) :: P) = wdP 3 P := rfl
            rw [e1, e2, List.append_assoc] at c2
            exact c2
        · -- a comparison
          obtain ⟨f, p', lev, sg, num, g0, g1, g2⟩ := atomE (b := b) (lim := lim) (a := w) e p1.2
          refine ⟨f, p', o + 1, [nI (rWd w lev sg num)], fun at_ => at_ w lev sg num, fun z => ?_, ?_, ?_⟩
          · obtain ⟨a1, a2, a3, a4, a5⟩ := g0 z
            exact ⟨by omega, by omega, by omega, a5, rOk_at e a1 a2 a3, by show 1 + 1 ≤ _; omega⟩
          · intro S d x I J first j Q hf hj h h8 h2 kf ks
            rw [eD]
            refine cOne hw h (cGo w9 (by omega) ho3 h h8 h2 (fun I3 c3 t3 e8 e2 => ⟨fun q => absurd q (by omega), fun q => absurd q (by omega), fun _ => ?_⟩))
            refine g1 S (d + 2 * m + 9) x I3 J _ t3 e8 (fun y I' c1 c2 c4 => ⟨fun _ => kf y I' (c3.tr (Nat.le_refl _) (cFr.c c1)) c2 c4, fun q => absurd rfl q⟩) (fun y I' c1 c2 c4 c5 => ⟨fun q => absurd q (by decide), fun _ => ?_⟩)
            obtain ⟨a1, a2, a3, a4, a5⟩ := g0 y
            have e29 : I' 29 2 = nI (o + 1) := by rw [c1.2 2 (by decide)]; exact e2
            refine v42_29_188 ⟨by rw [nI_add]; exact nI_in (by omega) (by omega), ?_⟩
            rw [e29, pk_sub (by omega), c5, tw_n (by omega) hj (by omega) (by omega), nI_add, nI_clamp (by omega)]
            have cf : cFr first o I' (mSet I' 22 (first + o) (nI ((o + 1 - o) * 524288 + (j * 262144 + w * 16384 + (lev * 4096 + sg * 1024 + num))))) := cFr.w ho3
            refine ks y _ ((c3.tr (Nat.le_refl _) (cFr.c c1)).tr (Nat.le_refl _) cf) (c2.o (mSet_ne (by decide)) (mSet_ne (by decide))) (by rw [mSet_ne (by decide)]; exact c4) (by rw [mSet_ne (by decide)]; exact e29) (Or.inl ⟨by omega, w, lev, sg, num, e, a1, a2, a3, ?_, rfl⟩)
            unfold mSet va_up
            rw [if_pos rfl, if_pos rfl, show o + 1 - o = 1 by omega]
            rfl
          · intro S d x I J C P Q h h8 hP hC kf ks
            refine rOne hw h.1 (fun l1 l2 b1 b2 b3 => rGo ho3 b1 b2 b3 w9 h h8 hP hC (fun I4 J4 f4 r4 => ⟨fun q => absurd q (by omega), fun q => absurd q (by omega), fun _ => ?_⟩))
            refine g2 S (d + 1) x I4 J4 (o + 1) C P _ r4 (by omega) (by omega) (fun y I' J' c1 c2 => ⟨Or.inl rfl, fun _ => kf y I' J' (f4.tr c1) c2, fun q => absurd rfl q⟩) (fun y I' J' c1 c2 => ⟨Or.inr rfl, fun q => absurd q (by decide), fun _ => ks y I' J' (f4.tr c1) c2⟩)
    · have h4 : ¬ uK b n lim p = 40 := fun q => hw ⟨9, Or.inl ⟨q, rfl⟩⟩
      have hn : ∀ w, w < 9 → ¬ uW b n lim p = TW2.getD w 0 := fun w h1 q => hw ⟨w, Or.inr ⟨h4, h1, q⟩⟩
      refine ⟨1, p, o, [], fun _ => false, fun q => absurd q (by decide), ?_, ?_⟩
      · intro S d x I J first j Q hf hj h h8 h2 kf ks
        rw [eD]
        exact cOne0 h4 hn h (kf (by decide) _ (cFr.o (fun a ha => mSet_ne ha)) rfl h.2.2.2.1)
      · intro S d x I J C P Q h h8 hP hC kf ks
        exact rOne0 h4 hn h.1 ⟨fun _ => kf (by decide) _ _ pFr.rf h.1.2.2.2.1, fun q => absurd rfl q⟩
end PD0
end
section
/-! the house that is read: the class's draft against the reference's row -/
section PE0
variable {S : Nat × (Nat → Int32)} {d : Nat} {x : mX} {I : rI0} {J : rJ0} {b : Nat → Int32} {n lim p : Nat}
theorem sh_r : ∀ r, r < 8 → (((nI r &&& 31).toBitVec.smod 32).toNat = r ∧ (((nI r).toUInt32 &&& Int32.toUInt32 31).toBitVec % 32).toNat = r) := by decide
theorem nI01 {v : Nat} (h : v ≤ 1) : (nI v = 1 ↔ v = 1) ∧ (nI v = 0 ↔ v = 0) := by
  rcases (show v = 0 ∨ v = 1 by omega) with z | z <;> subst z <;> decide
theorem tb_i (m r : Nat) : m / 2 ^ r % 2 = 1 ↔ m.testBit r = true := by
  rw [Nat.testBit_eq_decide_div_mod_eq, decide_eq_true_iff]
theorem hbt_n {m r : Nat} (hm : m < 256) (hr : r < 8) : ((nI m >>> (nI r &&& 31)) &&& 1) = 1 ↔ m.testBit r = true := by
  rw [pk_shrN (by omega) _ r (sh_r r hr).1, pk_andN (by have := Nat.div_le_self m (2 ^ r); omega) 1 (by decide), ← tb_i]
  exact (nI01 (by omega)).1
theorem hcu_n {m r : Nat} (hm : m < 256) (hr : r < 8) : ((((nI m).toUInt32 >>> ((nI r).toUInt32 &&& Int32.toUInt32 31)).toInt32) &&& 1) = 0 ↔ ¬ m.testBit r = true := by
  rw [pk_ushrN (by omega) _ r (sh_r r hr).2, pk_andN (by have := Nat.div_le_self m (2 ^ r); omega) 1 (by decide), ← tb_i]
  have := (nI01 (v := m / 2 ^ r % 2 ^ 1) (by omega)).2
  rw [this]
  omega
theorem or_n {m r : Nat} (hm : m < 256) (hr : r < 8) : nI m ||| ((1 : Int32) <<< (nI r &&& 31)) = nI (m ||| 2 ^ r) ∧ m ||| 2 ^ r < 256 := by
  have p8 : 2 ^ r < 2 ^ 8 := Nat.pow_lt_pow_right (by decide) hr
  have l : m ||| 2 ^ r < 2 ^ 8 := Nat.or_lt_two_pow (by omega) p8
  refine ⟨?_, l⟩
  have e : (1 : Int32) <<< (nI r &&& 31) = nI (1 * 2 ^ r) := pk_shlN (n := 1) _ r (sh_r r hr).1 (by omega)
  rw [e, Nat.one_mul, ← Int32.toBitVec_inj, Int32.toBitVec_or]
  apply BitVec.eq_of_toNat_eq
  rw [BitVec.toNat_or, pk_tn (by omega), pk_tn (by omega), pk_tn (by omega)]
theorem or_t {m r q : Nat} : (m ||| 2 ^ r).testBit q = true ↔ m.testBit q = true ∨ q = r := by
  rw [Nat.testBit_or, Nat.testBit_two_pow, Bool.or_eq_true, decide_eq_true_iff]
  constructor
  · rintro (h | h)
    · exact Or.inl h
    · exact Or.inr h.symm
  · rintro (h | h)
    · exact Or.inl h
    · exact Or.inr h.symm
def kc (K : Nat → Int32) : Nat → Nat
  | 0 => 0
  | k + 1 => kc K k + (if K k = -1 then 0 else 1)
theorem kc_le {K : Nat → Int32} : ∀ k, kc K k ≤ k := by
  intro k
  induction k with
  | zero => exact Nat.le_refl _
  | succ k ih =>
    show kc K k + (if K k = -1 then 0 else 1) ≤ k + 1
    split <;> omega
theorem kc_cg {K L : Nat → Int32} : ∀ k, (∀ i, i < k → L i = K i) → kc L k = kc K k := by
  intro k
  induction k with
  | zero => intro _; rfl
  | succ k ih =>
    intro h
    show kc L k + (if L k = -1 then 0 else 1) = kc K k + (if K k = -1 then 0 else 1)
    rw [ih (fun i hi => h i (by omega)), h k (by omega)]
/-- rows and SEATS -/
def hA (R C : Nat) (I I' : rI0) : Prop := R ≤ 8 ∧ C ≤ 8 ∧ (R = 0 → C = 0) ∧ (¬ R = 0 → 1 ≤ C) ∧ I 16 0 = nI R ∧ I' 46 0 = nI R ∧ I 16 1 = nI C ∧ I' 46 1 = nI C ∧ (∀ s, s < R * C → (I 17 s = -1 ∨ RB (I 17 s) 5) ∧ I' 46 (6 + s) = I 17 s + 1) ∧ (∀ s, R * C ≤ s → s < 64 → I' 46 (6 + s) = 0) ∧ I' 46 2 = nI (kc (I 17) (R * C))
/-- prices -/
def hP (I I' : rI0) : Prop := (∃ m, m < 256 ∧ I 29 3 = nI m ∧ I' 43 20 = nI m) ∧ ∀ r, r < 8 → RB (I 19 r) 999 ∧ I' 46 (70 + r) = I 19 r
/-- trains -/
def hL (I I' : rI0) : Prop := ∃ m, m < 256 ∧ I' 43 21 = nI m ∧ ∀ r, r < 8 → (I 20 r = -1 ∨ RB (I 20 r) 600) ∧ I' 46 (78 + r) = I 20 r + 1 ∧ (m.testBit r = true ↔ ¬ I 20 r = -1)
/-- what may be told once -/
def hO (I I' : rI0) : Prop := ∃ c0 c1 c2, c0 ≤ 1 ∧ c1 ≤ 1 ∧ c2 ≤ 1 ∧ I 29 4 = nI c0 ∧ I 29 5 = nI c1 ∧ I 16 4 = nI c2 ∧ I' 43 22 = nI (c0 + 2 * c1 + 4 * c2) ∧ I' 46 5 = nI c2 ∧ (∃ v, 1 ≤ v ∧ v ≤ 64 ∧ I 16 2 = nI v ∧ I' 46 3 = nI v) ∧ ∃ v, v ≤ 600 ∧ I 16 3 = nI v ∧ I' 46 4 = nI v
/-- a law that is told -/
def hT1 (A B : Nat → Int32) (l sz : Nat) : Prop := 1 ≤ sz ∧ sz ≤ 20 ∧ ∃ V R, lJ (lO A 8) (20 * l) sz V ∧ rOk R V ∧ R.length ≤ 40 ∧ B (87 + 42 * l) = nI R.length ∧ arr (fun i => B (88 + 42 * l + i)) R
def hT (I I' : rI0) : Prop := ∀ l, l < 12 → (I 21 l = -1 ∧ I' 46 (86 + 42 * l) = 0) ∨ ∃ sz, I 21 l = nI sz ∧ I' 46 (86 + 42 * l) = nI sz ∧ hT1 (I 22) (I' 46) l sz
def HRl (R C : Nat) (I I' : rI0) : Prop := hA R C I I' ∧ hP I I' ∧ hL I I' ∧ hO I I' ∧ hT I I'
theorem hA.cg {R C : Nat} {I1 I' I2 : rI0} (h : hA R C I I') (a : I1 16 0 = I 16 0) (c : I1 16 1 = I 16 1) (e : ∀ s, s < 64 → I1 17 s = I 17 s) (f : ∀ k, k < 70 → ¬ (3 ≤ k ∧ k ≤ 5) → I2 46 k = I' 46 k) : hA R C I1 I2 := by
  obtain ⟨h1, h2, h3, h4, h5, h6, h7, h8, h9, h10, h11⟩ := h
  have hm : R * C ≤ 64 := Nat.mul_le_mul h1 h2
  refine ⟨h1, h2, h3, h4, a.trans h5, (f 0 (by omega) (by omega)).trans h6, c.trans h7, (f 1 (by omega) (by omega)).trans h8, fun s hs => ?_, fun s hs hs2 => (f (6 + s) (by omega) (by omega)).trans (h10 s hs hs2), ?_⟩
  · rw [e s (by omega), f (6 + s) (by omega) (by omega)]
    exact h9 s hs
  · rw [f 2 (by omega) (by omega), h11, kc_cg _ (fun i hi => e i (by omega))]
theorem hP.cg {I1 I' I2 : rI0} (h : hP I I') (a : I1 29 3 = I 29 3) (c : I2 43 20 = I' 43 20) (e : I1 19 = I 19) (f : ∀ k, 70 ≤ k → k < 78 → I2 46 k = I' 46 k) : hP I1 I2 := by
  obtain ⟨⟨m, h1, h2, h3⟩, h4⟩ := h
  refine ⟨⟨m, h1, a.trans h2, c.trans h3⟩, fun r hr => ?_⟩
  rw [e, f (70 + r) (by omega) (by omega)]
  exact h4 r hr
theorem hL.cg {I1 I' I2 : rI0} (h : hL I I') (c : I2 43 21 = I' 43 21) (e : I1 20 = I 20) (f : ∀ k, 78 ≤ k → k < 86 → I2 46 k = I' 46 k) : hL I1 I2 := by
  obtain ⟨m, h1, h2, h3⟩ := h
  refine ⟨m, h1, c.trans h2, fun r hr => ?_⟩
  rw [e, f (78 + r) (by omega) (by omega)]
  exact h3 r hr
theorem hO.cg {I1 I' I2 : rI0} (h : hO I I') (a : ∀ k, k = 4 ∨ k = 5 → I1 29 k = I 29 k) (e : ∀ k, 2 ≤ k → k ≤ 4 → I1 16 k = I 16 k) (c : I2 43 22 = I' 43 22) (f : ∀ k, 3 ≤ k → k ≤ 5 → I2 46 k = I' 46 k) : hO I1 I2 := by
  unfold hO
  rw [a 4 (by omega), a 5 (by omega), e 4 (by omega) (by omega), e 2 (by omega) (by omega), e 3 (by omega) (by omega), c, f 3 (by omega) (by omega), f 4 (by omega) (by omega), f 5 (by omega) (by omega)]
  exact h
theorem hT1.cg {A B A' B' : Nat → Int32} {l sz : Nat} (h : hT1 A B l sz) (a : ∀ i, 20 * l ≤ i → i < 20 * l + 20 → A' i = A i) (c : ∀ k, 86 + 42 * l ≤ k → k < 128 + 42 * l → B' k = B k) : hT1 A' B' l sz := by
  obtain ⟨h1, h2, V, R, h3, h4, h5, h6, h7⟩ := h
  exact ⟨h1, h2, V, R, lJ_cg (fun t q1 q2 => a t q1 (by omega)) h3, h4, h5, (c (87 + 42 * l) (by omega) (by omega)).trans h6, arr_cg R (fun i hi => c (88 + 42 * l + i) (by omega) (by omega)) h7⟩
theorem hT.cg {I1 I' I2 : rI0} (h : hT I I') (a : I1 21 = I 21) (e : I1 22 = I 22) (f : ∀ k, 86 ≤ k → k < 590 → I2 46 k = I' 46 k) : hT I1 I2 := by
  intro l hl
  rw [a, e, f (86 + 42 * l) (by omega) (by omega)]
  rcases h l hl with g | ⟨sz, g1, g2, g3⟩
  · exact Or.inl g
  · exact Or.inr ⟨sz, g1, g2, g3.cg (fun _ _ _ => rfl) (fun k q1 q2 => f k (by omega) (by omega))⟩
/-- tokens alone have moved on both sides -/
theorem HRl.tk {R C : Nat} {I1 I' I2 : rI0} (h : HRl R C I I') (a : ∀ r, r ≠ 28 → I1 r = I r) (c : I2 46 = I' 46) (e : ∀ k, 20 ≤ k → k ≤ 22 → I2 43 k = I' 43 k) : HRl R C I1 I2 := by
  obtain ⟨h1, h2, h3, h4, h5⟩ := h
  exact ⟨h1.cg (by rw [a 16 (by decide)]) (by rw [a 16 (by decide)]) (fun s _ => by rw [a 17 (by decide)]) (fun k _ _ => by rw [c]), h2.cg (by rw [a 29 (by decide)]) (e 20 (by omega) (by omega)) (a 19 (by decide)) (fun k _ _ => by rw [c]), h3.cg (e 21 (by omega) (by omega)) (a 20 (by decide)) (fun k _ _ => by rw [c]), h4.cg (fun k _ => by rw [a 29 (by decide)]) (fun k _ _ => by rw [a 16 (by decide)]) (e 22 (by omega) (by omega)) (fun k _ _ => by rw [c]), h5.cg (a 21 (by decide)) (a 22 (by decide)) (fun k _ _ => by rw [c])⟩
end PE0
end
section
section PF0
variable {S : Nat × (Nat → Int32)} {d : Nat} {x : mX} {I I' : rI0} {J J' : rJ0} {b : Nat → Int32} {n lim p R C : Nat}
def hcF (I I1 : rI0) : Prop := ∀ a, ¬ (a = 16 ∨ a = 17 ∨ (19 ≤ a ∧ a ≤ 22) ∨ a = 28 ∨ a = 29) → I1 a = I a
theorem hcF.rf : hcF I I := fun _ _ => rfl
theorem hcF.tr {I1 I2 : rI0} (h : hcF I I1) (h2 : hcF I1 I2) : hcF I I2 := fun a ha => (h2 a ha).trans (h a ha)
theorem hcF.s {a k : Nat} {v : Int32} (ha : a = 16 ∨ a = 17 ∨ (19 ≤ a ∧ a ≤ 22) ∨ a = 28 ∨ a = 29) : hcF I (mSet I a k v) := fun c hc => mSet_ne (by omega)
theorem hcF.o {I1 : rI0} (h : ∀ a, a ≠ 28 → I1 a = I a) : hcF I I1 := fun a ha => h a (by omega)
def hrF (I : rI0) (J : rJ0) (I2 : rI0) (J2 : rJ0) : Prop := (∀ a, ¬ (a = 43 ∨ a = 46 ∨ a = 48 ∨ a = 49) → I2 a = I a) ∧ (∀ k, ¬ (k = 4 ∨ (9 ≤ k ∧ k ≤ 14) ∨ k = 18 ∨ (20 ≤ k ∧ k ≤ 22) ∨ (26 ≤ k ∧ k ≤ 28)) → I2 43 k = I 43 k) ∧ (∀ a, a ≠ 43 → J2 a = J a) ∧ ∀ k, k ≠ 15 → J2 43 k = J 43 k
theorem hrF.rf : hrF I J I J := ⟨fun _ _ => rfl, fun _ _ => rfl, fun _ _ => rfl, fun _ _ => rfl⟩
theorem hrF.tr {I1 I2 : rI0} {J1 J2 : rJ0} (h : hrF I J I1 J1) (h2 : hrF I1 J1 I2 J2) : hrF I J I2 J2 := ⟨fun a ha => (h2.1 a ha).trans (h.1 a ha), fun k hk => (h2.2.1 k hk).trans (h.2.1 k hk), fun a ha => (h2.2.2.1 a ha).trans (h.2.2.1 a ha), fun k hk => (h2.2.2.2 k hk).trans (h.2.2.2 k hk)⟩
theorem hrF.s {k : Nat} {v : Int32} (hk : k = 4 ∨ (9 ≤ k ∧ k ≤ 14) ∨ k = 18 ∨ (20 ≤ k ∧ k ≤ 22) ∨ (26 ≤ k ∧ k ≤ 28)) : hrF I J (mSet I 43 k v) J := ⟨fun a ha => mSet_ne (by omega), fun j hj => mSet_x (by omega), fun _ _ => rfl, fun _ _ => rfl⟩
theorem hrF.h {k : Nat} {v : Int32} : hrF I J (mSet I 46 k v) J := ⟨fun a ha => mSet_ne (by omega), fun j hj => by rw [mSet_ne (by decide)], fun _ _ => rfl, fun _ _ => rfl⟩
theorem hrF.pf {I2 : rI0} {J2 : rJ0} (h : pFr I J I2 J2) : hrF I J I2 J2 := ⟨fun a ha => h.1 a (by omega) (by omega) (by omega), fun k hk => h.2.1 k (by omega), h.2.2.1, h.2.2.2⟩
theorem hrF.nx {I2 : rI0} {J2 : rJ0} (h : Nf5 I J I2 J2) : hrF I J I2 J2 := hrF.pf (pFr.nx h)
theorem hrF.bd {v : Int32} : hrF I J (bdI I v) J := (hrF.s (by omega)).tr (hrF.s (by omega))
def LOut (b : Nat → Int32) (n lim p : Nat) (I' : rI0) (v : Int32) (I1 I2 : rI0) (J2 : rJ0) : Prop := (v = 0 ∧ ∃ f, ¬ f = 0 ∧ I1 28 8 = f ∧ I2 43 13 = f ∧ I1 28 4 = I2 43 14) ∨ (v = 1 ∧ I2 43 13 = I' 43 13 ∧ ∃ p1 R C, p < p1 ∧ p1 ≤ n ∧ Tck b n lim p1 I1 ∧ I1 28 8 = 0 ∧ Nck b n lim p1 I2 J2 ∧ HRl R C I1 I2)
def RefL (b : Nat → Int32) (n lim p : Nat) (I' : rI0) (J' : rJ0) (v : Int32) (I1 : rI0) : Prop := ∀ (S : Nat × (Nat → Int32)) (d : Nat) (x : mX) (Q' : Int32 → rI0 → rJ0 → Prop), (∀ I2 J2, hrF I' J' I2 J2 → LOut b n lim p I' v I1 I2 J2 → Q' v I2 J2) → wcI S (d + 9) 167 [.ref 43] x I' J' Q'
theorem lo0 {f : Int32} {I' I1 I2 : rI0} {J2 : rJ0} {q : Nat} (hf : ¬ f = 0) (e8 : I1 28 8 = f) (e13 : I2 43 13 = f) (e4 : I1 28 4 = nI q) (e14 : I2 43 14 = nI q) : LOut b n lim p I' 0 I1 I2 J2 := Or.inl ⟨rfl, f, hf, e8, e13, e4.trans e14.symm⟩
theorem hasR {m r : Nat} {Q : Int32 → rI0 → rJ0 → Prop} (hm : m < 256) (hr : r < 8) (k1 : m.testBit r = true → Q 1 I J) (k0 : ¬ m.testBit r = true → Q 0 I J) : wcI S d 152 [.int (nI m), .int (nI r)] x I J Q :=
  c152 ⟨fun z => k1 ((hbt_n hm hr).mp z), fun z => k0 (fun q => z ((hbt_n hm hr).mpr q))⟩
theorem row_c {v R : Nat} (hv : v ≤ 999) (hR : R ≤ 8) : (nI v < 0 ∨ nI R - 1 < nI v) ↔ ¬ v < R := by
  have e : (nI R - 1).toInt = (R : Int) - 1 := i_sub (nI_toInt (by omega)) (by decide) (by omega)
  rw [Int32.lt_iff_toInt_lt, Int32.lt_iff_toInt_lt, e, nI_toInt (by omega), show (0 : Int32).toInt = 0 by decide]
  omega
/-- takesRow(): the reference's -/
theorem uV_e (b : Nat → Int32) (n lim p : Nat) : ∃ v, uK b n lim p = 3 → v ≤ 999 ∧ uV b n p = nI v := by
  by_cases z : uK b n lim p = 3
  · obtain ⟨v, h1, h2⟩ := uV_b z
    exact ⟨v, fun _ => ⟨h1, h2⟩⟩
  · exact ⟨0, fun q => absurd q z⟩
theorem rowR {m v : Nat} {Q : Int32 → rI0 → rJ0 → Prop} (hv : uK b n lim (uE b n lim p) = 3 → v ≤ 999 ∧ uV b n (uE b n lim p) = nI v) (u : Nck b n lim p I J) (hR : R ≤ 8) (h0 : I 46 0 = nI R) (hm : m < 256)
    (k1 : ¬ uK b n lim (uE b n lim p) = 3 → ∀ I1 J1, hrF I J I1 J1 → I1 43 13 = 1 → I1 43 14 = nI (uA b n lim (uE b n lim p)) → Q 0 I1 J1)
    (k2 : uK b n lim (uE b n lim p) = 3 → ¬ v < R → ∀ I1 J1, hrF I J I1 J1 → I1 43 13 = 2 → I1 43 14 = nI (uA b n lim (uE b n lim p)) → Q 0 I1 J1)
    (k3 : uK b n lim (uE b n lim p) = 3 → v < R → m.testBit v = true → ∀ I1 J1, hrF I J I1 J1 → I1 43 13 = 3 → I1 43 14 = nI (uA b n lim (uE b n lim p)) → Q 0 I1 J1)
    (k4 : uK b n lim (uE b n lim p) = 3 → v < R → ¬ m.testBit v = true → ∀ I1 J1, Nck b n lim (uE b n lim (uE b n lim p)) I1 J1 → (∀ a, a ≠ 43 → I1 a = I a) → hrF I J I1 J1 → (∀ k, k = 13 ∨ (20 ≤ k ∧ k ≤ 22) → I1 43 k = I 43 k) → I1 43 18 = nI v → Q 1 I1 J1) : wcI S (d + 2) 169 [.ref 43, .int (nI m)] x I J Q := by
  refine c169_43 (nextS u.2.1 (fun I1 J1 f1 t1 => ?_))
  have r0 : I1 46 ((0 : Int32).toNatClampNeg) = nI R := by
    show I1 46 0 = _
    rw [f1.1 46 (by decide)]
    exact h0
  refine ⟨fun z => ⟨by decide, ?_⟩, fun z => badR ⟨Or.inl rfl, k1 (fun q => z (by rw [t1.2.2.1, q]; rfl)) _ _ ((hrF.nx f1).tr hrF.bd) rfl t1.2.2.2.1⟩⟩
  have z : uK b n lim (uE b n lim p) = 3 := tokOf_3.mp (t1.2.2.1.symm.trans z)
  obtain ⟨hv, ev⟩ := hv z
  have e12 : I1 43 12 = nI v := (t1.2.2.2.2.2.1 z).trans ev
  rw [r0, e12]
  refine ⟨fun y => ?_, fun y => badR ⟨Or.inl rfl, k2 z (fun q => y (nI_lt q (by omega))) _ _ ((hrF.nx f1).tr hrF.bd) rfl t1.2.2.2.1⟩⟩
  have y : v < R := by
    rcases Nat.lt_or_ge v R with w | w
    · exact w
    · exact absurd y (nI_nlt w (by omega))
  refine hasR hm (by omega) (fun w => ⟨fun q => absurd q (by decide), fun _ => badR ⟨Or.inl rfl, k3 z y w _ _ ((hrF.nx f1).tr hrF.bd) rfl t1.2.2.2.1⟩⟩) (fun w => ⟨fun _ => ?_, fun q => absurd rfl q⟩)
  refine nextS (t1.2.1.mv t1.2.1.2.2.1 (mSet_ne (by decide)) rfl rfl t1.2.1.2.2.2.2.2.2) (fun I2 J2 f2 t2 => k4 z y w I2 J2 t2 (fun a ha => by rw [f2.1 a ha, mSet_ne ha, f1.1 a ha]) ((hrF.nx f1).tr ((hrF.s (by omega)).tr (hrF.nx f2))) (fun k q1 => by rw [f2.2.1 k (by omega), mSet_x (by omega), f1.2.1 k (by omega)]) ?_)
  rw [f2.2.1 18 (by omega)]
  exact e12
/-- the class's row number -/
theorem rowC {v : Nat} {e : Int32} {Q : Int32 → rI0 → rJ0 → Prop} (hv : uK b n lim p = 3 → v ≤ 999 ∧ uV b n p = nI v) (t : Tck b n lim p I) (h8 : I 28 8 = 0) (hR : R ≤ 8) (e1 : e = nI R - 1)
    (k1 : ¬ uK b n lim p = 3 → Q 0 (mSet I 28 8 1) J)
    (k2 : uK b n lim p = 3 → ¬ v < R → Q 0 (mSet I 28 8 2) J)
    (k3 : uK b n lim p = 3 → v < R → I 28 6 = nI v → Q 1 I J) : wcI S d 76 [.ref 28, .int (0 : Int32), .int e] x I J Q := by
  subst e1
  refine withinS t h8 k1 (fun z y => ?_) (fun z y1 y2 e6 => ?_)
  · obtain ⟨h1, h2⟩ := hv z
    rw [h2] at y
    exact k2 z ((row_c h1 hR).mp y)
  · obtain ⟨h1, h2⟩ := hv z
    rw [h2] at y1 y2 e6
    refine k3 z ?_ e6
    rcases Nat.lt_or_ge v R with w | w
    · exact w
    · rcases (row_c h1 hR).mpr (by omega) with q | q
      · exact absurd q y1
      · exact absurd q y2
/-- a number within 0 .. hi, where hi is at least 999 or below: both sides -/
theorem numC {v lo hi : Nat} {Q : Int32 → rI0 → rJ0 → Prop} (hv : uK b n lim p = 3 → v ≤ 999 ∧ uV b n p = nI v) (t : Tck b n lim p I) (h8 : I 28 8 = 0) (hh : lo ≤ 999 ∧ hi ≤ 999)
    (k1 : ¬ uK b n lim p = 3 → Q 0 (mSet I 28 8 1) J)
    (k2 : uK b n lim p = 3 → ¬ (lo ≤ v ∧ v ≤ hi) → Q 0 (mSet I 28 8 2) J)
    (k3 : uK b n lim p = 3 → lo ≤ v ∧ v ≤ hi → ∀ I', (∀ a, a ≠ 28 → I' a = I a) → I' 28 7 = nI v → I' 28 8 = 0 → Tck b n lim (uE b n lim p) I' → Q 1 I' J) : wcI S (d + 1) 77 [.ref 28, .int (nI lo), .int (nI hi)] x I J Q := by
  refine takeS t h8 k1 (fun z y => ?_) (fun z y1 y2 I' a1 a2 a3 a4 => ?_)
  · obtain ⟨h1, h2⟩ := hv z
    rw [h2] at y
    refine k2 z (fun q => ?_)
    rcases y with y | y
    · exact absurd y (nI_nlt q.1 (by omega))
    · exact absurd y (nI_nlt q.2 (by omega))
  · obtain ⟨h1, h2⟩ := hv z
    rw [h2] at y1 y2 a2
    refine k3 z ⟨?_, ?_⟩ I' a1 a2 a3 a4
    · rcases Nat.lt_or_ge v lo with w | w
      · exact absurd (nI_lt w (by omega)) y1
      · exact w
    · rcases Nat.lt_or_ge hi v with w | w
      · exact absurd (nI_lt w (by omega)) y2
      · exact w
theorem numR {v lo hi : Nat} {Q : Int32 → rI0 → rJ0 → Prop} (hv : uK b n lim p = 3 → v ≤ 999 ∧ uV b n p = nI v) (u : Nck b n lim p I J) (hh : lo ≤ 999 ∧ hi ≤ 999)
    (k1 : ¬ uK b n lim p = 3 → Q 0 (bdI I 1) J)
    (k2 : uK b n lim p = 3 → ¬ (lo ≤ v ∧ v ≤ hi) → Q 0 (bdI I 2) J)
    (k3 : uK b n lim p = 3 → lo ≤ v ∧ v ≤ hi → ∀ I' J', Nf5 (mSet I 43 18 (nI v)) J I' J' → Nck b n lim (uE b n lim p) I' J' → Q 1 I' J') : wcI S (d + 2) 166 [.ref 43, .int (nI lo), .int (nI hi)] x I J Q := by
  refine takesR u k1 (fun z y => ?_) (fun z y1 y2 I' J' a1 a2 => ?_)
  · obtain ⟨h1, h2⟩ := hv z
    rw [h2] at y
    refine k2 z (fun q => ?_)
    rcases y with y | y
    · exact absurd y (nI_nlt q.1 (by omega))
    · exact absurd y (nI_nlt q.2 (by omega))
  · obtain ⟨h1, h2⟩ := hv z
    rw [h2] at y1 y2 a1
    refine k3 z ⟨?_, ?_⟩ I' J' a1 a2
    · rcases Nat.lt_or_ge v lo with w | w
      · exact absurd (nI_lt w (by omega)) y1
      · exact w
    · rcases Nat.lt_or_ge hi v with w | w
      · exact absurd (nI_lt w (by omega)) y2
      · exact w
theorem lnPrice {Q : Int32 → rI0 → rJ0 → Prop} (h : HRl R C I I') (t : Tck b n lim p I) (h8 : I 28 8 = 0) (u : Nck b n lim p I' J') (hw : uW b n lim p = 482955846501) (k : ∀ v I1, hcF I I1 → RefL b n lim p I' J' v I1 → Q v I1 J) : wcI S (d + 3) 44 [.ref 29] x I J Q := by
  obtain ⟨ha, hp, hl, ho, ht⟩ := h
  have hR := ha.1
  have h460 := ha.2.2.2.2.2.1
  have g1 := uE_le (b := b) (lim := lim) t.1
  have g2 := uE_le (b := b) (lim := lim) g1.2
  have g3 := uE_le (b := b) (lim := lim) g2.2
  obtain ⟨v, hv⟩ := uV_e b n lim (uE b n lim p)
  obtain ⟨y, hy⟩ := uV_e b n lim (uE b n lim (uE b n lim p))
  have pg := (uE_gt (b := b) (n := n) (lim := lim) (p := p) (fun q => by rw [uW_n (by rw [q]; decide)] at hw; exact absurd hw (by decide)) (fun q => by rw [uW_n (by rw [q]; decide)] at hw; exact absurd hw (by decide))).1
  obtain ⟨⟨m, hm, em, em'⟩, hpr⟩ := hp
  -- the reference up to the row's number
  have rr : ∀ {S : Nat × (Nat → Int32)} {d : Nat} {x : mX} {Q' : Int32 → rI0 → rJ0 → Prop}, wcI S (d + 8) 169 [.ref 43, .int (nI m)] x I' J' (fun r17 I17 J17 => ((r17 = (0 : Int32) → Q' (0 : Int32) I17 J17) ∧ (¬ r17 = (0 : Int32) → (wcI S (d + 8) 166 [.ref 43, .int (0 : Int32), .int (999 : Int32)] x (mSet I17 43 20 ((I17 43 20) ||| ((1 : Int32) <<< (I17 43 18 &&& 31)))) J17 (fun r18 I18 J18 => ((r18 = (0 : Int32) → Q' (0 : Int32) I18 J18) ∧ (¬ r18 = (0 : Int32) → (¬ mOut ((70 : Int32) + (I17 43 18)) 590 ∧ Q' (1 : Int32) (mSet I18 46 (((70 : Int32) + (I17 43 18)).toNatClampNeg) (I18 43 18)) J18))))))) ) → wcI S (d + 9) 167 [.ref 43] x I' J' Q' := fun kk => c167_43 (wordR (by decide) u (fun q => absurd (hw.symm.trans q) (by decide)) (fun _ => ⟨fun _ => wordR (by decide) u (fun q => absurd (hw.symm.trans q) (by decide)) (fun _ => ⟨fun _ => wordR (by decide) u (fun q => absurd (hw.symm.trans q) (by decide)) (fun _ => ⟨fun _ => wordR (by decide) u (fun _ => ⟨fun q => absurd q (by decide), fun _ => (by rw [em']; exact kk)⟩) (fun q => absurd hw q), fun q => absurd rfl q⟩), fun q => absurd rfl q⟩), fun q => absurd rfl q⟩))
  refine c44_29 (readS t.2.1 (fun I1 o1 t1 => ?_))
  have e8 : I1 28 8 = 0 := (o1.2 8 (by omega)).trans h8
  have eR : I1 16 0 = nI R := by rw [o1.1 16 (by decide)]; exact ha.2.2.2.2.1
  refine rowC (R := R) hv t1 e8 hR (by rw [eR]) (fun z => ⟨fun _ => k 0 _ ((hcF.o o1.1).tr (hcF.s (by omega))) (fun S d x Q' kk => rr ?_), fun q => absurd rfl q⟩) (fun z y => ⟨fun _ => k 0 _ ((hcF.o o1.1).tr (hcF.s (by omega))) (fun S d x Q' kk => rr ?_), fun q => absurd rfl q⟩) (fun z yv e6 => ⟨fun q => absurd q (by decide), fun _ => ?_⟩)
  · exact rowR (R := R) hv u hR h460 hm (fun _ I2 J2 f2 a13 a14 => ⟨fun _ => kk I2 J2 f2 (lo0 (f := 1) (by decide) rfl a13 t1.2.2.2.1 a14), fun q => absurd rfl q⟩) (fun q => absurd q z) (fun q => absurd q z) (fun q => absurd q z)
  · exact rowR (R := R) hv u hR h460 hm (fun q => absurd z q) (fun _ _ I2 J2 f2 a13 a14 => ⟨fun _ => kk I2 J2 f2 (lo0 (f := 2) (by decide) rfl a13 t1.2.2.2.1 a14), fun q => absurd rfl q⟩) (fun _ q => absurd q y) (fun _ q => absurd q y)
  · have em1 : I1 29 3 = nI m := by rw [o1.1 29 (by decide)]; exact em
    rw [e6, em1]
    refine ⟨fun w => ?_, fun w => ?_⟩
    · have w : ¬ m.testBit v = true := (hcu_n hm (by omega)).mp w
      have om := or_n hm (r := v) (by omega)
      rw [om.1]
      refine readS t1.2.1.s29 (fun I2 o2 t2 => ?_)
      have e82 : I2 28 8 = 0 := by rw [o2.2 8 (by omega), mSet_ne (by decide)]; exact e8
      have f2 : hcF I I2 := (hcF.o o1.1).tr ((hcF.s (by omega)).tr (hcF.o o2.1))
      refine numC (lo := 0) (hi := 999) hy t2 e82 (by omega) (fun z2 => ⟨fun _ => k 0 _ (f2.tr (hcF.s (by omega))) (fun S d x Q' kk => rr ?_), fun q => absurd rfl q⟩) (fun z2 q => absurd ⟨Nat.zero_le _, (hy z2).1⟩ q) (fun z2 yy I3 o3 e7 e83 t3 => ⟨fun q => absurd q (by decide), fun _ => ⟨nI_in (by omega) (by omega), k 1 _ (f2.tr ((hcF.o o3).tr (hcF.s (by omega)))) (fun S d x Q' kk => rr ?_)⟩⟩)
      · refine rowR (R := R) hv u hR h460 hm (fun q => absurd z q) (fun _ q => absurd yv q) (fun _ _ q => absurd q w) (fun _ _ _ I4 J4 n4 _ f4 g4 e18 => ⟨fun q => absurd q (by decide), fun _ => ?_⟩)
        exact numR (lo := 0) (hi := 999) hy (n4.cg (mSet_ne (by decide)) (fun k hk => mSet_x (by omega))) (by omega) (fun _ => ⟨fun _ => kk _ _ (f4.tr ((hrF.s (by omega)).tr hrF.bd)) (lo0 (f := 1) (by decide) rfl rfl t2.2.2.2.1 n4.2.2.2.1), fun q => absurd rfl q⟩) (fun q => absurd q z2) (fun q => absurd q z2)
      · refine rowR (R := R) hv u hR h460 hm (fun q => absurd z q) (fun _ q => absurd yv q) (fun _ _ q => absurd q w) (fun _ _ _ I4 J4 n4 a4 f4 g4 e18 => ⟨fun q => absurd q (by decide), fun _ => ?_⟩)
        have e20 : I4 43 20 ||| ((1 : Int32) <<< (I4 43 18 &&& 31)) = nI (m ||| 2 ^ v) := by rw [g4 20 (by omega), em', e18, om.1]
        refine numR (lo := 0) (hi := 999) hy (n4.cg (mSet_ne (by decide)) (fun k hk => mSet_x (by omega))) (by omega) (fun q => absurd z2 q) (fun _ q => absurd yy q) (fun _ _ I5 J5 f5 n5 => ⟨fun q => absurd q (by decide), fun _ => ⟨by rw [e18]; show ¬ mOut (nI 70 + nI v) 590; rw [nI_add]; exact nI_in (by omega) (by omega), ?_⟩⟩)
        have ix : ((70 : Int32) + I4 43 18).toNatClampNeg = 70 + v := by
          rw [e18]
          show (nI 70 + nI v).toNatClampNeg = _
          rw [nI_add, nI_clamp (by omega)]
        have e518 : I5 43 18 = nI y := f5.2.1 18 (by omega)
        rw [ix, e518]
        refine kk _ _ (f4.tr ((hrF.s (by omega)).tr ((hrF.s (by omega)).tr ((hrF.nx f5).tr hrF.h)))) (Or.inr ⟨rfl, (by rw [mSet_ne (by decide), f5.2.1 13 (by omega), mSet_x (by omega), mSet_x (by omega)]; exact g4 13 (by omega)), _, R, C, by omega, g3.2, t3.o (mSet_ne (by decide)) (mSet_ne (by decide)), by rw [mSet_ne (by decide)]; exact e83, n5.cg (mSet_ne (by decide)) (fun k hk => by rw [mSet_ne (by decide)]), ?_⟩)
        rw [nI_clamp (by omega), e7]
        have r46 : ∀ k, I5 46 k = I' 46 k := fun k => by rw [f5.1 46 (by decide), mSet_ne (by decide), mSet_ne (by decide), a4 46 (by decide)]
        have r43 : ∀ k, 21 ≤ k → k ≤ 22 → I5 43 k = I' 43 k := fun k q1 q2 => by rw [f5.2.1 k (by omega), mSet_x (by omega), mSet_x (by omega), g4 k (by omega)]
        have c1 : ∀ a, a ≠ 28 → a ≠ 29 → I3 a = I a := fun a q1 q2 => by rw [o3 a q1, o2.1 a q1, mSet_ne q2, o1.1 a q1]
        have c29 : ∀ k, k ≠ 3 → I3 29 k = I 29 k := fun k q => by rw [o3 29 (by decide), o2.1 29 (by decide), mSet_x (by omega), o1.1 29 (by decide)]
        refine ⟨ha.cg ?_ ?_ ?_ ?_, ⟨⟨m ||| 2 ^ v, om.2, ?_, ?_⟩, ?_⟩, hl.cg ?_ ?_ ?_, ho.cg ?_ ?_ ?_ ?_, ht.cg ?_ ?_ ?_⟩
        · rw [mSet_ne (by decide), c1 16 (by decide) (by decide)]
        · rw [mSet_ne (by decide), c1 16 (by decide) (by decide)]
        · intro s _; rw [mSet_ne (by decide), c1 17 (by decide) (by decide)]
        · intro k q1 q2; rw [mSet_x (by omega), r46]
        · rw [mSet_ne (by decide), o3 29 (by decide), o2.1 29 (by decide)]; rfl
        · rw [mSet_ne (by decide), f5.2.1 20 (by omega), mSet_x (by omega)]; exact e20
        · intro r hr
          by_cases q : r = v
          · subst q
            have l1 : (mSet I3 19 r (nI y)) 19 r = nI y := by unfold mSet va_up; rw [if_pos rfl, if_pos rfl]
            have l2 : (mSet I5 46 (70 + r) (nI y)) 46 (70 + r) = nI y := by unfold mSet va_up; rw [if_pos rfl, if_pos rfl]
            rw [l1, l2]
            exact ⟨⟨y, yy.2, rfl⟩, rfl⟩
          · rw [mSet_x (by omega), mSet_x (by omega), r46, c1 19 (by decide) (by decide)]
            exact hpr r hr
        · rw [mSet_ne (by decide)]; exact r43 21 (by omega) (by omega)
        · rw [mSet_ne (by decide), c1 20 (by decide) (by decide)]
        · intro k q1 q2; rw [mSet_x (by omega), r46]
        · intro k q; rw [mSet_ne (by decide), c29 k (by omega)]
        · intro k q1 q2; rw [mSet_ne (by decide), c1 16 (by decide) (by decide)]
        · rw [mSet_ne (by decide)]; exact r43 22 (by omega) (by omega)
        · intro k q1 q2; rw [mSet_x (by omega), r46]
        · rw [mSet_ne (by decide), c1 21 (by decide) (by decide)]
        · rw [mSet_ne (by decide), c1 22 (by decide) (by decide)]
        · intro k q1 q2; rw [mSet_x (by omega), r46]
    · have w : m.testBit v = true := by
        by_cases q : m.testBit v = true
        · exact q
        · exact absurd ((hcu_n hm (by omega)).mpr q) w
      refine failS ⟨Or.inl rfl, k 0 _ ((hcF.o o1.1).tr (hcF.s (by omega))) (fun S d x Q' kk => rr ?_)⟩
      exact rowR (R := R) hv u hR h460 hm (fun q => absurd z q) (fun _ q => absurd yv q) (fun _ _ _ I2 J2 f2 a13 a14 => ⟨fun _ => kk I2 J2 f2 (lo0 (f := 3) (by decide) rfl a13 t1.2.2.2.1 a14), fun q => absurd rfl q⟩) (fun _ _ q => absurd w q)
end PF0
end
