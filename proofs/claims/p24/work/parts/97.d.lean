section PD0
variable {S : Nat × (Nat → Int32)} {d : Nat} {x : mX} {I : rI0} {J : rJ0} {b : Nat → Int32} {n lim p : Nat}
theorem nI_m1 {w : Nat} (hw : w ≤ 9) : ¬ nI w = -1 := by
  intro q
  have := congrArg Int32.toInt q
  rw [nI_toInt (by omega)] at this
  have v : (-1 : Int32).toInt = -1 := by decide
  omega
theorem nI_inj {a c : Nat} (ha : a < 2 ^ 31) (hc : c < 2 ^ 31) (h : nI a = nI c) : a = c := by
  have := congrArg Int32.toInt h
  rw [nI_toInt ha, nI_toInt hc] at this
  omega
/-- too many, or too deep -/
theorem cFour {w m o : Nat} {p1 p2 : Int32} {Q : Int32 → rI0 → rJ0 → Prop} (hw : w ≤ 9) (hm : m ≤ 8) (ho : o ≤ 20) (h4 : o = 20 ∨ m = 0) (h2 : I 29 2 = nI o) (k : Q 0 (mSet I 28 8 4) J) : wp S (d + 1) 42 26 [some (.ref 29), some (.int p1), some (.int p2), some (.int (nI (9 - m))), none, none, none] [.int (nI w)] (wv x I J) (rI x Q) := by
  have f : wcI S d 75 [.ref 28, .int (4 : Int32)] x I J (fun r2 I2 J2 => (r2 = 0 ∨ r2 = 1) ∧ Q r2 I2 J2) := failS ⟨Or.inl rfl, k⟩
  refine v42_29_26 ⟨fun q => absurd q (nI_m1 hw), fun _ => ⟨fun z => ⟨fun _ => f, fun y => ?_⟩, fun _ => f⟩⟩
  rcases h4 with e | e
  · subst e
    rw [h2] at z
    exact absurd z (nI_nlt (a := 20) (b := 20) (by omega) (by omega))
  · subst e
    exact absurd (nI_lt (a := 8) (b := 9) (by omega) (by omega)) y
theorem rFour {l1 l2 : Int32} {m o : Nat} {C P : List Int32} {Q : Int32 → rI0 → rJ0 → Prop} (h : RS b n lim p o C P I J) (hP : P.length ≤ 30) (h8 : opn P + m = 8) (h4 : o = 20 ∨ m = 0) (k : Q 0 (bdI I 4) J) : wp S (d + 5) 179 36 [some (.ref 43), some (.int l1), some (.int l2)] [] (wv x I J) (rI x Q) := by
  refine v179_43_36 ⟨fun _ => badR ⟨Or.inl rfl, k⟩, fun z => opnR h hP ⟨fun _ => badR ⟨Or.inl rfl, k⟩, fun y => ?_⟩⟩
  rcases h4 with e | e
  · subst e
    exact absurd h.2.1 z
  · subst e
    exact absurd (by rw [show opn P = 8 by omega]; rfl) y
theorem cGo {w m o first j : Nat} {Q : Int32 → rI0 → rJ0 → Prop} (hw : w ≤ 9) (hm : m ≤ 7) (ho : o < 20) (h : Tck b n lim p I) (h8 : I 28 8 = 0) (h2 : I 29 2 = nI o)
    (k : ∀ I3, cFr first o I I3 → Tck b n lim (uE b n lim p) I3 → I3 28 8 = 0 → I3 29 2 = nI (o + 1) →
      (w = 9 → wcI S (d + 8) 41 [.ref 29, .int (nI first), .int (nI (9 - m))] x I3 J (fun r4 I4 J4 => (r4 = 0 → Q 0 I4 J4) ∧ (¬ r4 = 0 → wcI S (d + 8) 78 [.ref 28, .int (41 : Int32)] x I4 J4 (fun r5 I5 J5 => (r5 = 0 → Q 0 I5 J5) ∧ (¬ r5 = 0 → wp S (d + 9) 42 188 [some (.ref 29), some (.int (nI first)), some (.int (nI j)), some (.int (nI (9 - (m + 1)))), some (.int (nI w)), some (.int (nI o)), some (.int ((nI j <<< ((18 : Int32) &&& 31)) ||| (nI w <<< ((14 : Int32) &&& 31))))] [] (wv x I5 J5) (rI x Q))))))
      ∧ (w = 8 → wcI S (d + 8) 42 [.ref 29, .int (nI first), .int (nI 0), .int (nI (9 - m))] x I3 J (fun r6 I6 J6 => (r6 = 0 → Q 0 I6 J6) ∧ (¬ r6 = 0 → wp S (d + 9) 42 188 [some (.ref 29), some (.int (nI first)), some (.int (nI j)), some (.int (nI (9 - (m + 1)))), some (.int (nI w)), some (.int (nI o)), some (.int ((nI j <<< ((18 : Int32) &&& 31)) ||| (nI w <<< ((14 : Int32) &&& 31))))] [] (wv x I6 J6) (rI x Q))))
      ∧ (w < 8 → wcI S (d + 8) 43 [.ref 29, .int (if w < 6 then 1 else 0)] x I3 J (fun r7 I7 J7 => (r7 = 0 → Q 0 I7 J7) ∧ (¬ r7 = 0 → wp S (d + 9) 42 188 [some (.ref 29), some (.int (nI first)), some (.int (nI j)), some (.int (nI (9 - (m + 1)))), some (.int (nI w)), some (.int (nI o)), some (.int (((nI j <<< ((18 : Int32) &&& 31)) ||| (nI w <<< ((14 : Int32) &&& 31))) ||| I7 29 6))] [] (wv x I7 J7) (rI x Q))))) : wp S (d + 9) 42 26 [some (.ref 29), some (.int (nI first)), some (.int (nI j)), some (.int (nI (9 - (m + 1)))), none, none, none] [.int (nI w)] (wv x I J) (rI x Q) := by
  have ed : nI (9 - (m + 1)) + 1 = nI (9 - m) := by rw [← nI_succ, show 9 - (m + 1) + 1 = 9 - m by omega]
  refine v42_29_26 ⟨fun q => absurd q (nI_m1 hw), fun _ => ⟨fun _ => ⟨fun q => absurd q (nI_nlt (a := 8) (by omega) (by omega)), fun _ => readS h.2.1.s29 (fun I3 o3 t3 => ?_)⟩, fun q => absurd (by rw [h2]; exact nI_lt (b := 20) ho (by omega)) q⟩⟩
  have e2 : I3 29 2 = nI (o + 1) := by
    rw [o3.1 29 (by decide)]
    show I 29 2 + 1 = _
    rw [h2, nI_succ]
  have e8 : I3 28 8 = 0 := by
    rw [o3.2 8 (by omega), mSet_ne (by decide)]
    exact h8
  obtain ⟨k9, k8, k0⟩ := k I3 (cFr.s.tr (Nat.le_refl _) (cFr.o o3.1)) t3 e8 e2
  rw [h2, ed]
  refine ⟨fun q => k9 (nI_inj (by omega) (by omega) (c := 9) q), fun q9 => ⟨fun q => k8 (nI_inj (by omega) (by omega) (c := 8) q), fun q8 => ?_⟩⟩
  have w8 : w < 8 := by
    rcases (show w < 8 ∨ w = 8 ∨ w = 9 by omega) with e | e | e
    · exact e
    · subst e; exact absurd rfl q8
    · subst e; exact absurd rfl q9
  have k0 := k0 w8
  refine ⟨fun q => ?_, fun q => ?_⟩
  · have w6 : w < 6 := by
      rcases Nat.lt_or_ge w 6 with e | e
      · exact e
      · exact absurd q (nI_nlt (b := 6) e (by omega))
    rw [if_pos w6] at k0
    exact k0
  · have w6 : ¬ w < 6 := fun e => q (nI_lt (b := 6) e (by omega))
    rw [if_neg w6] at k0
    exact k0
theorem rGo {w m o : Nat} {l1 l2 : Int32} {C P : List Int32} {Q : Int32 → rI0 → rJ0 → Prop} (ho : o < 20) (h1 : w = 9 → l1 = 0 ∧ l2 < 0) (h2 : w = 8 → ¬ l1 = 0 ∧ l2 < 0) (h3 : w < 8 → l2 = nI w) (hw : w ≤ 9) (h : RS b n lim p o C P I J) (h8 : opn P + (m + 1) = 8) (hP : P.length ≤ 3 * opn P + 2) (hC : C.length + P.length ≤ 2 * o + 1) (k : ∀ I4 J4, pFr I J I4 J4 → RS b n lim (uE b n lim p) (o + 1) C P I4 J4 → (w = 9 → ∀ I5, pFr I4 J4 I5 J4 → RS b n lim (uE b n lim p) (o + 1) C (6 :: P) I5 J4 → wp S (d + 5) 179 0 [some (.ref 43), none, none] [] (wv x I5 J4) (rI x Q)) ∧ (w = 8 → ∀ I5, pFr I4 J4 I5 J4 → RS b n lim (uE b n lim p) (o + 1) C (3 :: P) I5 J4 → wp S (d + 5) 179 0 [some (.ref 43), none, none] [] (wv x I5 J4) (rI x Q)) ∧ (w < 8 → wcI S (d + 4) 180 [.ref 43, .int (nI w)] x I4 J4 (fun r5 I5 J5 => (r5 = 0 ∨ r5 = 1) ∧ Q r5 I5 J5))) : wp S (d + 5) 179 36 [some (.ref 43), some (.int l1), some (.int l2)] [] (wv x I J) (rI x Q) := by
  have hl : P.length ≤ 26 := by omega
  refine v179_43_36 ⟨fun q => ?_, fun _ => opnR h (by omega) ⟨fun q => ?_, fun _ => ?_⟩⟩
  · rw [h.2.1] at q
    exact absurd (nI_inj (by omega) (by omega) (c := 20) q) (by omega)
  · exact absurd (nI_inj (by omega) (by omega) (c := 8) q) (by omega)
  · have r0 : RS b n lim p (o + 1) C P (mSet I 43 28 (I 43 28 + 1)) J := ⟨h.1.cg (mSet_ne (by decide)) (fun k hk => mSet_x (by omega)), by show I 43 28 + 1 = _; rw [h.2.1, nI_succ], by rw [mSet_x (by omega)]; exact h.2.2.1, by rw [mSet_ne (by decide)]; exact h.2.2.2.1, by rw [mSet_x (by omega)]; exact h.2.2.2.2.1, by rw [mSet_ne (by decide)]; exact h.2.2.2.2.2⟩
    refine nextS r0.1.2.1 (fun I4 J4 f4 t4 => ?_)
    have r4 := r0.nx f4 t4
    obtain ⟨k9, k8, k0⟩ := k I4 J4 ((pFr.s (by omega)).tr (pFr.nx f4)) r4
    have e27 := r4.2.2.2.2.1
    have hin : ¬ mOut (I4 43 27) 30 := by rw [e27]; exact nI_in (by omega) (by omega)
    have z0 : (0 : Int32).toInt = 0 := by decide
    have np : w < 8 → ¬ l2 < 0 := fun q y => by
      rw [h3 q] at y
      exact absurd y (nI_nlt (b := 0) (by omega) (by omega))
    refine ⟨fun q => ⟨fun q1 => ⟨hin, ?_⟩, fun q1 => ⟨hin, ?_⟩⟩, fun q => ?_⟩
    · have w9 : w = 9 := by
        rcases (show w < 8 ∨ w = 8 ∨ w = 9 by omega) with e | e | e
        · exact absurd q (np e)
        · exact absurd q1 (h2 e).1
        · exact e
      rw [e27, nI_clamp (by omega)]
      exact k9 w9 _ ((pFr.t (by omega)).tr (pFr.s (by omega))) r4.ps
    · have w8 : w = 8 := by
        rcases (show w < 8 ∨ w = 8 ∨ w = 9 by omega) with e | e | e
        · exact absurd q (np e)
        · exact e
        · exact absurd (h1 e).1 q1
      rw [e27, nI_clamp (by omega)]
      exact k8 w8 _ ((pFr.t (by omega)).tr (pFr.s (by omega))) r4.ps
    · have w8 : w < 8 := by
        rcases (show w < 8 ∨ w = 8 ∨ w = 9 by omega) with e | e | e
        · exact e
        · exact absurd (h2 e).2 q
        · exact absurd (h1 e).2 q
      rw [h3 w8]
      exact k0 w8
theorem po1 : ∀ m, m ≤ 8 → ∀ p o, p ≤ n → o ≤ 20 → PO1 b n lim m p o := by
  intro m
  induction m with
  | zero =>
    intro _ p o hp ho
    by_cases hw : ∃ w, wAt b n lim p w
    · obtain ⟨w, hw⟩ := hw
      have w9 : w ≤ 9 := by
        rcases hw with ⟨-, e⟩ | ⟨-, e, -⟩ <;> omega
      refine ⟨4, p, o, [], fun _ => false, fun q => absurd q (by decide), ?_, ?_⟩
      · intro S d x I J first j Q hf hj h h8 h2 kf ks
        exact cOne (d := d + 1) hw h (cFour (m := 0) w9 (by omega) ho (Or.inr rfl) h2 (kf (by decide) _ (cFr.o (fun a ha => mSet_ne ha)) rfl h.2.2.2.1))
      · intro S d x I J C P Q h h8 hP hC kf ks
        exact rOne hw h.1 (fun l1 l2 _ _ _ => rFour h (by omega) h8 (Or.inr rfl) ⟨fun _ => kf (by decide) _ _ pFr.rf h.1.2.2.2.1, fun q => absurd rfl q⟩)
    · have h4 : ¬ uK b n lim p = 40 := fun q => hw ⟨9, Or.inl ⟨q, rfl⟩⟩
      have hn : ∀ w, w < 9 → ¬ uW b n lim p = TW2.getD w 0 := fun w h1 q => hw ⟨w, Or.inr ⟨h4, h1, q⟩⟩
      refine ⟨1, p, o, [], fun _ => false, fun q => absurd q (by decide), ?_, ?_⟩
      · intro S d x I J first j Q hf hj h h8 h2 kf ks
        exact cOne0 (d := d + 1) h4 hn h (kf (by decide) _ (cFr.o (fun a ha => mSet_ne ha)) rfl h.2.2.2.1)
      · intro S d x I J C P Q h h8 hP hC kf ks
        exact rOne0 h4 hn h.1 ⟨fun _ => kf (by decide) _ _ pFr.rf h.1.2.2.2.1, fun q => absurd rfl q⟩
  | succ m ih =>
    intro hm p o hp ho
    have eD : ∀ d, d + 2 * (m + 1) + 10 = (d + 2 * m + 3) + 9 := fun d => by omega
    by_cases hw : ∃ w, wAt b n lim p w
    · obtain ⟨w, hw⟩ := hw
      have w9 : w ≤ 9 := by
        rcases hw with ⟨-, e⟩ | ⟨-, e, -⟩ <;> omega
      have kn : ¬ uK b n lim p = 0 ∧ ¬ uK b n lim p = 1 := by
        rcases hw with ⟨e, -⟩ | ⟨-, e1, e2⟩
        · rw [e]; decide
        · have k2 : uK b n lim p = 2 := by
            by_cases z : uK b n lim p = 2
            · exact z
            · rw [uW_n z] at e2
              exact absurd e2 (tw2z w e1)
          rw [k2]; decide
      have pg := (uE_gt kn.1 kn.2).1
      have p1 := uE_le (b := b) (lim := lim) hp
      by_cases ho2 : o = 20
      · refine ⟨4, p, o, [], fun _ => false, fun q => absurd q (by decide), ?_, ?_⟩
        · intro S d x I J first j Q hf hj h h8 h2 kf ks
          rw [eD]
          exact cOne hw h (cFour (m := m + 1) w9 hm ho (Or.inl ho2) h2 (kf (by decide) _ (cFr.o (fun a ha => mSet_ne ha)) rfl h.2.2.2.1))
        · intro S d x I J C P Q h h8 hP hC kf ks
          exact rOne hw h.1 (fun l1 l2 _ _ _ => rFour h (by omega) h8 (Or.inl ho2) ⟨fun _ => kf (by decide) _ _ pFr.rf h.1.2.2.2.1, fun q => absurd rfl q⟩)
      · have ho3 : o < 20 := by omega
        rcases (show w = 9 ∨ w = 8 ∨ w < 8 by omega) with e | e | e
        · -- a group
          obtain ⟨f, p', o', s, V, g0, g1, g2⟩ := pj1 (by omega) (ih (by omega)) (o := o + 1) p1.2 (by omega)
          -- both up to the end of what is joined
          have cs : ∀ (S : Nat × (Nat → Int32)) (d : Nat) (x : mX) (I : rI0) (J : rJ0) (first j : Nat) (Q : Int32 → rI0 → rJ0 → Prop), first ≤ 220 → j ≤ 1 → Tck b n lim p I → I 28 8 = 0 → I 29 2 = nI o → (¬ f = 0 → ∀ I', cFr first o I I' → I' 28 8 = f → I' 28 4 = nI (uA b n lim p') → Q 0 I' J) → (f = 0 → ∀ I', cFr first o I I' → Tck b n lim p' I' → I' 28 8 = 0 → I' 29 2 = nI o' → lJ (lO (I' 22) m) (first + (o + 1)) (o' - (o + 1)) V → wcI S (d + 2 * m + 11) 78 [.ref 28, .int (41 : Int32)] x I' J (fun r5 I5 J5 => (r5 = 0 → Q 0 I5 J5) ∧ (¬ r5 = 0 → wp S (d + 2 * m + 3 + 9) 42 188 [some (.ref 29), some (.int (nI first)), some (.int (nI j)), some (.int (nI (9 - (m + 1)))), some (.int (nI w)), some (.int (nI o)), some (.int ((nI j <<< ((18 : Int32) &&& 31)) ||| (nI w <<< ((14 : Int32) &&& 31))))] [] (wv x I5 J5) (rI x Q)))) → wcI S (d + 2 * (m + 1) + 10) 42 [.ref 29, .int (nI first), .int (nI j), .int (nI (9 - (m + 1)))] x I J Q := by
            intro S d x I J first j Q hf hj h h8 h2 kf ks
            rw [eD]
            refine cOne hw h (cGo w9 (by omega) ho3 h h8 h2 (fun I3 c3 t3 e8 e2 => ⟨fun _ => ?_, fun q => absurd q (by omega), fun q => absurd q (by omega)⟩))
            refine g1 S d x I3 J first _ hf t3 e8 e2 (fun y I' c1 c2 c4 => ⟨fun _ => kf y I' (c3.tr (by omega) c1) c2 c4, fun q => absurd rfl q⟩) (fun y I' c1 c2 c4 c5 c6 => ⟨fun q => absurd q (by decide), fun _ => ks y I' (c3.tr (by omega) c1) c2 c4 c5 c6⟩)
          have rs : ∀ (S : Nat × (Nat → Int32)) (d : Nat) (x : mX) (I : rI0) (J : rJ0) (C P : List Int32) (Q : Int32 → rI0 → rJ0 → Prop), RS b n lim p o C P I J → opn P + (m + 1) = 8 → P.length ≤ 3 * opn P + 2 → C.length + P.length ≤ 2 * o + 1 → (¬ f = 0 → ∀ I' J', pFr I J I' J' → I' 43 10 = nI (uA b n lim p') → Q 0 (bdI I' f) J') → (f = 0 → ∀ I' J', pFr I J I' J' → RS b n lim p' o' (s.2.2 ++ C) (aF s.2.1 ++ (oF s.1 ++ 6 :: P)) I' J' → wp S (d + 6) 177 9 [some (.ref 43), none] [] (wv x I' J') (rI x Q)) → wp S (d + 5) 179 0 [some (.ref 43), none, none] [] (wv x I J) (rI x (fun r I1 J1 => (r = 0 → Q 0 I1 J1) ∧ (¬ r = 0 → wp S (d + 6) 177 9 [some (.ref 43), none] [] (wv x I1 J1) (rI x Q)))) := by
            intro S d x I J C P Q h h8 hP hC kf ks
            refine rOne hw h.1 (fun l1 l2 b1 b2 b3 => rGo ho3 b1 b2 b3 w9 h h8 hP hC (fun I4 J4 f4 r4 => ⟨fun _ I5 f5 r5 => ?_, fun q => absurd q (by omega), fun q => absurd q (by omega)⟩))
            have eo : opn ((6 : Int32) :: P) = opn P + 1 := rfl
            have el : ((6 : Int32) :: P).length = P.length + 1 := rfl
            exact g2 S d x I5 J4 C (6 :: P) Q r5 (by omega) (by omega) (by omega) (Or.inr ⟨P, rfl⟩) (fun y I' J' c1 c2 => kf y I' J' (f4.tr (f5.tr c1)) c2) (fun y I' J' c1 c2 => ks y I' J' (f4.tr (f5.tr c1)) c2)
          by_cases z : f = 0
          · obtain ⟨a1, a2, a3, a4, a5, a6, a7, a8⟩ := g0 z
            by_cases y : uK b n lim p' = 41
            · have p2 := uE_le (b := b) (lim := lim) a4
              refine ⟨0, uE b n lim p', o', eF s, V, fun _ => ⟨by omega, a2, by omega, p2.2, a5, by omega⟩, ?_, ?_⟩
              · intro S d x I J first j Q hf hj h h8 h2 kf ks
                refine cs S d x I J first j Q hf hj h h8 h2 (fun q => absurd z q) (fun _ I4 c1 c2 c3 c4 c5 => passS c2 c3 (fun q => absurd y q) (fun _ I5 o5 _ e8 t5 => ⟨fun q => absurd q (by decide), fun _ => ?_⟩))
                have e2 : I5 29 2 = nI o' := by rw [o5 29 (by decide)]; exact c4
                refine v42_29_188 ⟨by rw [nI_add]; exact nI_in (by omega) (by omega), ?_⟩
                rw [e2, pk_sub (by omega), e, tw_0 (by omega) hj (by omega), nI_add, nI_clamp (by omega)]
                have cf : cFr first o I5 (mSet I5 22 (first + o) (nI (pz (o' - o) j 9 0 0 0))) := cFr.w ho3
                refine ks rfl _ ((c1.tr (Nat.le_refl _) (cFr.o o5)).tr (Nat.le_refl _) cf) (t5.o (mSet_ne (by decide)) (mSet_ne (by decide))) (by rw [mSet_ne (by decide)]; exact e8) (by rw [mSet_ne (by decide)]; exact e2) (Or.inr (Or.inr ⟨by omega, ?_, ?_⟩))
                · unfold mSet va_up
                  rw [if_pos rfl, if_pos rfl]
                · rw [show first + o + 1 = first + (o + 1) by omega, show o' - o - 1 = o' - (o + 1) by omega]
                  refine lJ_cg (fun t h1 h2 => ?_) c5
                  rw [mSet_x (by omega), o5 22 (by decide)]
              · intro S d x I J C P Q h h8 hP hC kf ks
                refine rs S d x I J C P Q h h8 hP hC (fun q => absurd z q) (fun _ I1 J1 f1 r1 => closeR r1 y (by omega) (by omega) (fun I' J' f2 r2 => ks rfl I' J' (f1.tr f2) r2))
            · refine ⟨1, p', o', [], V, fun q => absurd q (by decide), ?_, ?_⟩
              · intro S d x I J first j Q hf hj h h8 h2 kf ks
                exact cs S d x I J first j Q hf hj h h8 h2 (fun q => absurd z q) (fun _ I4 c1 c2 c3 c4 c5 => passS c2 c3 (fun _ => ⟨fun _ => kf (by decide) _ (c1.tr (Nat.le_refl _) (cFr.o (fun a ha => mSet_ne ha))) rfl c2.2.2.2.1, fun q => absurd rfl q⟩) (fun q => absurd q y))
              · intro S d x I J C P Q h h8 hP hC kf ks
                have el : ((6 : Int32) :: P).length = P.length + 1 := rfl
                exact rs S d x I J C P Q h h8 hP hC (fun q => absurd z q) (fun _ I1 J1 f1 r1 => shutR r1 y a7 a8 (by omega) List.mem_cons_self (kf (by decide) _ _ f1 r1.1.2.2.2.1))
          · refine ⟨f, p', o', [], V, fun q => absurd q z, ?_, ?_⟩
            · intro S d x I J first j Q hf hj h h8 h2 kf ks
              exact cs S d x I J first j Q hf hj h h8 h2 kf (fun q => absurd q z)
            · intro S d x I J C P Q h h8 hP hC kf ks
              exact rs S d x I J C P Q h h8 hP hC kf (fun q => absurd q z)
        · -- not
          obtain ⟨f, p', o', R, V, g0, g1, g2⟩ := ih (by omega) (uE b n lim p) (o + 1) p1.2 (by omega)
          refine ⟨f, p', o', 3 :: R, fun at_ => !(V at_), fun z => ?_, ?_, ?_⟩
          · obtain ⟨a1, a2, a3, a4, a5, a6⟩ := g0 z
            exact ⟨by omega, a2, by omega, a4, rOk_not a5, by show R.length + 1 + 1 ≤ _; omega⟩
          · intro S d x I J first j Q hf hj h h8 h2 kf ks
            rw [eD]
            refine cOne hw h (cGo w9 (by omega) ho3 h h8 h2 (fun I3 c3 t3 e8 e2 => ⟨fun q => absurd q (by omega), fun _ => ?_, fun q => absurd q (by omega)⟩))
            have w := g1 S (d + 1) x I3 J first 0 (fun r6 I6 J6 => (r6 = 0 → Q 0 I6 J6) ∧ (¬ r6 = 0 → wp S (d + 2 * m + 3 + 9) 42 188 [some (.ref 29), some (.int (nI first)), some (.int (nI j)), some (.int (nI (9 - (m + 1)))), some (.int (nI w)), some (.int (nI o)), some (.int ((nI j <<< ((18 : Int32) &&& 31)) ||| (nI w <<< ((14 : Int32) &&& 31))))] [] (wv x I6 J6) (rI x Q))) hf (by omega) t3 e8 e2 (fun y I' c1 c2 c4 => ⟨fun _ => kf y I' (c3.tr (by omega) c1) c2 c4, fun q => absurd rfl q⟩) (fun y I' c1 c2 c4 c5 c6 => ⟨fun q => absurd q (by decide), fun _ => ?_⟩)
            · rw [show d + 1 + 2 * m + 10 = d + 2 * m + 3 + 8 by omega] at w
              exact w
            · obtain ⟨a1, a2, a3, a4, a5, a6⟩ := g0 y
              refine v42_29_188 ⟨by rw [nI_add]; exact nI_in (by omega) (by omega), ?_⟩
              rw [c5, pk_sub (by omega), e, tw_0 (by omega) hj (by omega), nI_add, nI_clamp (by omega)]
              have cf : cFr first o I' (mSet I' 22 (first + o) (nI (pz (o' - o) j 8 0 0 0))) := cFr.w ho3
              refine ks y _ ((c3.tr (by omega) c1).tr (Nat.le_refl _) cf) (c2.o (mSet_ne (by decide)) (mSet_ne (by decide))) (by rw [mSet_ne (by decide)]; exact c4) (by rw [mSet_ne (by decide)]; exact c5) (Or.inr (Or.inl ⟨V, by omega, ?_, ?_, rfl⟩))
              · unfold mSet va_up
                rw [if_pos rfl, if_pos rfl]
              · rw [show first + o + 1 = first + (o + 1) by omega, show o' - o - 1 = o' - (o + 1) by omega]
                refine lO_cg _ _ _ _ _ (fun t h1 h2 => ?_) c6
                rw [mSet_x (by omega)]
          · intro S d x I J C P Q h h8 hP hC kf ks
            refine rOne hw h.1 (fun l1 l2 b1 b2 b3 => rGo ho3 b1 b2 b3 w9 h h8 hP hC (fun I4 J4 f4 r4 => ⟨fun q => absurd q (by omega), fun _ I5 f5 r5 => ?_, fun q => absurd q (by omega)⟩))
            have eo : opn ((3 : Int32) :: P) = opn P + 1 := rfl
            have el : ((3 : Int32) :: P).length = P.length + 1 := rfl
            refine g2 S d x I5 J4 C (3 :: P) Q r5 (by omega) (by omega) (by omega) (fun y I' J' c1 c2 => kf y I' J' (f4.tr (f5.tr c1)) c2) (fun y I' J' c1 c2 => ks y I' J' (f4.tr (f5.tr c1)) ?_)
            have e1 : wdC 3 ((3 : Int32) :: P) = wdC 3 P ++ [3] := rfl
            have e2 : wdP 3 ((3 : Int32) :: P) = wdP 3 P := rfl
            rw [e1, e2, List.append_assoc] at c2
            exact c2
        · -- a comparison
          obtain ⟨f, p', lev, sg, num, g0, g1, g2⟩ := atomE (b := b) (lim := lim) (a := w) e p1.2
          refine ⟨f, p', o + 1, [nI (rWd w lev sg num)], fun at_ => at_ w lev sg num, fun z => ?_, ?_, ?_⟩
          · obtain ⟨a1, a2, a3, a4, a5⟩ := g0 z
            exact ⟨by omega, by omega, by omega, a5, rOk_at e a1 a2 a3, by show 1 + 1 ≤ _; omega⟩
          · intro S d x I J first j Q hf hj h h8 h2 kf ks
            rw [eD]
            refine cOne hw h (cGo w9 (by omega) ho3 h h8 h2 (fun I3 c3 t3 e8 e2 => ⟨fun q => absurd q (by omega), fun q => absurd q (by omega), fun _ => ?_⟩))
            refine g1 S (d + 2 * m + 9) x I3 J _ t3 e8 (fun y I' c1 c2 c4 => ⟨fun _ => kf y I' (c3.tr (Nat.le_refl _) (cFr.c c1)) c2 c4, fun q => absurd rfl q⟩) (fun y I' c1 c2 c4 c5 => ⟨fun q => absurd q (by decide), fun _ => ?_⟩)
            obtain ⟨a1, a2, a3, a4, a5⟩ := g0 y
            have e29 : I' 29 2 = nI (o + 1) := by rw [c1.2 2 (by decide)]; exact e2
            refine v42_29_188 ⟨by rw [nI_add]; exact nI_in (by omega) (by omega), ?_⟩
            rw [e29, pk_sub (by omega), c5, tw_n (by omega) hj (by omega) (by omega), nI_add, nI_clamp (by omega)]
            have cf : cFr first o I' (mSet I' 22 (first + o) (nI ((o + 1 - o) * 524288 + (j * 262144 + w * 16384 + (lev * 4096 + sg * 1024 + num))))) := cFr.w ho3
            refine ks y _ ((c3.tr (Nat.le_refl _) (cFr.c c1)).tr (Nat.le_refl _) cf) (c2.o (mSet_ne (by decide)) (mSet_ne (by decide))) (by rw [mSet_ne (by decide)]; exact c4) (by rw [mSet_ne (by decide)]; exact e29) (Or.inl ⟨by omega, w, lev, sg, num, e, a1, a2, a3, ?_, rfl⟩)
            unfold mSet va_up
            rw [if_pos rfl, if_pos rfl, show o + 1 - o = 1 by omega]
            rfl
          · intro S d x I J C P Q h h8 hP hC kf ks
            refine rOne hw h.1 (fun l1 l2 b1 b2 b3 => rGo ho3 b1 b2 b3 w9 h h8 hP hC (fun I4 J4 f4 r4 => ⟨fun q => absurd q (by omega), fun q => absurd q (by omega), fun _ => ?_⟩))
            refine g2 S (d + 1) x I4 J4 (o + 1) C P _ r4 (by omega) (by omega) (fun y I' J' c1 c2 => ⟨Or.inl rfl, fun _ => kf y I' J' (f4.tr c1) c2, fun q => absurd rfl q⟩) (fun y I' J' c1 c2 => ⟨Or.inr rfl, fun q => absurd q (by decide), fun _ => ks y I' J' (f4.tr c1) c2⟩)
    · have h4 : ¬ uK b n lim p = 40 := fun q => hw ⟨9, Or.inl ⟨q, rfl⟩⟩
      have hn : ∀ w, w < 9 → ¬ uW b n lim p = TW2.getD w 0 := fun w h1 q => hw ⟨w, Or.inr ⟨h4, h1, q⟩⟩
      refine ⟨1, p, o, [], fun _ => false, fun q => absurd q (by decide), ?_, ?_⟩
      · intro S d x I J first j Q hf hj h h8 h2 kf ks
        rw [eD]
        exact cOne0 h4 hn h (kf (by decide) _ (cFr.o (fun a ha => mSet_ne ha)) rfl h.2.2.2.1)
      · intro S d x I J C P Q h h8 hP hC kf ks
        exact rOne0 h4 hn h.1 ⟨fun _ => kf (by decide) _ _ pFr.rf h.1.2.2.2.1, fun q => absurd rfl q⟩
end PD0
