section PB0
variable {S : Nat × (Nat → Int32)} {d : Nat} {x : mX} {I : rI0} {J : rJ0} {b : Nat → Int32} {n lim p : Nat}
theorem sF_len {j : Nat} {W : lV} {R : List Int32} {s : Bool × Bool × List Int32} : (eF (if j = 0 then (s.1, true, R ++ (aF s.2.1 ++ s.2.2)) else (true, false, R ++ (oF s.1 ++ (aF s.2.1 ++ s.2.2))))).length = (eF s).length + R.length + 1 := by
  split
  · show ([5] |> fun _ => (oF s.1 ++ ([4] ++ (R ++ (aF s.2.1 ++ s.2.2)))).length) = (oF s.1 ++ (aF s.2.1 ++ s.2.2)).length + R.length + 1
    simp only [List.length_append, List.length_cons, List.length_nil]
    omega
  · show ([5] ++ ([] ++ (R ++ (oF s.1 ++ (aF s.2.1 ++ s.2.2))))).length = (oF s.1 ++ (aF s.2.1 ++ s.2.2)).length + R.length + 1
    simp only [List.length_append, List.length_cons, List.length_nil]
    omega
theorem sF_cons {j : Nat} {W : lV} {R : List Int32} {l : lS} {s : Bool × Bool × List Int32} : sF ((j, W, R) :: l) s = sF l (if j = 0 then (s.1, true, R ++ (aF s.2.1 ++ s.2.2)) else (true, false, R ++ (oF s.1 ++ (aF s.2.1 ++ s.2.2)))) := by
  show (if j = 0 then sF l (s.1, true, R ++ (aF s.2.1 ++ s.2.2)) else sF l (true, false, R ++ (oF s.1 ++ (aF s.2.1 ++ s.2.2)))) = _
  split <;> rfl
/-- the join at p, to the head of the next ONE -/
theorem joinR {m o j : Nat} {C B : List Int32} {s : Bool × Bool × List Int32} {Q : Int32 → rI0 → rJ0 → Prop} (hj : (j = 0 ∧ uW b n lim p = 6385252) ∨ (j = 1 ∧ uW b n lim p = 28530)) (ho : o ≤ 20) (h : RS b n lim p o (s.2.2 ++ C) (aF s.2.1 ++ (oF s.1 ++ B)) I J) (hm : opn B + m = 8) (hB : B.length ≤ 3 * opn B) (hC : (eF s).length + C.length + B.length ≤ 2 * o) (h6 : B = [] ∨ ∃ P, B = 6 :: P) (k : ∀ I' J' C1 P1, pFr I J I' J' → RS b n lim (uE b n lim p) o C1 P1 I' J' → opn P1 + m = 8 → P1.length ≤ 3 * opn P1 + 2 → C1.length + P1.length ≤ 2 * o + 1 → (∀ R : List Int32, wdC 3 P1 ++ (R ++ C1) = (if j = 0 then (s.1, true, R ++ (aF s.2.1 ++ s.2.2)) else (true, false, R ++ (oF s.1 ++ (aF s.2.1 ++ s.2.2)))).2.2 ++ C ∧ wdP 3 P1 = aF (if j = 0 then (s.1, true, R ++ (aF s.2.1 ++ s.2.2)) else (true, false, R ++ (oF s.1 ++ (aF s.2.1 ++ s.2.2)))).2.1 ++ (oF (if j = 0 then (s.1, true, R ++ (aF s.2.1 ++ s.2.2)) else (true, false, R ++ (oF s.1 ++ (aF s.2.1 ++ s.2.2)))).1 ++ B)) → wp S (d + 5) 179 0 [some (.ref 43), none, none] [] (wv x I' J') (rI x (fun r I1 J1 => (r = 0 → Q 0 I1 J1) ∧ (¬ r = 0 → wp S (d + 6) 177 9 [some (.ref 43), none] [] (wv x I1 J1) (rI x Q))))) : wp S (d + 6) 177 9 [some (.ref 43), none] [] (wv x I J) (rI x Q) := by
  have k2 : uK b n lim p = 2 := by
    by_cases z : uK b n lim p = 2
    · exact z
    · rw [uW_n z] at hj
      rcases hj with ⟨-, q⟩ | ⟨-, q⟩ <;> exact absurd q (by decide)
  have hl := eF_len (s := s) (C := C) (B := B)
  have hop : opn (aF s.2.1 ++ (oF s.1 ++ B)) = opn B := opn_s
  have la := af_len (a := s.2.1)
  have lo := of_len (o := s.1)
  have lP : (aF s.2.1 ++ (oF s.1 ++ B)).length = (aF s.2.1).length + ((oF s.1).length + B.length) := by rw [List.length_append, List.length_append]
  refine v177_43_9 (signR (by decide) h.1 (fun q => absurd (k2.symm.trans q) (by decide)) (fun _ => ⟨fun _ => ?_, fun q => absurd rfl q⟩))
  rcases hj with ⟨rfl, hw⟩ | ⟨rfl, hw⟩
  · refine v177_43_52 (wordR (by decide) h.1 (fun _ => ⟨fun q => absurd q (by decide), fun _ => ⟨fun q => absurd q (by decide), fun _ => ?_⟩⟩) (fun q => absurd hw q))
    refine v177_43_104 (downR (l := 2) (by omega) _ _ I h (by omega) (by omega) (fun I1 f1 r1 => ⟨fun q => absurd q (by decide), fun _ => ?_⟩))
    rw [(wd2 h6).1, (wd2 h6).2] at r1
    have e27 := r1.2.2.2.2.1
    have lB : (oF s.1 ++ B).length = (oF s.1).length + B.length := List.length_append
    refine ⟨by rw [e27]; exact nI_in (by omega) (by omega), ?_⟩
    rw [e27, nI_clamp (by omega)]
    have r2 := r1.ps (v := 4)
    refine nextS r2.1.2.1 (fun I2 J2 f2 t2 => v177_43_0 ?_)
    refine k I2 J2 _ _ (f1.tr (((pFr.t (by omega)).tr (pFr.s (by omega))).tr (pFr.nx f2))) (r2.nx f2 t2) ?_ ?_ ?_ (fun R => ⟨?_, ?_⟩)
    · show opn (aF true ++ (oF s.1 ++ B)) + m = 8
      rw [opn_s]
      exact hm
    · show (oF s.1 ++ B).length + 1 ≤ 3 * opn (aF true ++ (oF s.1 ++ B)) + 2
      rw [opn_s]
      omega
    · show (aF s.2.1 ++ (s.2.2 ++ C)).length + ((oF s.1 ++ B).length + 1) ≤ 2 * o + 1
      rw [List.length_append]
      omega
    · show [] ++ (R ++ (aF s.2.1 ++ (s.2.2 ++ C))) = (R ++ (aF s.2.1 ++ s.2.2)) ++ C
      simp only [List.nil_append, List.append_assoc]
    · rfl
  · refine v177_43_52 (wordR (by decide) h.1 (fun q => absurd (hw.symm.trans q) (by decide)) (fun _ => ⟨fun _ => wordR (by decide) h.1 (fun _ => ⟨fun q => absurd q (by decide), fun _ => ⟨fun _ => ?_, fun q => absurd rfl q⟩⟩) (fun q => absurd hw q), fun q => absurd rfl q⟩))
    refine v177_43_104 (downR (l := 1) (by omega) _ _ I h (by omega) (by omega) (fun I1 f1 r1 => ⟨fun _ => ?_, fun q => absurd rfl q⟩))
    rw [(wd1 h6).1, (wd1 h6).2] at r1
    have e27 := r1.2.2.2.2.1
    refine ⟨by rw [e27]; exact nI_in (by omega) (by omega), ?_⟩
    rw [e27, nI_clamp (by omega)]
    have r2 := r1.ps (v := 5)
    refine nextS r2.1.2.1 (fun I2 J2 f2 t2 => v177_43_0 ?_)
    refine k I2 J2 _ _ (f1.tr (((pFr.t (by omega)).tr (pFr.s (by omega))).tr (pFr.nx f2))) (r2.nx f2 t2) ?_ ?_ ?_ (fun R => ⟨?_, ?_⟩)
    · show opn (aF false ++ (oF true ++ B)) + m = 8
      rw [opn_s]
      exact hm
    · show B.length + 1 ≤ 3 * opn (aF false ++ (oF true ++ B)) + 2
      rw [opn_s]
      omega
    · show ((oF s.1 ++ aF s.2.1) ++ (s.2.2 ++ C)).length + (B.length + 1) ≤ 2 * o + 1
      rw [List.length_append, List.length_append]
      omega
    · show [] ++ (R ++ ((oF s.1 ++ aF s.2.1) ++ (s.2.2 ++ C))) = (R ++ (oF s.1 ++ (aF s.2.1 ++ s.2.2))) ++ C
      simp only [List.nil_append, List.append_assoc]
    · rfl
theorem pl1 {m : Nat} (hm : m ≤ 8) (hG : ∀ p o, p ≤ n → o ≤ 20 → PO1 b n lim m p o) : ∀ c p o, p ≤ n → o ≤ 20 → 21 ≤ o + c → c ≤ 20 → ∃ f p' o' l, (f = 0 → o ≤ o' ∧ o' ≤ 20 ∧ p ≤ p' ∧ p' ≤ n ∧ (∀ q ∈ l, rOk q.2.2 q.2.1 ∧ q.1 ≤ 1) ∧ (∀ s, (eF (sF l s)).length + 2 * o ≤ (eF s).length + 2 * o') ∧ ¬ uW b n lim p' = 6385252 ∧ ¬ uW b n lim p' = 28530) ∧ CLp b n lim m c p o f p' o' l ∧ RLp b n lim m p o f p' o' l := by
  intro c
  induction c with
  | zero => intro p o _ h1 h2 _; omega
  | succ c ih =>
    intro p o hp ho hoc hc
    by_cases hj : ∃ j, (j = 0 ∧ uW b n lim p = 6385252) ∨ (j = 1 ∧ uW b n lim p = 28530)
    · obtain ⟨j, hj⟩ := hj
      have hj1 : j ≤ 1 := by omega
      have p1 := uE_le (b := b) (lim := lim) hp
      obtain ⟨f, p', o', R, V, g0, g1, g2⟩ := hG (uE b n lim p) o p1.2 ho
      -- the class's step
      have cs : ∀ (S : Nat × (Nat → Int32)) (d : Nat) (x : mX) (I : rI0) (J : rJ0) (first : Nat) (Q : Int32 → rI0 → rJ0 → Prop), first ≤ 220 → Tck b n lim p I → I 28 8 = 0 → I 29 2 = nI o → (¬ f = 0 → ∀ I', cFr first o I I' → I' 28 8 = f → I' 28 4 = nI (uA b n lim p') → Q 0 I' J) → (f = 0 → ∀ I', cFr first o I I' → Tck b n lim p' I' → I' 28 8 = 0 → I' 29 2 = nI o' → lO (I' 22) m (first + o) (o' - o) j V → wp S (d + 2 * m + 11) 41 14 [some (.ref 29), some (.int (nI first)), some (.int (nI (9 - m))), some (.int (nI (20 - c))), none] [] (wv x I' J) (rI x Q)) → wp S (d + 2 * m + 11) 41 14 [some (.ref 29), some (.int (nI first)), some (.int (nI (9 - m))), some (.int (nI (20 - (c + 1)))), none] [] (wv x I J) (rI x Q) := by
        intro S d x I J first Q hf h h8 h2 kf ks
        have one : ∀ I1, (∀ a, a ≠ 28 → I1 a = I a) → I1 28 8 = 0 → Tck b n lim (uE b n lim p) I1 → wcI S (d + 2 * m + 10) 42 [.ref 29, .int (nI first), .int (nI j), .int (nI (9 - m))] x I1 J (fun r3 I3 J3 => (r3 = 0 → Q 0 I3 J3) ∧ (¬ r3 = 0 → wp S (d + 2 * m + 11) 41 14 [some (.ref 29), some (.int (nI first)), some (.int (nI (9 - m))), some (.int (nI (20 - (c + 1)) + 1)), none] [] (wv x I3 J3) (rI x Q))) := by
          intro I1 o1 e8 t1
          refine g1 S d x I1 J first j _ hf hj1 t1 e8 (by rw [o1 29 (by decide)]; exact h2) (fun z I' c1 c2 c3 => ⟨fun _ => kf z I' ((cFr.o o1).tr (Nat.le_refl _) c1) c2 c3, fun q => absurd rfl q⟩) (fun z I' c1 c2 c3 c4 c5 => ⟨fun q => absurd q (by decide), fun _ => ?_⟩)
          rw [← nI_succ, show 20 - (c + 1) + 1 = 20 - c by omega]
          exact ks z I' ((cFr.o o1).tr (Nat.le_refl _) c1) c2 c3 c4 c5
        refine v41_29_14 ⟨fun _ => ?_, fun q => absurd (nI_lt (b := 20) (by omega) (by omega)) q⟩
        rcases hj with ⟨e, hw⟩ | ⟨e, hw⟩
        · subst e
          exact amongS_3 h (fun _ => ⟨fun q => absurd q (by decide), fun _ => readS h.2.1 (fun I1 o1 t1 => one I1 o1.1 ((o1.2 8 (by omega)).trans h8) t1)⟩) (fun q => absurd (hw.symm.trans q) (by decide)) (fun q => absurd hw q)
        · subst e
          exact amongS_3 h (fun q => absurd (hw.symm.trans q) (by decide)) (fun _ => ⟨fun q => absurd q (by decide), fun _ => readS h.2.1 (fun I1 o1 t1 => one I1 o1.1 ((o1.2 8 (by omega)).trans h8) t1)⟩) (fun _ q => absurd hw q)
      by_cases z : f = 0
      · obtain ⟨a1, a2, a3, a4, a5, a6⟩ := g0 z
        obtain ⟨f2, p2, o2, l, q0, q1, q2⟩ := ih p' o' a4 a2 (by omega) (by omega)
        refine ⟨f2, p2, o2, (j, V, R) :: l, fun y => ?_, ?_, ?_⟩
        · obtain ⟨b1, b2, b3, b4, b5, b6, b7⟩ := q0 y
          refine ⟨by omega, b2, by omega, b4, fun q hq => ?_, fun s => ?_, b7⟩
          · rcases List.mem_cons.mp hq with w | w
            · subst w; exact ⟨a5, hj1⟩
            · exact b5 q w
          · rw [sF_cons]
            have w := b6 (if j = 0 then (s.1, true, R ++ (aF s.2.1 ++ s.2.2)) else (true, false, R ++ (oF s.1 ++ (aF s.2.1 ++ s.2.2))))
            rw [sF_len (W := V)] at w
            omega
        · intro S d x I J first Q hf h h8 h2 kf ks
          refine cs S d x I J first Q hf h h8 h2 (fun y => absurd z y) (fun _ I1 c1 c2 c3 c4 c5 => ?_)
          refine q1 S d x I1 J first Q hf c2 c3 c4 (fun y I' e1 e2 e3 => kf y I' (c1.tr (by omega) e1) e2 e3) (fun y I' e1 e2 e3 e4 e5 => ks y I' (c1.tr (by omega) e1) e2 e3 e4 (fun any all => ?_))
          refine Or.inr ⟨o' - o, j, V, by omega, lO_cg _ _ _ _ _ (fun t h1 h2 => e1.2.2 t (by omega)) c5, ?_⟩
          rw [show first + o + (o' - o) = first + o' by omega]
          rcases (show j = 0 ∨ j = 1 by omega) with w | w
          · subst w
            exact Or.inl ⟨rfl, e5 _ _⟩
          · subst w
            exact Or.inr ⟨rfl, e5 _ _⟩
        · intro S d x I J C B s Q h hm8 hB hC h6 kf ks
          refine joinR (j := j) hj ho h hm8 hB hC h6 (fun I1 J1 C1 P1 f1 r1 n1 n2 n3 n4 => ?_)
          refine g2 S d x I1 J1 C1 P1 Q r1 n1 n2 n3 (fun y => absurd z y) (fun _ I2 J2 f2 r2 => ?_)
          rw [(n4 R).1, (n4 R).2] at r2
          have w := sF_len (j := j) (W := V) (R := R) (s := s)
          refine q2 S d x I2 J2 C B _ Q r2 hm8 hB (by omega) h6 (fun y I' J' e1 e2 => kf y I' J' (f1.tr (f2.tr e1)) e2) (fun y I' J' e1 e2 => ks y I' J' (f1.tr (f2.tr e1)) ?_)
          rw [sF_cons]
          exact e2
      · refine ⟨f, p', o', [], fun y => absurd y z, ?_, ?_⟩
        · intro S d x I J first Q hf h h8 h2 kf ks
          exact cs S d x I J first Q hf h h8 h2 kf (fun y => absurd y z)
        · intro S d x I J C B s Q h hm8 hB hC h6 kf ks
          refine joinR (j := j) hj ho h hm8 hB hC h6 (fun I1 J1 C1 P1 f1 r1 n1 n2 n3 n4 => ?_)
          exact g2 S d x I1 J1 C1 P1 Q r1 n1 n2 n3 (fun y I' J' e1 e2 => kf y I' J' (f1.tr e1) e2) (fun y => absurd y z)
    · have h1 : ¬ uW b n lim p = 6385252 := fun q => hj ⟨0, Or.inl ⟨rfl, q⟩⟩
      have h2 : ¬ uW b n lim p = 28530 := fun q => hj ⟨1, Or.inr ⟨rfl, q⟩⟩
      refine ⟨0, p, o, [], fun _ => ⟨Nat.le_refl _, ho, Nat.le_refl _, hp, fun q hq => absurd hq List.not_mem_nil, fun s => Nat.le_refl _, h1, h2⟩, ?_, ?_⟩
      · intro S d x I J first Q hf h h8 e2 kf ks
        refine v41_29_14 ⟨fun _ => amongS_3 h (fun q => absurd q h1) (fun q => absurd q h2) (fun _ _ => ⟨fun _ => ks rfl I cFr.rf h h8 e2 (fun any all => Or.inl ⟨rfl, rfl⟩), fun q => absurd rfl q⟩), fun q => absurd (nI_lt (b := 20) (by omega) (by omega)) q⟩
      · intro S d x I J C B s Q h hm8 hB hC h6 kf ks
        exact ks rfl I J pFr.rf h
end PB0
