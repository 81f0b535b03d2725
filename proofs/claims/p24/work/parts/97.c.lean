section PC0
variable {S : Nat × (Nat → Int32)} {d : Nat} {x : mX} {I : rI0} {J : rJ0} {b : Nat → Int32} {n lim p : Nat}
def CJ (b : Nat → Int32) (n lim : Nat) (m p o : Nat) (f : Int32) (p' o' : Nat) (V : lV) : Prop := ∀ (S : Nat × (Nat → Int32)) (d : Nat) (x : mX) (I : rI0) (J : rJ0) (first : Nat) (Q : Int32 → rI0 → rJ0 → Prop), first ≤ 220 → Tck b n lim p I → I 28 8 = 0 → I 29 2 = nI o → (¬ f = 0 → ∀ I', cFr first o I I' → I' 28 8 = f → I' 28 4 = nI (uA b n lim p') → Q 0 I' J) → (f = 0 → ∀ I', cFr first o I I' → Tck b n lim p' I' → I' 28 8 = 0 → I' 29 2 = nI o' → lJ (lO (I' 22) m) (first + o) (o' - o) V → Q 1 I' J) → wcI S (d + 2 * m + 11) 41 [.ref 29, .int (nI first), .int (nI (9 - m))] x I J Q
def RJ (b : Nat → Int32) (n lim : Nat) (m p o : Nat) (f : Int32) (p' o' : Nat) (s : Bool × Bool × List Int32) : Prop := ∀ (S : Nat × (Nat → Int32)) (d : Nat) (x : mX) (I : rI0) (J : rJ0) (C B : List Int32) (Q : Int32 → rI0 → rJ0 → Prop), RS b n lim p o C B I J → opn B + m = 8 → B.length ≤ 3 * opn B → C.length + B.length ≤ 2 * o + 1 → (B = [] ∨ ∃ P, B = 6 :: P) → (¬ f = 0 → ∀ I' J', pFr I J I' J' → I' 43 10 = nI (uA b n lim p') → Q 0 (bdI I' f) J') → (f = 0 → ∀ I' J', pFr I J I' J' → RS b n lim p' o' (s.2.2 ++ C) (aF s.2.1 ++ (oF s.1 ++ B)) I' J' → wp S (d + 6) 177 9 [some (.ref 43), none] [] (wv x I' J') (rI x Q)) → wp S (d + 5) 179 0 [some (.ref 43), none, none] [] (wv x I J) (rI x (fun r I1 J1 => (r = 0 → Q 0 I1 J1) ∧ (¬ r = 0 → wp S (d + 6) 177 9 [some (.ref 43), none] [] (wv x I1 J1) (rI x Q))))
theorem wd3 {B : List Int32} (hB : B = [] ∨ ∃ P, B = 6 :: P) : wdC 3 B = [] ∧ wdP 3 B = B := by
  rcases hB with h | ⟨P, h⟩ <;> subst h <;> exact ⟨rfl, rfl⟩
theorem pj1 {m : Nat} (hm : m ≤ 8) (hG : ∀ p o, p ≤ n → o ≤ 20 → PO1 b n lim m p o) {o : Nat} (hp : p ≤ n) (ho : o ≤ 20) : ∃ f p' o' s V, (f = 0 → o < o' ∧ o' ≤ 20 ∧ p < p' ∧ p' ≤ n ∧ rOk (eF s) V ∧ (eF s).length + 1 ≤ 2 * (o' - o) ∧ ¬ uW b n lim p' = 6385252 ∧ ¬ uW b n lim p' = 28530) ∧ CJ b n lim m p o f p' o' V ∧ RJ b n lim m p o f p' o' s := by
  obtain ⟨f, p', o', R, V, g0, g1, g2⟩ := hG p o hp ho
  by_cases z : f = 0
  · obtain ⟨a1, a2, a3, a4, a5, a6⟩ := g0 z
    obtain ⟨f2, p2, o2, l, q0, q1, q2⟩ := pl1 hm hG 20 p' o' a4 a2 (by omega) (by omega)
    refine ⟨f2, p2, o2, sF l (false, false, R), vF l (fun _ => false) V, fun y => ?_, ?_, ?_⟩
    · obtain ⟨b1, b2, b3, b4, b5, b6, b7⟩ := q0 y
      have w := b6 (false, false, R)
      have e : (eF (false, false, R)).length = R.length := rfl
      refine ⟨by omega, b2, by omega, b4, sOk_F l _ _ _ b5 (fun at_ dec hd st => ⟨fun _ => rfl, a5 at_ dec hd st⟩), by omega, b7⟩
    · intro S d x I J first Q hf h h8 h2 kf ks
      refine c41_29 (g1 S d x I J first 0 _ hf (by omega) h h8 h2 (fun y => absurd z y) (fun _ I1 c1 c2 c3 c4 c5 => ⟨fun q => absurd q (by decide), fun _ => ?_⟩))
      refine q1 S d x I1 J first Q hf c2 c3 c4 (fun y I' e1 e2 e3 => kf y I' (c1.tr (by omega) e1) e2 e3) (fun y I' e1 e2 e3 e4 e5 => ks y I' (c1.tr (by omega) e1) e2 e3 e4 ⟨o' - o, V, by omega, lO_cg _ _ _ _ _ (fun t h1 h2 => e1.2.2 t (by omega)) c5, ?_⟩)
      have b1 := (q0 y).1
      rw [show first + o + (o' - o) = first + o' by omega, show first + o + (o2 - o) = first + o2 by omega]
      exact e5 _ _
    · intro S d x I J C B Q h hm8 hB hC h6 kf ks
      refine g2 S d x I J C B Q h hm8 (by omega) (by omega) (fun y => absurd z y) (fun _ I1 J1 f1 r1 => ?_)
      rw [(wd3 h6).1, (wd3 h6).2] at r1
      have e : (eF (false, false, R)).length = R.length := rfl
      exact q2 S d x I1 J1 C B (false, false, R) Q r1 hm8 hB (by omega) h6 (fun y I' J' e1 e2 => kf y I' J' (f1.tr e1) e2) (fun y I' J' e1 e2 => ks y I' J' (f1.tr e1) e2)
  · refine ⟨f, p', o', (false, false, []), V, fun y => absurd y z, ?_, ?_⟩
    · intro S d x I J first Q hf h h8 h2 kf ks
      exact c41_29 (g1 S d x I J first 0 _ hf (by omega) h h8 h2 (fun y I' c1 c2 c3 => ⟨fun _ => kf y I' c1 c2 c3, fun q => absurd rfl q⟩) (fun y => absurd y z))
    · intro S d x I J C B Q h hm8 hB hC h6 kf ks
      exact g2 S d x I J C B Q h hm8 (by omega) (by omega) kf (fun y => absurd y z)
theorem closeR {o : Nat} {C P : List Int32} {s : Bool × Bool × List Int32} {Q : Int32 → rI0 → rJ0 → Prop} (h : RS b n lim p o (s.2.2 ++ C) (aF s.2.1 ++ (oF s.1 ++ 6 :: P)) I J) (hk : uK b n lim p = 41) (hP : P.length ≤ 26) (hC : (eF s).length + C.length + (P.length + 1) ≤ 41) (k : ∀ I' J', pFr I J I' J' → RS b n lim (uE b n lim p) o (wdC 3 P ++ (eF s ++ C)) (wdP 3 P) I' J' → wp S (d + 6) 177 9 [some (.ref 43), none] [] (wv x I' J') (rI x Q)) : wp S (d + 6) 177 9 [some (.ref 43), none] [] (wv x I J) (rI x Q) := by
  have h6 : (6 :: P) = [] ∨ ∃ P', (6 :: P) = 6 :: P' := Or.inr ⟨P, rfl⟩
  have hl := eF_len (s := s) (C := C) (B := 6 :: P)
  have la := af_len (a := s.2.1)
  have lo := of_len (o := s.1)
  have l6 : ((6 : Int32) :: P).length = P.length + 1 := rfl
  have lP : (aF s.2.1 ++ (oF s.1 ++ 6 :: P)).length = (aF s.2.1).length + ((oF s.1).length + (P.length + 1)) := by rw [List.length_append, List.length_append]; rfl
  refine v177_43_9 (signR (by decide) h.1 (fun _ => ⟨fun q => absurd q (by decide), fun _ => ?_⟩) (fun q => absurd hk q))
  refine isOpenR h (by omega) (fun _ => ⟨fun q => absurd q (by decide), fun _ => ?_⟩) (fun q => absurd (mem6.mpr List.mem_cons_self) q)
  refine downR (l := 1) (by omega) _ _ I h (by omega) (by omega) (fun I1 f1 r1 => ?_)
  rw [(wd1 h6).1, (wd1 h6).2] at r1
  have e27 : I1 43 27 - 1 = nI P.length := by
    rw [r1.2.2.2.2.1]
    exact nI_pr _
  rw [e27]
  have lc : ((oF s.1 ++ aF s.2.1) ++ (s.2.2 ++ C)).length = (eF s).length + C.length := by
    unfold eF
    simp only [List.length_append]
    omega
  refine downR (l := 3) (by omega) _ _ _ r1.pp (by omega) (by omega) (fun I2 f2 r2 => nextS r2.1.2.1 (fun I3 J3 f3 t3 => k I3 J3 (f1.tr ((pFr.s (by omega)).tr (f2.tr (pFr.nx f3)))) ?_))
  have r3 := r2.nx f3 t3
  have ec : (oF s.1 ++ aF s.2.1) ++ (s.2.2 ++ C) = eF s ++ C := by
    unfold eF
    simp only [List.append_assoc]
  rw [ec] at r3
  exact r3
theorem shutR {o : Nat} {C B : List Int32} {s : Bool × Bool × List Int32} {Q : Int32 → rI0 → rJ0 → Prop} (h : RS b n lim p o (s.2.2 ++ C) (aF s.2.1 ++ (oF s.1 ++ B)) I J) (hk : ¬ uK b n lim p = 41) (w1 : ¬ uW b n lim p = 6385252) (w2 : ¬ uW b n lim p = 28530) (hB : B.length ≤ 27) (h6 : (6 : Int32) ∈ B) (k : Q 0 (bdI I 1) J) : wp S (d + 6) 177 9 [some (.ref 43), none] [] (wv x I J) (rI x Q) := by
  have la := af_len (a := s.2.1)
  have lo := of_len (o := s.1)
  have lP : (aF s.2.1 ++ (oF s.1 ++ B)).length = (aF s.2.1).length + ((oF s.1).length + B.length) := by rw [List.length_append, List.length_append]
  exact v177_43_9 (signR (by decide) h.1 (fun q => absurd q hk) (fun _ => ⟨fun _ => v177_43_52 (wordR (by decide) h.1 (fun q => absurd q w1) (fun _ => ⟨fun _ => wordR (by decide) h.1 (fun q => absurd q w2) (fun _ => ⟨fun _ => isOpenR h (by omega) (fun _ => ⟨fun q => absurd q (by decide), fun _ => badR ⟨Or.inl rfl, k⟩⟩) (fun q => absurd (mem6.mpr h6) q), fun q => absurd rfl q⟩), fun q => absurd rfl q⟩)), fun q => absurd rfl q⟩))
/-- the end of a law's COND -/
theorem endR {o : Nat} {s : Bool × Bool × List Int32} {Q : Int32 → rI0 → rJ0 → Prop} (h : RS b n lim p o (s.2.2 ++ []) (aF s.2.1 ++ (oF s.1 ++ [])) I J) (w1 : ¬ uW b n lim p = 6385252) (w2 : ¬ uW b n lim p = 28530) (hC : (eF s).length ≤ 40) (k : ∀ I', pFr I J I' J → RS b n lim p o (eF s) [] I' J → Q 1 I' J) : wp S (d + 6) 177 9 [some (.ref 43), none] [] (wv x I J) (rI x Q) := by
  have hl := eF_len (s := s) (C := []) (B := [])
  have la := af_len (a := s.2.1)
  have lo := of_len (o := s.1)
  have l0 : ([] : List Int32).length = 0 := rfl
  have lP : (aF s.2.1 ++ (oF s.1 ++ [])).length = (aF s.2.1).length + ((oF s.1).length + 0) := by rw [List.length_append, List.length_append]; rfl
  have n6 : ¬ (6 : Int32) ∈ (aF s.2.1 ++ (oF s.1 ++ [])) := fun q => absurd (mem6.mp q) List.not_mem_nil
  have go : wp S (d + 6) 177 52 [some (.ref 43), none] [] (wv x I J) (rI x Q) := by
    refine v177_43_52 (wordR (by decide) h.1 (fun q => absurd q w1) (fun _ => ⟨fun _ => wordR (by decide) h.1 (fun q => absurd q w2) (fun _ => ⟨fun _ => isOpenR h (by omega) (fun q => absurd q n6) (fun _ => ⟨fun _ => ?_, fun q => absurd rfl q⟩), fun q => absurd rfl q⟩), fun q => absurd rfl q⟩))
    refine downR (l := 1) (by omega) _ _ I h (by omega) (by omega) (fun I1 f1 r1 => k I1 f1 ?_)
    rw [(wd1 (Or.inl rfl)).1, (wd1 (Or.inl rfl)).2] at r1
    have ec : (oF s.1 ++ aF s.2.1) ++ (s.2.2 ++ []) = eF s := by
      unfold eF
      simp only [List.append_assoc, List.append_nil]
    rw [ec] at r1
    exact r1
  exact v177_43_9 (signR (by decide) h.1 (fun _ => ⟨fun q => absurd q (by decide), fun _ => isOpenR h (by omega) (fun q => absurd q n6) (fun _ => ⟨fun _ => go, fun q => absurd rfl q⟩)⟩) (fun _ => ⟨fun _ => go, fun q => absurd rfl q⟩))
/-! what stands at p: w is 0 to 7 a comparison, 8 not, 9 a group -/
def wAt (b : Nat → Int32) (n lim p w : Nat) : Prop := (uK b n lim p = 40 ∧ w = 9) ∨ (¬ uK b n lim p = 40 ∧ w < 9 ∧ uW b n lim p = TW2.getD w 0)
theorem cOne {w : Nat} {p1 p2 p3 : Int32} {Q : Int32 → rI0 → rJ0 → Prop} (hw : wAt b n lim p w) (h : Tck b n lim p I) (k : wp S (d + 9) 42 26 [some (.ref 29), some (.int p1), some (.int p2), some (.int p3), none, none, none] [.int (nI w)] (wv x I J) (rI x Q)) : wcI S (d + 9) 42 [.ref 29, .int p1, .int p2, .int p3] x I J Q := by
  rcases hw with ⟨h1, rfl⟩ | ⟨h1, h2, h3⟩
  · exact c42_29 ⟨fun _ => k, fun q => absurd (h.2.2.1.trans h1) q⟩
  · refine c42_29 ⟨fun q => absurd (h.2.2.1.symm.trans q) h1, fun _ => amS_2 h (fun v hv y => ?_) (fun g => absurd h3 (g w h2))⟩
    have e := tw2_i v hv w h2 (y.symm.trans h3)
    subst e
    exact k
theorem cOne0 {p1 p2 p3 : Int32} {Q : Int32 → rI0 → rJ0 → Prop} (h4 : ¬ uK b n lim p = 40) (hw : ∀ w, w < 9 → ¬ uW b n lim p = TW2.getD w 0) (h : Tck b n lim p I) (k : Q 0 (mSet I 28 8 1) J) : wcI S (d + 9) 42 [.ref 29, .int p1, .int p2, .int p3] x I J Q :=
  c42_29 ⟨fun q => absurd (h.2.2.1.symm.trans q) h4, fun _ => amS_2 h (fun v hv y => absurd y (hw v hv)) (fun _ => v42_29_26 ⟨fun _ => failS ⟨Or.inl rfl, k⟩, fun q => absurd rfl q⟩)⟩
theorem rOne {w : Nat} {Q : Int32 → rI0 → rJ0 → Prop} (hw : wAt b n lim p w) (h : Nck b n lim p I J) (k : ∀ l1 l2 : Int32, (w = 9 → l1 = 0 ∧ l2 < 0) → (w = 8 → ¬ l1 = 0 ∧ l2 < 0) → (w < 8 → l2 = nI w) → wp S (d + 5) 179 36 [some (.ref 43), some (.int l1), some (.int l2)] [] (wv x I J) (rI x Q)) : wp S (d + 5) 179 0 [some (.ref 43), none, none] [] (wv x I J) (rI x Q) := by
  rcases hw with ⟨h1, rfl⟩ | ⟨h1, h2, h3⟩
  · have e0 : uW b n lim p = 0 := uW_n (by rw [h1]; decide)
    refine v179_43_0 (wordR (by decide) h (fun q => absurd (e0.symm.trans q) (by decide)) (fun _ => atomR h (fun v hv y => absurd (e0.symm.trans y) (tw2z v (by omega))) (fun _ => ⟨fun _ => ⟨fun _ => signR (by decide) h (fun _ => ⟨fun q => absurd q (by decide), fun _ => k 0 (-1) (fun _ => by decide) (fun q => absurd q (by decide)) (fun q => absurd q (by decide))⟩) (fun q => absurd h1 q), fun q => absurd (by decide) q⟩, fun q => absurd rfl q⟩)))
  · rcases (show w = 8 ∨ w < 8 by omega) with e | e
    · subst e
      refine v179_43_0 (wordR (by decide) h (fun _ => atomR h (fun v hv y => ?_) (fun _ => ⟨fun q => absurd q (by decide), fun _ => k 1 (-1) (fun q => absurd q (by decide)) (fun _ => by decide) (fun q => absurd q (by decide))⟩)) (fun q => absurd h3 q))
      have := tw2_i v (by omega) 8 (by omega) (y.symm.trans h3)
      omega
    · have n8 : ¬ uW b n lim p = 7237492 := fun q => by
        have : uW b n lim p = TW2.getD 8 0 := q
        have := tw2_i w (by omega) 8 (by omega) (h3.symm.trans this)
        omega
      refine v179_43_0 (wordR (by decide) h (fun q => absurd q n8) (fun _ => atomR h (fun v hv y => ?_) (fun g => absurd h3 (g w e))))
      have ev := tw2_i v (by omega) w h2 (y.symm.trans h3)
      subst ev
      exact ⟨fun _ => ⟨fun q => absurd q (nI_nlt (a := v) (b := 0) (by omega) (by omega)), fun _ => k 0 (nI v) (fun q => absurd q (by omega)) (fun q => absurd q (by omega)) (fun _ => rfl)⟩, fun q => absurd rfl q⟩
theorem rOne0 {Q : Int32 → rI0 → rJ0 → Prop} (h4 : ¬ uK b n lim p = 40) (hw : ∀ w, w < 9 → ¬ uW b n lim p = TW2.getD w 0) (h : Nck b n lim p I J) (k : Q 0 (bdI I 1) J) : wp S (d + 5) 179 0 [some (.ref 43), none, none] [] (wv x I J) (rI x Q) :=
  v179_43_0 (wordR (by decide) h (fun q => absurd q (hw 8 (by omega))) (fun _ => atomR h (fun v hv y => absurd y (hw v (by omega))) (fun _ => ⟨fun _ => ⟨fun _ => signR (by decide) h (fun q => absurd q h4) (fun _ => ⟨fun _ => badR ⟨Or.inl rfl, k⟩, fun q => absurd rfl q⟩), fun q => absurd (by decide) q⟩, fun q => absurd rfl q⟩)))
end PC0
