section
section CT
variable {S : Nat × (Nat → Int32)} {d : Nat} {x : mX} {I : rI0} {J : rJ0}
def O28 (I I' : rI0) : Prop := ∀ b, b ≠ 28 → I' b = I b
theorem O28.rf : O28 I I := fun _ _ => rfl
theorem O28.tr {I1 I2 : rI0} (h : O28 I I1) (h2 : O28 I1 I2) : O28 I I2 := fun b hb => (h2 b hb).trans (h b hb)
theorem O28.s {k : Nat} {v : Int32} : O28 I (mSet I 28 k v) := fun b hb => mSet_ne hb
/-- the tokens' four places -/
def TP (I : rI0) (ln ed st pl : Nat) : Prop := ln ≤ 940 ∧ ed ≤ ln ∧ st ≤ ln ∧ pl ≤ st ∧ I 28 1 = nI ln ∧ I 28 2 = nI ed ∧ I 28 5 = nI st ∧ I 28 4 = nI pl
abbrev K78 (I I' : rI0) : Prop := I' 28 8 = I 28 8 ∧ I' 28 7 = I 28 7
def TV (I : rI0) : Prop := ∃ ln ed st pl, TP I ln ed st pl
theorem read224 {ln ed st pl p q : Nat} {l3 : Int32} {Q : rI0 → rJ0 → Prop} (h : TP I ln ed st pl) (hpl : pl < ed) (hs : st = pl + p + q) (k : ∀ I', O28 I I' → TV I' → K78 I I' → Q I' J) : wp S d 70 224 [some (.ref 28), some (.int (nI p)), some (.int (nI q)), some (.int l3), none] [] (wv x I J) (rV x Q) := by
  obtain ⟨h1, h2, h3, h4, e1, e2, e5, e4⟩ := h
  have k1 : ∀ v, Q (mSet I 28 3 v) J := fun v => k _ O28.s ⟨ln, ed, st, pl, h1, h2, h3, h4, e1, e2, e5, e4⟩ ⟨rfl, rfl⟩
  have k2 : p + q = 0 → ∀ v, Q (mSet (mSet I 28 5 (I 28 5 + 1)) 28 3 v) J := fun z v => k _ (O28.s.tr O28.s) ⟨ln, ed, st + 1, pl, h1, h2, by omega, by omega, e1, e2, by show I 28 5 + 1 = _; rw [e5, nI_succ], e4⟩ ⟨rfl, rfl⟩
  have k3 : p + q = 0 → wp S d 70 270 [some (.ref 28), some (.int (nI p)), some (.int (nI q)), some (.int l3), none] [] (wv x (mSet I 28 5 (I 28 5 + 1)) J) (rV x Q) := fun z => v70_28_270 ⟨fun _ => k2 z _, fun _ => k2 z _⟩
  refine v70_28_224 ⟨fun z => ?_, fun _ => ⟨fun _ => ⟨fun _ => k1 _, fun _ => k1 _⟩, fun _ => ⟨fun _ => ⟨fun _ => k1 _, fun _ => k1 _⟩, fun _ => k1 _⟩⟩⟩
  have z : p + q = 0 := by
    rw [nI_add] at z
    rcases Nat.eq_zero_or_pos (p + q) with w | w
    · exact w
    · exact absurd z (nI_ne0 w (by omega))
  exact ⟨fun _ => k3 z, fun _ => ⟨fun _ => k3 z, fun _ => ⟨fun _ => k3 z, fun _ => ⟨fun _ => ⟨fun _ => k2 z _, fun _ => k2 z _⟩, fun _ => ⟨fun _ => ⟨fun _ => k2 z _, fun _ => k2 z _⟩, fun _ => k3 z⟩⟩⟩⟩⟩
theorem read119 {ln ed pl : Nat} {Q : rI0 → rJ0 → Prop} (hpl : pl < ed) : ∀ (m st p q : Nat) (l3 : Int32) (I : rI0), st + m = ln → TP I ln ed st pl → st = pl + p + q → (∀ I', O28 I I' → TV I' → K78 I I' → Q I' J) → wp S d 70 119 [some (.ref 28), some (.int (nI p)), some (.int (nI q)), some (.int l3), none] [] (wv x I J) (rV x Q) := by
  intro m
  induction m with
  | zero =>
    intro st p q l3 I hm h hs k
    exact v70_28_119 ⟨fun z => absurd z (by rw [h.2.2.2.2.1, h.2.2.2.2.2.2.1]; exact nI_nlt (by omega) (by have := h.1; omega)), fun _ => read224 h hpl hs k⟩
  | succ m ih =>
    intro st p q l3 I hm h hs k
    have hln := h.1
    have e1 := h.2.2.2.2.1
    have e5 := h.2.2.2.2.2.2.1
    have f := read224 (S := S) (d := d) (x := x) (l3 := l3) h hpl hs k
    have g : ∀ (p' q' : Nat) (I1 : rI0), TP I1 ln ed st pl → pl + p' + q' = st + 1 → (∀ I', O28 I1 I' → TV I' → K78 I1 I' → Q I' J) → wp S d 70 185 [some (.ref 28), some (.int (nI p')), some (.int (nI q')), some (.int l3), none] [] (wv x I1 J) (rV x Q) := by
      intro p' q' I1 h1 hs1 k1
      have a1 := h1.2.2.2.2.1
      have a5 := h1.2.2.2.2.2.2.1
      have t1 : TP (mSet I1 28 5 (I1 28 5 + 1)) ln ed (st + 1) pl := ⟨h1.1, h1.2.1, by omega, by omega, a1, h1.2.2.2.2.2.1, by show I1 28 5 + 1 = _; rw [a5, nI_succ], h1.2.2.2.2.2.2.2⟩
      have kk : ∀ I', O28 (mSet I1 28 5 (I1 28 5 + 1)) I' → TV I' → K78 (mSet I1 28 5 (I1 28 5 + 1)) I' → Q I' J := fun I' o1 t2 e8 => k1 I' (O28.s.tr o1) t2 ⟨e8.1, e8.2⟩
      refine v70_28_185 ⟨fun z => ⟨?_, ih (st + 1) p' q' _ _ (by omega) t1 hs1.symm kk⟩, fun _ => ih (st + 1) p' q' _ _ (by omega) t1 hs1.symm kk⟩
      rw [a5, a1, ← nI_succ] at z
      rw [a5, ← nI_succ]
      rcases Nat.lt_or_ge (st + 1) ln with w | w
      · exact nI_in (by omega) (by omega)
      · exact absurd z (nI_nlt w (by omega))
    have hh : wp S d 70 154 [some (.ref 28), some (.int (nI p)), some (.int (nI q)), some (.int l3), none] [] (wv x I J) (rV x Q) := by
      refine v70_28_154 ⟨fun _ => ?_, fun _ => ?_⟩
      · rw [← nI_succ]
        exact g p (q + 1) _ h (by omega) (fun I' o1 t2 e8 => k I' (O28.s.tr o1) t2 ⟨e8.1, e8.2⟩)
      · rw [← nI_succ]
        exact g (p + 1) q _ h (by omega) k
    exact v70_28_119 ⟨fun _ => ⟨fun _ => ⟨fun _ => f, fun _ => ⟨fun _ => f, fun _ => hh⟩⟩, fun _ => ⟨fun _ => ⟨fun _ => f, fun _ => ⟨fun _ => f, fun _ => hh⟩⟩, fun _ => hh⟩⟩, fun _ => f⟩
theorem read52 {ln ed st : Nat} {Q : rI0 → rJ0 → Prop} (h1 : ln ≤ 940) (h2 : ed ≤ ln) (h3 : st ≤ ln) (e1 : I 28 1 = nI ln) (e2 : I 28 2 = nI ed) (e5 : I 28 5 = nI st) (k : ∀ I', O28 I I' → TV I' → K78 I I' → Q I' J) : wp S d 70 52 [some (.ref 28), none, none, none, none] [] (wv x I J) (rV x Q) := by
  refine v70_28_52 ⟨fun z => ?_, fun z => ?_⟩
  · rw [e5, e2] at z
    have hs : st < ed := by
      rcases Nat.lt_or_ge st ed with w | w
      · exact w
      · exact absurd z (nI_nlt w (by omega))
    refine ⟨by rw [e5]; exact nI_in (by omega) (by omega), ?_⟩
    exact read119 (pl := st) hs (ln - st) st 0 0 _ _ (by omega) ⟨h1, h2, h3, by omega, e1, e2, e5, e5⟩ (by omega) (fun I' o1 t2 e8 => k I' ((O28.s.tr O28.s).tr o1) t2 ⟨e8.1, e8.2⟩)
  · rw [e5, e2] at z
    have hs : ed ≤ st := by
      rcases Nat.lt_or_ge st ed with w | w
      · exact absurd (nI_lt w (by omega)) z
      · exact w
    have f : ∀ v, Q (mSet (mSet I 28 4 (I 28 2)) 28 3 v) J := fun v => k _ (O28.s.tr O28.s) ⟨ln, ed, st, ed, h1, h2, h3, hs, e1, e2, e5, e2⟩ ⟨rfl, rfl⟩
    exact ⟨fun _ => f _, fun _ => f _⟩
theorem read_lpA {ln ed : Nat} {Q : rI0 → rJ0 → Prop} (h1 : ln ≤ 940) (h2 : ed ≤ ln) : ∀ (m st : Nat) (I : rI0), st + m = ln → I 28 1 = nI ln → I 28 2 = nI ed → I 28 5 = nI st → (∀ I', O28 I I' → TV I' → K78 I I' → Q I' J) → wp S d 70 0 [some (.ref 28), none, none, none, none] [] (wv x I J) (rV x Q) := by
  intro m
  induction m with
  | zero =>
    intro st I hm e1 e2 e5 k
    exact v70_28_0 ⟨fun z => absurd z (by rw [e1, e5]; exact nI_nlt (by omega) (by omega)), fun _ => read52 h1 h2 (by omega) e1 e2 e5 k⟩
  | succ m ih =>
    intro st I hm e1 e2 e5 k
    have hin : ¬ mOut (I 28 5) 940 := by rw [e5]; exact nI_in (by omega) (by omega)
    have g : wp S d 70 0 [some (.ref 28), none, none, none, none] [] (wv x (mSet I 28 5 (I 28 5 + 1)) J) (rV x Q) := ih (st + 1) _ (by omega) e1 e2 (by show I 28 5 + 1 = _; rw [e5, nI_succ]) (fun I' o1 t2 e8 => k I' (O28.s.tr o1) t2 ⟨e8.1, e8.2⟩)
    have f := read52 (S := S) (d := d) (x := x) (J := J) h1 h2 (by omega) e1 e2 e5 k
    exact v70_28_0 ⟨fun _ => ⟨hin, fun _ => g, fun _ => ⟨hin, fun _ => g, fun _ => f⟩⟩, fun _ => f⟩
theorem readA {Q : rI0 → rJ0 → Prop} (h : TV I) (k : ∀ I', O28 I I' → TV I' → K78 I I' → Q I' J) : wcV S d 70 [.ref 28] x I J Q := by
  obtain ⟨ln, ed, st, pl, h1, h2, h3, h4, e1, e2, e5, e4⟩ := h
  show wp S d 70 0 [some (.ref 28), none, none, none, none] [] (wv x I J) (rV x Q)
  exact read_lpA h1 h2 (ln - st) st I (by omega) e1 e2 e5 k
theorem openA {n : Nat} {lim : Int32} {Q : rI0 → rJ0 → Prop} (hn : n ≤ 940) (hl : lim = 900 ∨ lim = 400) (k : ∀ I', O28 I I' → TV I' → I' 28 8 = 0 → Q I' J) : wcV S (d + 1) 69 [.ref 28, .int (nI n), .int lim] x I J Q := by
  refine c69_28 ?_
  rw [if_neg (show ¬ (940 : Int32) < nI n from nI_nlt (b := n) (a := 940) (by omega) (by omega))]
  obtain ⟨ed, hed, ee⟩ : ∃ ed, ed ≤ n ∧ (if lim < nI n then lim else nI n) = nI ed := by
    by_cases z : lim < nI n
    · rw [if_pos z]
      rcases hl with rfl | rfl
      · rcases Nat.lt_or_ge n 900 with w | w
        · exact absurd z (nI_nlt (a := 900) (b := n) (by omega) (by omega))
        · exact ⟨900, w, rfl⟩
      · rcases Nat.lt_or_ge n 400 with w | w
        · exact absurd z (nI_nlt (a := 400) (b := n) (by omega) (by omega))
        · exact ⟨400, w, rfl⟩
    · rw [if_neg z]
      exact ⟨n, by omega, rfl⟩
  rw [ee]
  show wp S d 70 0 [some (.ref 28), none, none, none, none] [] (wv x (mSet (mSet (mSet (mSet I 28 1 (nI n)) 28 2 (nI ed)) 28 5 0) 28 8 0) J) (rV x Q)
  exact read_lpA hn hed n 0 _ (by omega) rfl rfl rfl (fun I' o1 t1 e8 => k I' (((O28.s.tr O28.s).tr (O28.s.tr O28.s)).tr o1) t1 e8.1)
theorem signA {c : Nat} {Q : Int32 → rI0 → rJ0 → Prop} (hc : c ≤ 100) (h : TV I) (k : ∀ v, Q v I J) : wcI S d 72 [.ref 28, .int (nI c)] x I J Q := by
  obtain ⟨ln, ed, st, pl, h1, h2, h3, h4, e1, e2, e5, e4⟩ := h
  refine c72_28 ⟨fun _ => k _, fun h0 => ⟨fun z => ⟨fun w => ⟨?_, k _⟩, fun _ => k _⟩, fun _ => k _⟩⟩
  rw [e4, nI_add] at w ⊢
  rcases Nat.lt_or_ge (pl + c) 940 with y | y
  · exact nI_in y (by omega)
  · exact absurd w (nI_nlt (b := 940) y (by omega))

theorem same_lp_1000001 {b : Nat} {Q : Int32 → rI0 → rJ0 → Prop} (hb : b + 8 ≤ 64) (h : TV I) (k : ∀ r, (r = 0 ∨ r = 1) → Q r I J) : ∀ m c : Nat, c + m = 8 → wp S (d + 7) 74 2 [some (.ref 28), some (.ref 1000001), some (.int (nI b)), some (.int (nI c))] [] (wv x I J) (rI x Q) := by
  intro m
  induction m with
  | zero =>
    intro c hc
    have hc : c = 8 := by omega
    subst hc
    exact v74_28_1000001_2 ⟨fun q => absurd q (by decide), fun _ => k 1 (Or.inr rfl)⟩
  | succ m ih =>
    intro c hc
    have z := ih (c + 1) (by omega)
    rw [nI_succ] at z
    refine v74_28_1000001_2 ⟨fun _ => ⟨fun _ => ⟨?_, signA (by omega) h (fun v => ⟨fun _ => z, fun _ => k 0 (Or.inl rfl)⟩)⟩, fun _ => k 1 (Or.inr rfl)⟩, fun _ => k 1 (Or.inr rfl)⟩
    rw [nI_add]
    exact nI_in (by omega) (by omega)
theorem among_lp_1000001 {Q : Int32 → rI0 → rJ0 → Prop} (h : TV I) (k : ∀ r, (r = -1 ∨ RB r 7) → Q r I J) : ∀ m c : Nat, c + m = 8 → wp S (d + 8) 73 12 [some (.ref 28), some (.ref 1000001), some (.int (nI (8 * c)))] [] (wv x I J) (rI x Q) := by
  intro m
  induction m with
  | zero =>
    intro c hc
    have hc : c = 8 := by omega
    subst hc
    exact v73_28_1000001_12 ⟨fun _ => k _ (Or.inl rfl), fun q => absurd (by decide) q⟩
  | succ m ih =>
    intro c hc
    refine v73_28_1000001_12 ⟨fun _ => k _ (Or.inl rfl), fun _ => c74_28_1000001 (same_lp_1000001 (b := 8 * c) (by omega) h (fun r _ => ⟨fun _ => ?_, fun _ => ⟨by decide, ?_⟩⟩) 8 0 rfl)⟩
    · show wp S (d + 8) 73 12 [some (.ref 28), some (.ref 1000001), some (.int (nI (8 * c) + nI 8))] [] (wv x I J) (rI x Q)
      rw [nI_add]
      exact ih (c + 1) (by omega)
    · show Q (nI (8 * c) / nI 8) I J
      rw [pk_div (by omega) (by omega) (by omega)]
      exact k _ (Or.inr ⟨8 * c / 8, by omega, rfl⟩)
theorem amongA_1000001 {Q : Int32 → rI0 → rJ0 → Prop} (h : TV I) (k : ∀ r, (r = -1 ∨ RB r 7) → Q r I J) : wcI S (d + 8) 73 [.ref 28, .ref 1000001] x I J Q :=
  c73_28_1000001 ⟨fun _ => among_lp_1000001 h k 8 0 rfl, fun _ => k _ (Or.inl rfl)⟩

theorem same_lp_1000002 {b : Nat} {Q : Int32 → rI0 → rJ0 → Prop} (hb : b + 8 ≤ 72) (h : TV I) (k : ∀ r, (r = 0 ∨ r = 1) → Q r I J) : ∀ m c : Nat, c + m = 8 → wp S (d + 7) 74 2 [some (.ref 28), some (.ref 1000002), some (.int (nI b)), some (.int (nI c))] [] (wv x I J) (rI x Q) := by
  intro m
  induction m with
  | zero =>
    intro c hc
    have hc : c = 8 := by omega
    subst hc
    exact v74_28_1000002_2 ⟨fun q => absurd q (by decide), fun _ => k 1 (Or.inr rfl)⟩
  | succ m ih =>
    intro c hc
    have z := ih (c + 1) (by omega)
    rw [nI_succ] at z
    refine v74_28_1000002_2 ⟨fun _ => ⟨fun _ => ⟨?_, signA (by omega) h (fun v => ⟨fun _ => z, fun _ => k 0 (Or.inl rfl)⟩)⟩, fun _ => k 1 (Or.inr rfl)⟩, fun _ => k 1 (Or.inr rfl)⟩
    rw [nI_add]
    exact nI_in (by omega) (by omega)
theorem among_lp_1000002 {Q : Int32 → rI0 → rJ0 → Prop} (h : TV I) (k : ∀ r, (r = -1 ∨ RB r 8) → Q r I J) : ∀ m c : Nat, c + m = 9 → wp S (d + 8) 73 12 [some (.ref 28), some (.ref 1000002), some (.int (nI (8 * c)))] [] (wv x I J) (rI x Q) := by
  intro m
  induction m with
  | zero =>
    intro c hc
    have hc : c = 9 := by omega
    subst hc
    exact v73_28_1000002_12 ⟨fun _ => k _ (Or.inl rfl), fun q => absurd (by decide) q⟩
  | succ m ih =>
    intro c hc
    refine v73_28_1000002_12 ⟨fun _ => k _ (Or.inl rfl), fun _ => c74_28_1000002 (same_lp_1000002 (b := 8 * c) (by omega) h (fun r _ => ⟨fun _ => ?_, fun _ => ⟨by decide, ?_⟩⟩) 8 0 rfl)⟩
    · show wp S (d + 8) 73 12 [some (.ref 28), some (.ref 1000002), some (.int (nI (8 * c) + nI 8))] [] (wv x I J) (rI x Q)
      rw [nI_add]
      exact ih (c + 1) (by omega)
    · show Q (nI (8 * c) / nI 8) I J
      rw [pk_div (by omega) (by omega) (by omega)]
      exact k _ (Or.inr ⟨8 * c / 8, by omega, rfl⟩)
theorem amongA_1000002 {Q : Int32 → rI0 → rJ0 → Prop} (h : TV I) (k : ∀ r, (r = -1 ∨ RB r 8) → Q r I J) : wcI S (d + 8) 73 [.ref 28, .ref 1000002] x I J Q :=
  c73_28_1000002 ⟨fun _ => among_lp_1000002 h k 9 0 rfl, fun _ => k _ (Or.inl rfl)⟩

theorem same_lp_1000003 {b : Nat} {Q : Int32 → rI0 → rJ0 → Prop} (hb : b + 8 ≤ 16) (h : TV I) (k : ∀ r, (r = 0 ∨ r = 1) → Q r I J) : ∀ m c : Nat, c + m = 8 → wp S (d + 7) 74 2 [some (.ref 28), some (.ref 1000003), some (.int (nI b)), some (.int (nI c))] [] (wv x I J) (rI x Q) := by
  intro m
  induction m with
  | zero =>
    intro c hc
    have hc : c = 8 := by omega
    subst hc
    exact v74_28_1000003_2 ⟨fun q => absurd q (by decide), fun _ => k 1 (Or.inr rfl)⟩
  | succ m ih =>
    intro c hc
    have z := ih (c + 1) (by omega)
    rw [nI_succ] at z
    refine v74_28_1000003_2 ⟨fun _ => ⟨fun _ => ⟨?_, signA (by omega) h (fun v => ⟨fun _ => z, fun _ => k 0 (Or.inl rfl)⟩)⟩, fun _ => k 1 (Or.inr rfl)⟩, fun _ => k 1 (Or.inr rfl)⟩
    rw [nI_add]
    exact nI_in (by omega) (by omega)
theorem among_lp_1000003 {Q : Int32 → rI0 → rJ0 → Prop} (h : TV I) (k : ∀ r, (r = -1 ∨ RB r 1) → Q r I J) : ∀ m c : Nat, c + m = 2 → wp S (d + 8) 73 12 [some (.ref 28), some (.ref 1000003), some (.int (nI (8 * c)))] [] (wv x I J) (rI x Q) := by
  intro m
  induction m with
  | zero =>
    intro c hc
    have hc : c = 2 := by omega
    subst hc
    exact v73_28_1000003_12 ⟨fun _ => k _ (Or.inl rfl), fun q => absurd (by decide) q⟩
  | succ m ih =>
    intro c hc
    refine v73_28_1000003_12 ⟨fun _ => k _ (Or.inl rfl), fun _ => c74_28_1000003 (same_lp_1000003 (b := 8 * c) (by omega) h (fun r _ => ⟨fun _ => ?_, fun _ => ⟨by decide, ?_⟩⟩) 8 0 rfl)⟩
    · show wp S (d + 8) 73 12 [some (.ref 28), some (.ref 1000003), some (.int (nI (8 * c) + nI 8))] [] (wv x I J) (rI x Q)
      rw [nI_add]
      exact ih (c + 1) (by omega)
    · show Q (nI (8 * c) / nI 8) I J
      rw [pk_div (by omega) (by omega) (by omega)]
      exact k _ (Or.inr ⟨8 * c / 8, by omega, rfl⟩)
theorem amongA_1000003 {Q : Int32 → rI0 → rJ0 → Prop} (h : TV I) (k : ∀ r, (r = -1 ∨ RB r 1) → Q r I J) : wcI S (d + 8) 73 [.ref 28, .ref 1000003] x I J Q :=
  c73_28_1000003 ⟨fun _ => among_lp_1000003 h k 2 0 rfl, fun _ => k _ (Or.inl rfl)⟩

theorem same_lp_1000004 {b : Nat} {Q : Int32 → rI0 → rJ0 → Prop} (hb : b + 8 ≤ 8) (h : TV I) (k : ∀ r, (r = 0 ∨ r = 1) → Q r I J) : ∀ m c : Nat, c + m = 8 → wp S (d + 7) 74 2 [some (.ref 28), some (.ref 1000004), some (.int (nI b)), some (.int (nI c))] [] (wv x I J) (rI x Q) := by
  intro m
  induction m with
  | zero =>
    intro c hc
    have hc : c = 8 := by omega
    subst hc
    exact v74_28_1000004_2 ⟨fun q => absurd q (by decide), fun _ => k 1 (Or.inr rfl)⟩
  | succ m ih =>
    intro c hc
    have z := ih (c + 1) (by omega)
    rw [nI_succ] at z
    refine v74_28_1000004_2 ⟨fun _ => ⟨fun _ => ⟨?_, signA (by omega) h (fun v => ⟨fun _ => z, fun _ => k 0 (Or.inl rfl)⟩)⟩, fun _ => k 1 (Or.inr rfl)⟩, fun _ => k 1 (Or.inr rfl)⟩
    rw [nI_add]
    exact nI_in (by omega) (by omega)
theorem among_lp_1000004 {Q : Int32 → rI0 → rJ0 → Prop} (h : TV I) (k : ∀ r, (r = -1 ∨ RB r 0) → Q r I J) : ∀ m c : Nat, c + m = 1 → wp S (d + 8) 73 12 [some (.ref 28), some (.ref 1000004), some (.int (nI (8 * c)))] [] (wv x I J) (rI x Q) := by
  intro m
  induction m with
  | zero =>
    intro c hc
    have hc : c = 1 := by omega
    subst hc
    exact v73_28_1000004_12 ⟨fun _ => k _ (Or.inl rfl), fun q => absurd (by decide) q⟩
  | succ m ih =>
    intro c hc
    refine v73_28_1000004_12 ⟨fun _ => k _ (Or.inl rfl), fun _ => c74_28_1000004 (same_lp_1000004 (b := 8 * c) (by omega) h (fun r _ => ⟨fun _ => ?_, fun _ => ⟨by decide, ?_⟩⟩) 8 0 rfl)⟩
    · show wp S (d + 8) 73 12 [some (.ref 28), some (.ref 1000004), some (.int (nI (8 * c) + nI 8))] [] (wv x I J) (rI x Q)
      rw [nI_add]
      exact ih (c + 1) (by omega)
    · show Q (nI (8 * c) / nI 8) I J
      rw [pk_div (by omega) (by omega) (by omega)]
      exact k _ (Or.inr ⟨8 * c / 8, by omega, rfl⟩)
theorem amongA_1000004 {Q : Int32 → rI0 → rJ0 → Prop} (h : TV I) (k : ∀ r, (r = -1 ∨ RB r 0) → Q r I J) : wcI S (d + 8) 73 [.ref 28, .ref 1000004] x I J Q :=
  c73_28_1000004 ⟨fun _ => among_lp_1000004 h k 1 0 rfl, fun _ => k _ (Or.inl rfl)⟩

theorem same_lp_1000005 {b : Nat} {Q : Int32 → rI0 → rJ0 → Prop} (hb : b + 8 ≤ 32) (h : TV I) (k : ∀ r, (r = 0 ∨ r = 1) → Q r I J) : ∀ m c : Nat, c + m = 8 → wp S (d + 7) 74 2 [some (.ref 28), some (.ref 1000005), some (.int (nI b)), some (.int (nI c))] [] (wv x I J) (rI x Q) := by
  intro m
  induction m with
  | zero =>
    intro c hc
    have hc : c = 8 := by omega
    subst hc
    exact v74_28_1000005_2 ⟨fun q => absurd q (by decide), fun _ => k 1 (Or.inr rfl)⟩
  | succ m ih =>
    intro c hc
    have z := ih (c + 1) (by omega)
    rw [nI_succ] at z
    refine v74_28_1000005_2 ⟨fun _ => ⟨fun _ => ⟨?_, signA (by omega) h (fun v => ⟨fun _ => z, fun _ => k 0 (Or.inl rfl)⟩)⟩, fun _ => k 1 (Or.inr rfl)⟩, fun _ => k 1 (Or.inr rfl)⟩
    rw [nI_add]
    exact nI_in (by omega) (by omega)
theorem among_lp_1000005 {Q : Int32 → rI0 → rJ0 → Prop} (h : TV I) (k : ∀ r, (r = -1 ∨ RB r 3) → Q r I J) : ∀ m c : Nat, c + m = 4 → wp S (d + 8) 73 12 [some (.ref 28), some (.ref 1000005), some (.int (nI (8 * c)))] [] (wv x I J) (rI x Q) := by
  intro m
  induction m with
  | zero =>
    intro c hc
    have hc : c = 4 := by omega
    subst hc
    exact v73_28_1000005_12 ⟨fun _ => k _ (Or.inl rfl), fun q => absurd (by decide) q⟩
  | succ m ih =>
    intro c hc
    refine v73_28_1000005_12 ⟨fun _ => k _ (Or.inl rfl), fun _ => c74_28_1000005 (same_lp_1000005 (b := 8 * c) (by omega) h (fun r _ => ⟨fun _ => ?_, fun _ => ⟨by decide, ?_⟩⟩) 8 0 rfl)⟩
    · show wp S (d + 8) 73 12 [some (.ref 28), some (.ref 1000005), some (.int (nI (8 * c) + nI 8))] [] (wv x I J) (rI x Q)
      rw [nI_add]
      exact ih (c + 1) (by omega)
    · show Q (nI (8 * c) / nI 8) I J
      rw [pk_div (by omega) (by omega) (by omega)]
      exact k _ (Or.inr ⟨8 * c / 8, by omega, rfl⟩)
theorem amongA_1000005 {Q : Int32 → rI0 → rJ0 → Prop} (h : TV I) (k : ∀ r, (r = -1 ∨ RB r 3) → Q r I J) : wcI S (d + 8) 73 [.ref 28, .ref 1000005] x I J Q :=
  c73_28_1000005 ⟨fun _ => among_lp_1000005 h k 4 0 rfl, fun _ => k _ (Or.inl rfl)⟩

theorem failA {p : Int32} {Q : Int32 → rI0 → rJ0 → Prop} (h : TV I) (k : ∀ I', O28 I I' → TV I' → Q 0 I' J) : wcI S d 75 [.ref 28, .int p] x I J Q := c75_28 (k _ O28.s h)
theorem withinA {p q : Int32} {Q : Int32 → rI0 → rJ0 → Prop} (h : TV I) (k0 : ∀ I', O28 I I' → TV I' → Q 0 I' J) (k1 : ¬ I 28 6 < p → ¬ q < I 28 6 → Q 1 I J) : wcI S d 76 [.ref 28, .int p, .int q] x I J Q := by
  have f : ∀ v, Q 0 (mSet I 28 8 v) J := fun v => k0 _ O28.s h
  exact c76_28 ⟨fun _ => ⟨fun _ => ⟨fun z => absurd z (by decide), fun _ => f _⟩, fun h1 => ⟨fun _ => ⟨fun z => absurd z (by decide), fun _ => f _⟩, fun h2 => ⟨fun _ => k1 h1 h2, fun _ => k0 _ O28.rf h⟩⟩⟩, fun _ => ⟨fun z => absurd z (by decide), fun _ => f _⟩⟩
theorem takeNumA {p q : Int32} {Q : Int32 → rI0 → rJ0 → Prop} (h : TV I) (k0 : ∀ I', O28 I I' → TV I' → Q 0 I' J) (k1 : ∀ v I', ¬ v < p → ¬ q < v → O28 I I' → TV I' → I' 28 7 = v → Q 1 I' J) : wcI S (d + 1) 77 [.ref 28, .int p, .int q] x I J Q := by
  exact c77_28 (withinA h (fun I1 o1 t1 => ⟨fun _ => k0 I1 o1 t1, fun z => absurd rfl z⟩) (fun h1 h2 => ⟨fun z => absurd z (by decide), fun _ => readA h (fun I' o1 t1 e8 => k1 (I 28 6) I' h1 h2 (O28.s.tr o1) t1 e8.2)⟩))
theorem passA {p : Int32} {Q : Int32 → rI0 → rJ0 → Prop} (h : TV I) (k : ∀ r I', (r = 0 ∨ r = 1) → O28 I I' → TV I' → Q r I' J) : wcI S (d + 1) 78 [.ref 28, .int p] x I J Q :=
  c78_28 ⟨fun _ => readA h (fun I' o1 t1 _ => k 1 I' (Or.inr rfl) o1 t1), fun _ => failA h (fun I' o1 t1 => ⟨Or.inl rfl, k 0 I' (Or.inl rfl) o1 t1⟩)⟩

end CT
end
section
section CX
variable {S : Nat × (Nat → Int32)} {d : Nat} {x : mX} {I : rI0} {J : rJ0}
/-- a sign of the token, as a number -/
def sg (I : rI0) (p : Int32) : Int32 := if p < 0 then 32 else if (I 28 4 + p) < I 28 5 then (if (I 28 4 + p) < 940 then I 2 ((I 28 4 + p).toNatClampNeg) else 32) else 32
theorem signF {c : Nat} {Q : Int32 → rI0 → rJ0 → Prop} (hc : c ≤ 100) (h : TV I) (k : Q (sg I (nI c)) I J) : wcI S d 72 [.ref 28, .int (nI c)] x I J Q := by
  obtain ⟨ln, ed, st, pl, h1, h2, h3, h4, e1, e2, e5, e4⟩ := h
  unfold sg at k
  refine c72_28 ⟨fun z => absurd z (nI_pos (by omega)), fun h0 => ⟨fun z => ⟨fun w => ⟨?_, ?_⟩, fun w => ?_⟩, fun z => ?_⟩⟩
  · rw [e4, nI_add] at w ⊢
    rcases Nat.lt_or_ge (pl + c) 940 with y | y
    · exact nI_in y (by omega)
    · exact absurd w (nI_nlt (b := 940) y (by omega))
  · rw [if_neg h0, if_pos z, if_pos w] at k
    exact k
  · rw [if_neg h0, if_pos z, if_neg w] at k
    exact k
  · rw [if_neg h0, if_neg z] at k
    exact k
def KB (v : Int32) : Prop := v = -1 ∨ RB v 5
/-- what the reading of a house touches -/
def OX (I I' : rI0) : Prop := ∀ b, ¬ (b = 16 ∨ b = 17 ∨ (19 ≤ b ∧ b ≤ 22) ∨ b = 28 ∨ b = 29) → I' b = I b
theorem OX.rf : OX I I := fun _ _ => rfl
theorem OX.tr {I1 I2 : rI0} (h : OX I I1) (h2 : OX I1 I2) : OX I I2 := fun b hb => (h2 b hb).trans (h b hb)
theorem OX.o {I1 : rI0} (h : O28 I I1) : OX I I1 := fun b hb => h b (by omega)
theorem OX.s {n k : Nat} {v : Int32} (hn : n = 16 ∨ n = 17 ∨ (19 ≤ n ∧ n ≤ 22) ∨ n = 28 ∨ n = 29) : OX I (mSet I n k v) := fun b hb => mSet_ne (by omega)
def HI (I : rI0) : Prop := TV I ∧ RB (I 16 0) 8 ∧ RB (I 16 1) 8 ∧ (I 16 4 = 0 ∨ I 16 4 = 1) ∧ (∀ s, s < 64 → KB (I 17 s)) ∧ RB (I 29 2) 20
theorem HI.o {I1 : rI0} (h : HI I) (h1 : O28 I I1) (t : TV I1) : HI I1 := by
  obtain ⟨-, a1, a2, a3, a4, a5⟩ := h
  refine ⟨t, ?_⟩
  rw [h1 16 (by decide), h1 17 (by decide), h1 29 (by decide)]
  exact ⟨a1, a2, a3, a4, a5⟩
theorem failX {p : Int32} {Q : Int32 → rI0 → rJ0 → Prop} (h : HI I) (k : ∀ r I', (r = 0 ∨ r = 1) → OX I I' → HI I' → Q r I' J) : wcI S d 75 [.ref 28, .int p] x I J (fun r I' J' => (r = 0 ∨ r = 1) ∧ Q r I' J') :=
  failA h.1 (fun I' o1 t1 => ⟨Or.inl rfl, k 0 I' (Or.inl rfl) (OX.o o1) (h.o o1 t1)⟩)
theorem row138 {c t R : Nat} {l3 : Int32} {Q : Int32 → rI0 → rJ0 → Prop} (h : HI I) (hR : I 16 0 = nI R) (hR7 : R ≤ 7) (hc : c ≤ 8) (ht : t < c) (h3 : l3 = 120 ∨ (¬ l3 < 97 ∧ l3 < 103)) (k : ∀ I', OX I I' → HI I' → I' 16 0 = nI R → wp S (d + 1) 38 102 [some (.ref 29), some (.int (nI c)), some (.int (nI t + 1)), none] [] (wv x I' J) (rI x Q)) : wp S (d + 1) 38 138 [some (.ref 29), some (.int (nI c)), some (.int (nI t)), some (.int l3)] [] (wv x I J) (rI x Q) := by
  have hb : R * c + t < 64 := by
    have : R * c ≤ 7 * 8 := Nat.mul_le_mul hR7 hc
    rcases Nat.lt_or_ge (R * c + t) 64 with y | y
    · exact y
    · omega
  have hin : ¬ mOut (I 16 0 * nI c + nI t) 64 := by rw [hR, nI_mu, nI_add]; exact nI_in hb (by omega)
  have g : ∀ v, KB v → wp S (d + 1) 38 102 [some (.ref 29), some (.int (nI c)), some (.int (nI t + 1)), none] [] (wv x (mSet I 17 ((I 16 0 * nI c + nI t).toNatClampNeg) v) J) (rI x Q) := by
    intro v hv
    refine k _ (OX.s (by omega)) ?_ hR
    obtain ⟨a0, a1, a2, a3, a4, a5⟩ := h
    refine ⟨a0, a1, a2, a3, fun s hs => ?_, a5⟩
    show KB (mSet I 17 _ v 17 s)
    unfold mSet va_up
    rw [if_pos rfl]
    split
    · exact hv
    · exact a4 s hs
  refine v38_29_138 ⟨fun _ => ⟨hin, g _ (Or.inl rfl)⟩, fun z => ⟨hin, g _ (Or.inr ?_)⟩⟩
  rcases h3 with h3 | ⟨h3, h4⟩
  · exact absurd h3 z
  · rw [Int32.lt_iff_toInt_lt] at h3 h4
    have e1 : (97 : Int32).toInt = 97 := by decide
    have e2 : (103 : Int32).toInt = 103 := by decide
    have es : (l3 - 97).toInt = l3.toInt - 97 := by
      rw [Int32.toInt_sub, e1]
      exact Int.bmod_eq_of_le (by omega) (by omega)
    obtain ⟨u, hu, eu⟩ := i_nat (l := l3 - 97) (n := 5) (by omega) (by rw [Int32.lt_iff_toInt_lt, es]; have e0 : (0 : Int32).toInt = 0 := by decide
                                                                       omega) (by rw [Int32.lt_iff_toInt_lt, es]; have e0 : (nI 5).toInt = 5 := by decide
                                                                                  omega)
    exact ⟨u, hu, eu⟩
theorem row102 {c R : Nat} {Q : Int32 → rI0 → rJ0 → Prop} (hR7 : R ≤ 7) (hc : c ≤ 8) : ∀ (m t : Nat) (I : rI0), t + m = c → HI I → I 16 0 = nI R → (∀ r I', (r = 0 ∨ r = 1) → OX I I' → HI I' → Q r I' J) → wp S (d + 1) 38 102 [some (.ref 29), some (.int (nI c)), some (.int (nI t)), none] [] (wv x I J) (rI x Q) := by
  intro m
  induction m with
  | zero =>
    intro t I hm h hR k
    refine v38_29_102 ⟨fun q => absurd q (nI_nlt (by omega) (by omega)), fun _ => readA h.1 (fun I1 o1 t1 _ => ?_)⟩
    have h' : HI (mSet I 16 0 (I 16 0 + 1)) := by
      obtain ⟨a0, a1, a2, a3, a4, a5⟩ := h
      exact ⟨a0, ⟨R + 1, by omega, by show I 16 0 + 1 = _; rw [hR, nI_succ]⟩, a2, a3, a4, a5⟩
    exact k 1 I1 (Or.inr rfl) ((OX.s (by omega)).tr (OX.o o1)) (h'.o o1 t1)
  | succ m ih =>
    intro t I hm h hR k
    have g : ∀ l3 : Int32, (l3 = 120 ∨ (¬ l3 < 97 ∧ l3 < 103)) → wp S (d + 1) 38 138 [some (.ref 29), some (.int (nI c)), some (.int (nI t)), some (.int l3)] [] (wv x I J) (rI x Q) := fun l3 h3 => row138 h hR hR7 hc (by omega) h3 (fun I1 o1 h1 r1 => by
      rw [← nI_succ]
      exact ih (t + 1) I1 (by omega) h1 r1 (fun r I' hr o2 h2 => k r I' hr (o1.tr o2) h2))
    exact v38_29_102 ⟨fun _ => signF (by omega) h.1 ⟨fun e => g _ (Or.inl e), fun _ => c39 ⟨fun _ => ⟨fun _ => failX h k, fun z => absurd rfl z⟩, fun z1 => ⟨fun z2 => ⟨fun z => absurd z (by decide), fun _ => g _ (Or.inr ⟨z1, z2⟩)⟩, fun _ => ⟨fun _ => failX h k, fun z => absurd rfl z⟩⟩⟩⟩, fun q => absurd (nI_lt (by omega) (by omega)) q⟩
end CX
end
section
section CL
variable {S : Nat × (Nat → Int32)} {d : Nat} {x : mX} {I : rI0} {J : rJ0}
theorem readX {Q : rI0 → rJ0 → Prop} (h : HI I) (k : ∀ I', OX I I' → HI I' → (∀ b, b ≠ 28 → I' b = I b) → Q I' J) : wcV S d 70 [.ref 28] x I J Q := readA h.1 (fun I' o1 t1 _ => k I' (OX.o o1) (h.o o1 t1) o1)
theorem takeNumX {p q : Int32} {Q : Int32 → rI0 → rJ0 → Prop} (h : HI I) (k0 : ∀ I', OX I I' → HI I' → Q 0 I' J) (k1 : ∀ I', OX I I' → HI I' → Q 1 I' J) : wcI S (d + 1) 77 [.ref 28, .int p, .int q] x I J Q :=
  takeNumA h.1 (fun I' o1 t1 => k0 I' (OX.o o1) (h.o o1 t1)) (fun v I' _ _ o1 t1 _ => k1 I' (OX.o o1) (h.o o1 t1))
theorem HI.s29 {k : Nat} {v : Int32} (h : HI I) (hk : k ≠ 2) : HI (mSet I 29 k v) := by
  obtain ⟨a0, a1, a2, a3, a4, a5⟩ := h
  refine ⟨a0, a1, a2, a3, a4, ?_⟩
  show RB (mSet I 29 k v 29 2) 20
  rw [mSet_fld (fun z => hk z.symm)]
  exact a5
theorem HI.sA {n k : Nat} {v : Int32} (h : HI I) (hn : 19 ≤ n ∧ n ≤ 22) : HI (mSet I n k v) := by
  obtain ⟨⟨ln, ed, st, pl, t1, t2, t3, t4, e1, e2, e5, e4⟩, a1, a2, a3, a4, a5⟩ := h
  unfold HI TV TP
  rw [mSet_ne (show 28 ≠ n by omega), mSet_ne (show 16 ≠ n by omega), mSet_ne (show 17 ≠ n by omega), mSet_ne (show 29 ≠ n by omega)]
  exact ⟨⟨ln, ed, st, pl, t1, t2, t3, t4, e1, e2, e5, e4⟩, a1, a2, a3, a4, a5⟩
theorem HI.s16 {k : Nat} {v : Int32} (h : HI I) (hk : k = 2 ∨ k = 3) : HI (mSet I 16 k v) := by
  obtain ⟨a0, a1, a2, a3, a4, a5⟩ := h
  refine ⟨a0, ?_, ?_, ?_, a4, a5⟩
  · show RB (mSet I 16 k v 16 0) 8
    rw [mSet_fld (by omega)]
    exact a1
  · show RB (mSet I 16 k v 16 1) 8
    rw [mSet_fld (by omega)]
    exact a2
  · show mSet I 16 k v 16 4 = 0 ∨ mSet I 16 k v 16 4 = 1
    rw [mSet_fld (by omega)]
    exact a3
theorem cmp37 {l1 : Int32} {Q : Int32 → rI0 → rJ0 → Prop} (h : HI I) (k : ∀ r I', (r = 0 ∨ r = 1) → OX I I' → HI I' → Q r I' J) : wp S (d + 2) 43 37 [some (.ref 29), some (.int l1)] [] (wv x I J) (rI x Q) :=
  v43_29_37 ⟨fun _ => failX h k, fun _ => ⟨fun _ => failX h k, fun _ => readX (h.s29 (by decide)) (fun I3 o3 h3 _ => takeNumX h3 (fun I4 o4 h4 => ⟨fun _ => k 0 I4 (Or.inl rfl) (((OX.s (by omega)).tr o3).tr o4) h4, fun z => absurd rfl z⟩) (fun I4 o4 h4 => ⟨fun z => absurd z (by decide), fun _ => k 1 _ (Or.inr rfl) ((((OX.s (by omega)).tr o3).tr o4).tr (OX.s (by omega))) (h4.s29 (by decide))⟩))⟩⟩
theorem compareA {p : Int32} {Q : Int32 → rI0 → rJ0 → Prop} (h : HI I) (k : ∀ r I', (r = 0 ∨ r = 1) → OX I I' → HI I' → Q r I' J) : wcI S (d + 2) 43 [.ref 29, .int p] x I J Q :=
  c43_29 ⟨fun _ => cmp37 (h.s29 (by decide)) (fun r I' hr o1 h1 => k r I' hr ((OX.s (by omega)).tr o1) h1), fun _ => takeNumX (h.s29 (by decide)) (fun I1 o1 h1 => ⟨fun _ => k 0 I1 (Or.inl rfl) ((OX.s (by omega)).tr o1) h1, fun z => absurd rfl z⟩) (fun I1 o1 h1 => ⟨fun z => absurd z (by decide), fun _ => cmp37 (h1.s29 (by decide)) (fun r I' hr o2 h2 => k r I' hr ((((OX.s (by omega)).tr o1).tr (OX.s (by omega))).tr o2) h2)⟩)⟩
theorem one188 {l1 l2 l3 l4 l5 l6 : Int32} {Q : Int32 → rI0 → rJ0 → Prop} (h : HI I) (hi : ¬ mOut (l1 + l5) 240) (k : ∀ r I', (r = 0 ∨ r = 1) → OX I I' → HI I' → Q r I' J) : wp S (d + 1) 42 188 [some (.ref 29), some (.int l1), some (.int l2), some (.int l3), some (.int l4), some (.int l5), some (.int l6)] [] (wv x I J) (rI x Q) :=
  v42_29_188 ⟨hi, k 1 _ (Or.inr rfl) (OX.s (by omega)) (h.sA (by omega))⟩
theorem join14 {l1 l2 : Int32} {Q : Int32 → rI0 → rJ0 → Prop} (r42 : ∀ (I : rI0) (p2 : Int32) {Q' : Int32 → rI0 → rJ0 → Prop}, HI I → (∀ r I', (r = 0 ∨ r = 1) → OX I I' → HI I' → Q' r I' J) → wcI S (d + 8) 42 [.ref 29, .int l1, .int p2, .int l2] x I J Q') : ∀ (m c : Nat) (I : rI0), c + m = 20 → HI I → (∀ r I', (r = 0 ∨ r = 1) → OX I I' → HI I' → Q r I' J) → wp S (d + 9) 41 14 [some (.ref 29), some (.int l1), some (.int l2), some (.int (nI c)), none] [] (wv x I J) (rI x Q) := by
  intro m
  induction m with
  | zero =>
    intro c I hc h k
    have hc : c = 20 := by omega
    subst hc
    exact v41_29_14 ⟨fun q => absurd q (by decide), fun _ => k 1 I (Or.inr rfl) OX.rf h⟩
  | succ m ih =>
    intro c I hc h k
    refine v41_29_14 ⟨fun _ => amongA_1000003 h.1 (fun r1 _ => ⟨fun _ => k 1 I (Or.inr rfl) OX.rf h, fun _ => readX h (fun I2 o2 h2 _ => r42 I2 r1 h2 (fun r3 I3 hr o3 h3 => ⟨fun e => k 0 I3 (Or.inl rfl) (o2.tr o3) h3, fun _ => ?_⟩))⟩), fun q => absurd (nI_lt (by omega) (by omega) : nI c < nI 20) q⟩
    rw [← nI_succ]
    exact ih (c + 1) I3 (by omega) h3 (fun r I' hr o4 h4 => k r I' hr ((o2.tr o3).tr o4) h4)
theorem joinX {l1 l2 : Int32} {Q : Int32 → rI0 → rJ0 → Prop} (r42 : ∀ (I : rI0) (p2 : Int32) {Q' : Int32 → rI0 → rJ0 → Prop}, HI I → (∀ r I', (r = 0 ∨ r = 1) → OX I I' → HI I' → Q' r I' J) → wcI S (d + 8) 42 [.ref 29, .int l1, .int p2, .int l2] x I J Q') (h : HI I) (k : ∀ r I', (r = 0 ∨ r = 1) → OX I I' → HI I' → Q r I' J) : wcI S (d + 9) 41 [.ref 29, .int l1, .int l2] x I J Q :=
  c41_29 (r42 I 0 h (fun r1 I1 hr o1 h1 => ⟨fun _ => k 0 I1 (Or.inl rfl) o1 h1, fun _ => join14 r42 20 0 I1 rfl h1 (fun r I' hr o2 h2 => k r I' hr (o1.tr o2) h2)⟩))
theorem oneX : ∀ (m d t : Nat), t + m = 9 → ∀ (u : Nat) (I : rI0) (p2 : Int32) {Q : Int32 → rI0 → rJ0 → Prop}, u ≤ 220 → HI I → (∀ r I', (r = 0 ∨ r = 1) → OX I I' → HI I' → Q r I' J) → wcI S (d + 2 * m + 10) 42 [.ref 29, .int (nI u), .int p2, .int (nI t)] x I J Q := by
  intro m
  induction m with
  | zero =>
    intro d t ht u I p2 Q hu h k
    have ht : t = 9 := by omega
    subst ht
    have g : ∀ s0 : Int32, wp S (d + 2 * 0 + 10) 42 26 [some (.ref 29), some (.int (nI u)), some (.int p2), some (.int (nI 9)), none, none, none] [.int s0] (wv x I J) (rI x Q) := fun s0 => v42_29_26 ⟨fun _ => failX h k, fun _ => ⟨fun _ => ⟨fun _ => failX h k, fun z => absurd (by decide) z⟩, fun _ => failX h k⟩⟩
    exact c42_29 ⟨fun _ => g _, fun _ => amongA_1000002 (d := d + 1) h.1 (fun r1 _ => g _)⟩
  | succ m ih =>
    intro d t ht u I p2 Q hu h k
    have g : ∀ s0 : Int32, wp S (d + 2 * (m + 1) + 9 + 1) 42 26 [some (.ref 29), some (.int (nI u)), some (.int p2), some (.int (nI t)), none, none, none] [.int s0] (wv x I J) (rI x Q) := by
      intro s0
      refine v42_29_26 ⟨fun _ => failX h k, fun _ => ⟨fun h20 => ⟨fun _ => failX h k, fun _ => ?_⟩, fun _ => failX h k⟩⟩
      obtain ⟨c, hc, ec⟩ := h.2.2.2.2.2.lt (m := 20) (by omega) (by omega) h20
      have h' : HI (mSet I 29 2 (I 29 2 + 1)) := by
        obtain ⟨a0, a1, a2, a3, a4, a5⟩ := h
        exact ⟨a0, a1, a2, a3, a4, c + 1, by omega, by show I 29 2 + 1 = _; rw [ec, nI_succ]⟩
      have hi : ¬ mOut (nI u + I 29 2) 240 := by rw [ec, nI_add]; exact nI_in (by omega) (by omega)
      have r42 : ∀ (I : rI0) (q2 : Int32) {Q' : Int32 → rI0 → rJ0 → Prop}, HI I → (∀ r I', (r = 0 ∨ r = 1) → OX I I' → HI I' → Q' r I' J) → wcI S (d + 2 * (m + 1) + 8) 42 [.ref 29, .int (nI u), .int q2, .int (nI t + 1)] x I J Q' := fun I q2 Q' h1 k1 => by
        have z := ih d (t + 1) (by omega) u I q2 hu h1 k1
        rw [nI_succ] at z
        exact z
      have r42' : ∀ (I : rI0) (q2 : Int32) {Q' : Int32 → rI0 → rJ0 → Prop}, HI I → (∀ r I', (r = 0 ∨ r = 1) → OX I I' → HI I' → Q' r I' J) → wcI S (d + 2 * (m + 1) + 9) 42 [.ref 29, .int (nI u), .int q2, .int (nI t + 1)] x I J Q' := fun I q2 Q' h1 k1 => by
        have z := ih (d + 1) (t + 1) (by omega) u I q2 hu h1 k1
        rw [nI_succ] at z
        rw [show d + 2 * (m + 1) + 9 = d + 1 + 2 * m + 10 by omega]
        exact z
      have o1 : OX I (mSet I 29 2 (I 29 2 + 1)) := OX.s (by omega)
      refine readX h' (fun I3 o3 h3 _ => ⟨fun _ => joinX r42 h3 (fun r4 I4 hr4 o4 h4 => ⟨fun _ => k 0 I4 (Or.inl rfl) ((o1.tr o3).tr o4) h4, fun _ => passA h4.1 (fun r5 I5 hr5 o5 t5 => ⟨fun _ => k 0 I5 (Or.inl rfl) (((o1.tr o3).tr o4).tr (OX.o o5)) (h4.o o5 t5), fun _ => one188 (h4.o o5 t5) hi (fun r I' hr o6 h6 => k r I' hr ((((o1.tr o3).tr o4).tr (OX.o o5)).tr o6) h6)⟩)⟩), fun _ => ⟨fun _ => r42' I3 0 h3 (fun r6 I6 hr6 o6 h6 => ⟨fun _ => k 0 I6 (Or.inl rfl) ((o1.tr o3).tr o6) h6, fun _ => one188 h6 hi (fun r I' hr o7 h7 => k r I' hr (((o1.tr o3).tr o6).tr o7) h7)⟩), fun _ => ⟨fun _ => compareA h3 (fun r7 I7 hr7 o7 h7 => ⟨fun _ => k 0 I7 (Or.inl rfl) ((o1.tr o3).tr o7) h7, fun _ => one188 h7 hi (fun r I' hr o8 h8 => k r I' hr (((o1.tr o3).tr o7).tr o8) h8)⟩), fun _ => compareA h3 (fun r7 I7 hr7 o7 h7 => ⟨fun _ => k 0 I7 (Or.inl rfl) ((o1.tr o3).tr o7) h7, fun _ => one188 h7 hi (fun r I' hr o8 h8 => k r I' hr (((o1.tr o3).tr o7).tr o8) h8)⟩)⟩⟩⟩)
    show wcI S (d + 2 * (m + 1) + 9 + 1) 42 _ x I J Q
    exact c42_29 ⟨fun _ => g _, fun _ => amongA_1000002 (d := d + 2 * (m + 1) + 1) h.1 (fun r1 _ => g _)⟩
theorem joinedX {u : Nat} {Q : Int32 → rI0 → rJ0 → Prop} (hu : u ≤ 220) (h : HI I) (k : ∀ r I', (r = 0 ∨ r = 1) → OX I I' → HI I' → Q r I' J) : wcI S (d + 27) 41 [.ref 29, .int (nI u), .int (1 : Int32)] x I J Q :=
  joinX (d := d + 18) (l2 := 1) (fun I p2 Q' h1 k1 => oneX 8 d 1 rfl u I p2 hu h1 k1) h k
end CL
end
section
section CR
variable {S : Nat × (Nat → Int32)} {d : Nat} {x : mX} {I : rI0} {J : rJ0}
theorem readRowX {Q : Int32 → rI0 → rJ0 → Prop} (h : HI I) (k : ∀ r I', (r = 0 ∨ r = 1) → OX I I' → HI I' → Q r I' J) : wcI S (d + 1) 38 [.ref 29] x I J Q := by
  refine c38_29 ⟨fun h8 => readX h (fun I1 o1 h1 f1 => ⟨fun _ => ?_, fun _ => failX h1 (fun r I' hr o2 h2 => k r I' hr (o1.tr o2) h2)⟩), fun _ => failX h k⟩
  obtain ⟨R, hR, eR⟩ := h.2.1.lt (m := 8) (by omega) (by omega) h8
  have eR1 : I1 16 0 = nI R := by rw [f1 16 (by decide)]; exact eR
  obtain ⟨ln, ed, st, pl, t1, t2, t3, t4, e1, e2, e5, e4⟩ := h1.1
  have hk : ∀ r I', (r = 0 ∨ r = 1) → OX I1 I' → HI I' → Q r I' J := fun r I' hr o2 h2 => k r I' hr (o1.tr o2) h2
  refine c71_28 ?_
  have es : I1 28 5 - I1 28 4 = nI (st - pl) := by
    rw [e5, e4, ← Int32.toInt_inj, Int32.toInt_sub, nI_toInt (by omega), nI_toInt (by omega), nI_toInt (by omega)]
    rw [Int.bmod_eq_of_le (by omega) (by omega)]
    omega
  rw [es]
  refine ⟨fun _ => failX h1 hk, fun h8c => ?_⟩
  have hc : st - pl ≤ 8 := by
    rcases Nat.lt_or_ge 8 (st - pl) with y | y
    · exact absurd (nI_lt (a := 8) y (by omega)) h8c
    · exact y
  have h2 : HI (mSet I1 16 1 (nI (st - pl))) := by
    obtain ⟨a0, a1, a2, a3, a4, a5⟩ := h1
    exact ⟨a0, a1, ⟨st - pl, hc, rfl⟩, a3, a4, a5⟩
  have g : wp S (d + 1) 38 102 [some (.ref 29), some (.int (nI (st - pl))), some (.int 0), none] [] (wv x (mSet I1 16 1 (nI (st - pl))) J) (rI x Q) := row102 (by omega) hc (st - pl) 0 _ (by omega) h2 eR1 (fun r I' hr o3 h3 => hk r I' hr ((OX.s (by omega)).tr o3) h3)
  exact ⟨fun _ => ⟨fun _ => g, fun _ => failX h1 hk⟩, fun _ => g⟩
theorem kind_nat {v : Int32} (h1 : ¬ v < 97) (h2 : v < 103) : ∃ u, u ≤ 5 ∧ v - 97 = nI u := by
  rw [Int32.lt_iff_toInt_lt] at h1 h2
  have e1 : (97 : Int32).toInt = 97 := by decide
  have e2 : (103 : Int32).toInt = 103 := by decide
  have es : (v - 97).toInt = v.toInt - 97 := by
    rw [Int32.toInt_sub, e1]
    exact Int.bmod_eq_of_le (by omega) (by omega)
  obtain ⟨u, hu, eu⟩ := i_nat (l := v - 97) (n := 5) (by omega) (by
    rw [Int32.lt_iff_toInt_lt, es]
    have e0 : (0 : Int32).toInt = 0 := by decide
    omega) (by
    rw [Int32.lt_iff_toInt_lt, es]
    have e0 : (nI 5).toInt = 5 := by decide
    omega)
  exact ⟨u, hu, eu⟩
theorem readLawX {w : Nat} {Q : Int32 → rI0 → rJ0 → Prop} (hw : w ≤ 1) (h : HI I) (k : ∀ r I', (r = 0 ∨ r = 1) → OX I I' → HI I' → Q r I' J) : wcI S (d + 28) 40 [.ref 29, .int (nI w)] x I J Q := by
  refine c40_29 (readX h (fun I1 o1 h1 f1 => ⟨fun _ => c71_28 ⟨fun _ => ?_, fun _ => failX h1 (fun r I' hr o2 h2 => k r I' hr (o1.tr o2) h2)⟩, fun _ => failX h1 (fun r I' hr o2 h2 => k r I' hr (o1.tr o2) h2)⟩))
  have hk : ∀ r I', (r = 0 ∨ r = 1) → OX I1 I' → HI I' → Q r I' J := fun r I' hr o2 h2 => k r I' hr (o1.tr o2) h2
  refine signF (c := 0) (by omega) h1.1 (c39 ⟨fun _ => ⟨fun _ => failX h1 hk, fun z => absurd rfl z⟩, fun z1 => ⟨fun z2 => ⟨fun z => absurd z (by decide), fun _ => signF (c := 0) (by omega) h1.1 ?_⟩, fun _ => ⟨fun _ => failX h1 hk, fun z => absurd rfl z⟩⟩⟩)
  obtain ⟨u, hu, eu⟩ := kind_nat z1 z2
  have ei : (2 : Int32) * (sg I1 (nI 0) - 97) + nI w = nI (2 * u + w) := by
    rw [eu]
    show nI 2 * nI u + nI w = _
    rw [nI_mu, nI_add]
  rw [ei]
  have hin : ¬ mOut (nI (2 * u + w)) 12 := nI_in (by omega) (by omega)
  refine ⟨hin, fun _ => readX h1 (fun I7 o7 h7 _ => ?_), fun _ => failX h1 hk⟩
  have h7' : HI (mSet I7 29 2 0) := by
    obtain ⟨a0, a1, a2, a3, a4, a5⟩ := h7
    exact ⟨a0, a1, a2, a3, a4, 0, by omega, rfl⟩
  have e20 : nI (2 * u + w) * 20 = nI ((2 * u + w) * 20) := nI_mu _ 20
  rw [e20]
  exact joinedX (by omega) h7' (fun r8 I8 hr8 o8 h8 => ⟨fun _ => hk 0 I8 (Or.inl rfl) ((o7.tr (OX.s (by omega))).tr o8) h8, fun _ => ⟨hin, hk 1 _ (Or.inr rfl) (((o7.tr (OX.s (by omega))).tr o8).tr (OX.s (by omega))) (h8.sA (by omega))⟩⟩)
theorem row_nat {v R : Int32} (hR : RB R 8) (h0 : ¬ v < 0) (h1 : ¬ (R - 1) < v) : RB v 7 := by
  obtain ⟨c, hc, rfl⟩ := hR
  have e1 : (1 : Int32).toInt = 1 := by decide
  have es : (nI c - 1).toInt = (c : Int) - 1 := by
    rw [Int32.toInt_sub, nI_toInt (by omega), e1]
    exact Int.bmod_eq_of_le (by omega) (by omega)
  obtain ⟨u, hu, eu⟩ := i_nat (l := v) (n := 7) (by omega) h0 (by
    rw [Int32.lt_iff_toInt_lt] at h1 ⊢
    have e7 : (nI 7).toInt = 7 := by decide
    omega)
  exact ⟨u, hu, eu⟩
theorem withinX {p q : Int32} {Q : Int32 → rI0 → rJ0 → Prop} (h : HI I) (k0 : ∀ I', OX I I' → HI I' → Q 0 I' J) (k1 : ¬ I 28 6 < p → ¬ q < I 28 6 → Q 1 I J) : wcI S d 76 [.ref 28, .int p, .int q] x I J Q := withinA h.1 (fun I' o1 t1 => k0 I' (OX.o o1) (h.o o1 t1)) k1
theorem readPriceX {Q : Int32 → rI0 → rJ0 → Prop} (h : HI I) (k : ∀ r I', (r = 0 ∨ r = 1) → OX I I' → HI I' → Q r I' J) : wcI S (d + 2) 44 [.ref 29] x I J Q := by
  refine c44_29 (readX h (fun I1 o1 h1 f1 => withinX h1 (fun I2 o2 h2 => ⟨fun _ => k 0 I2 (Or.inl rfl) (o1.tr o2) h2, fun z => absurd rfl z⟩) (fun b1 b2 => ⟨fun z => absurd z (by decide), fun _ => ⟨fun _ => ?_, fun _ => failX h1 (fun r I' hr o2 h2 => k r I' hr (o1.tr o2) h2)⟩⟩)))
  have hr : RB (I1 28 6) 7 := row_nat h1.2.1 b1 b2
  exact readX (h1.s29 (by decide)) (fun I3 o3 h3 _ => takeNumX h3 (fun I4 o4 h4 => ⟨fun _ => k 0 I4 (Or.inl rfl) (((o1.tr (OX.s (by omega))).tr o3).tr o4) h4, fun z => absurd rfl z⟩) (fun I4 o4 h4 => ⟨fun z => absurd z (by decide), fun _ => ⟨hr.mo (by omega) (by omega), k 1 _ (Or.inr rfl) ((((o1.tr (OX.s (by omega))).tr o3).tr o4).tr (OX.s (by omega))) (h4.sA (by omega))⟩⟩))
theorem readLeavesX {Q : Int32 → rI0 → rJ0 → Prop} (h : HI I) (k : ∀ r I', (r = 0 ∨ r = 1) → OX I I' → HI I' → Q r I' J) : wcI S (d + 2) 45 [.ref 29] x I J Q := by
  refine c45_29 (readX h (fun I1 o1 h1 f1 => withinX h1 (fun I2 o2 h2 => ⟨fun _ => k 0 I2 (Or.inl rfl) (o1.tr o2) h2, fun z => absurd rfl z⟩) (fun b1 b2 => ⟨fun z => absurd z (by decide), fun _ => ?_⟩)))
  have hr : RB (I1 28 6) 7 := row_nat h1.2.1 b1 b2
  have hin := hr.mo (m := 8) (by omega) (by omega)
  exact ⟨hin, fun _ => readX h1 (fun I3 o3 h3 _ => takeNumX h3 (fun I4 o4 h4 => ⟨fun _ => k 0 I4 (Or.inl rfl) ((o1.tr o3).tr o4) h4, fun z => absurd rfl z⟩) (fun I4 o4 h4 => ⟨fun z => absurd z (by decide), fun _ => ⟨hin, k 1 _ (Or.inr rfl) (((o1.tr o3).tr o4).tr (OX.s (by omega))) (h4.sA (by omega))⟩⟩)), fun _ => failX h1 (fun r I' hr o2 h2 => k r I' hr (o1.tr o2) h2)⟩
theorem readCarryX {Q : Int32 → rI0 → rJ0 → Prop} (h : HI I) (k : ∀ r I', (r = 0 ∨ r = 1) → OX I I' → HI I' → Q r I' J) : wcI S (d + 2) 46 [.ref 29] x I J Q :=
  c46_29 ⟨fun _ => readX (h.s29 (by decide)) (fun I1 o1 h1 _ => takeNumX h1 (fun I2 o2 h2 => ⟨fun _ => k 0 I2 (Or.inl rfl) (((OX.s (by omega)).tr o1).tr o2) h2, fun z => absurd rfl z⟩) (fun I2 o2 h2 => ⟨fun z => absurd z (by decide), fun _ => k 1 _ (Or.inr rfl) ((((OX.s (by omega)).tr o1).tr o2).tr (OX.s (by omega))) (h2.s16 (by omega))⟩)), fun _ => failX h k⟩
theorem readPaidX {Q : Int32 → rI0 → rJ0 → Prop} (h : HI I) (k : ∀ r I', (r = 0 ∨ r = 1) → OX I I' → HI I' → Q r I' J) : wcI S (d + 2) 47 [.ref 29] x I J Q :=
  c47_29 ⟨fun _ => readX (h.s29 (by decide)) (fun I1 o1 h1 _ => takeNumX h1 (fun I2 o2 h2 => ⟨fun _ => k 0 I2 (Or.inl rfl) (((OX.s (by omega)).tr o1).tr o2) h2, fun z => absurd rfl z⟩) (fun I2 o2 h2 => ⟨fun z => absurd z (by decide), fun _ => k 1 _ (Or.inr rfl) ((((OX.s (by omega)).tr o1).tr o2).tr (OX.s (by omega))) (h2.s16 (by omega))⟩)), fun _ => failX h k⟩
theorem readByRowX {Q : Int32 → rI0 → rJ0 → Prop} (h : HI I) (k : ∀ r I', (r = 0 ∨ r = 1) → OX I I' → HI I' → Q r I' J) : wcI S (d + 1) 48 [.ref 29] x I J Q := by
  refine c48_29 ⟨fun _ => ?_, fun _ => failX h k⟩
  have h' : HI (mSet I 16 4 1) := by
    obtain ⟨a0, a1, a2, a3, a4, a5⟩ := h
    exact ⟨a0, a1, a2, Or.inr rfl, a4, a5⟩
  exact readX h' (fun I1 o1 h1 _ => k 1 I1 (Or.inr rfl) ((OX.s (by omega)).tr o1) h1)
theorem semiX {Q : Int32 → rI0 → rJ0 → Prop} {r : Int32} (h : HI I) (k : ∀ r I', (r = 0 ∨ r = 1) → OX I I' → HI I' → Q r I' J) : (r = (0 : Int32) → Q (0 : Int32) I J) ∧ (¬ r = (0 : Int32) → (wcI S (d + 1) 78 [.ref 28, .int (59 : Int32)] x I J (fun r3 I3 J3 => ((r3 = (0 : Int32) → Q (0 : Int32) I3 J3) ∧ (¬ r3 = (0 : Int32) → Q (1 : Int32) I3 J3))))) :=
  ⟨fun _ => k 0 I (Or.inl rfl) OX.rf h, fun _ => passA h.1 (fun r2 I2 hr o2 t2 => ⟨fun _ => k 0 I2 (Or.inl rfl) (OX.o o2) (h.o o2 t2), fun _ => k 1 I2 (Or.inr rfl) (OX.o o2) (h.o o2 t2)⟩)⟩
theorem readLineX {Q : Int32 → rI0 → rJ0 → Prop} (h : HI I) (k : ∀ r I', (r = 0 ∨ r = 1) → OX I I' → HI I' → Q r I' J) : wcI S (d + 29) 37 [.ref 29] x I J Q := by
  have g : ∀ {I1 : rI0} (r : Int32), OX I I1 → HI I1 → (r = (0 : Int32) → Q (0 : Int32) I1 J) ∧ (¬ r = (0 : Int32) → (wcI S (d + 28) 78 [.ref 28, .int (59 : Int32)] x I1 J (fun r3 I3 J3 => ((r3 = (0 : Int32) → Q (0 : Int32) I3 J3) ∧ (¬ r3 = (0 : Int32) → Q (1 : Int32) I3 J3))))) := fun r o1 h1 => semiX h1 (fun r I' hr o2 h2 => k r I' hr (o1.tr o2) h2)
  refine c37_29 (amongA_1000001 (d := d + 20) h.1 (fun r1 _ => ⟨fun _ => failA h.1 (fun I' o1 t1 => g _ (OX.o o1) (h.o o1 t1)), fun _ => readRowX h (fun r I' hr o1 h1 => g r o1 h1), fun _ => readLawX (w := 0) (by omega) h (fun r I' hr o1 h1 => g r o1 h1), fun _ => readLawX (w := 1) (by omega) h (fun r I' hr o1 h1 => g r o1 h1), fun _ => readPriceX h (fun r I' hr o1 h1 => g r o1 h1), fun _ => readLeavesX h (fun r I' hr o1 h1 => g r o1 h1), fun _ => readCarryX h (fun r I' hr o1 h1 => g r o1 h1), fun _ => readPaidX h (fun r I' hr o1 h1 => g r o1 h1), fun _ => readByRowX h (fun r I' hr o1 h1 => g r o1 h1), trivial⟩))
end CR
end
section
section CW
variable {S : Nat × (Nat → Int32)} {d : Nat} {x : mX} {I : rI0} {J : rJ0}
theorem mSet_self {α : Type} (f : Nat → Nat → α) (n k : Nat) : mSet f n k (f n k) = f := by
  funext i j
  unfold mSet va_up
  by_cases h : i = n
  · subst h
    rw [if_pos rfl]
    split
    · rename_i h2
      rw [h2]
    · rfl
  · rw [if_neg h]
theorem sh1 : ∀ c, c < 64 → ((1 : Int64) <<< ((nI c).toInt64 &&& 63)).toBitVec = BitVec.twoPow 64 c := by decide +kernel
theorem SB_or {v w : Int64} {s : Nat} (h : SB (v ||| w) s) : SB v s ∨ SB w s := by
  unfold SB at h ⊢
  rw [Int64.toBitVec_or, BitVec.getLsbD_or, Bool.or_eq_true] at h
  exact h
theorem SB_1 {c s : Nat} (hc : c < 64) (h : SB ((1 : Int64) <<< ((nI c).toInt64 &&& 63)) s) : s = c := by
  unfold SB at h
  rw [sh1 c hc, BitVec.getLsbD_twoPow, Bool.and_eq_true] at h
  exact (of_decide_eq_true h.2).symm
theorem SB_0 {s : Nat} (h : SB (0 : Int64) s) : False := by
  unfold SB at h
  have e : (0 : Int64).toBitVec = 0#64 := rfl
  rw [e, BitVec.getLsbD_zero] at h
  cases h
theorem span_lp {l1 l2 l3 l6 : Int32} {Q : Int64 → rI0 → rJ0 → Prop} (h6 : l6.toInt ≤ 1000) (k : ∀ v, Q v I J) : ∀ (m : Nat) (l4 : Int64) (l7 : Int32), l6.toInt - l7.toInt < (m : Int) → wp S (d + 1) 34 40 [some (.ref 16), some (.int l1), some (.int l2), some (.int l3), some (.long l4), none, some (.int l6), some (.int l7)] [] (wv x I J) (rJ x Q) := by
  intro m
  induction m with
  | zero =>
    intro l4 l7 hm
    exact v34_16_40 ⟨fun _ => k _, fun q => absurd (by rw [Int32.lt_iff_toInt_lt]; omega) q⟩
  | succ m ih =>
    intro l4 l7 hm
    refine v34_16_40 ⟨fun _ => k _, fun q => ih _ (l7 + 1) ?_⟩
    rw [Int32.lt_iff_toInt_lt] at q
    have h2 := Int32.le_toInt l7
    have e : (1 : Int32).toInt = 1 := by decide
    have es : (l7 + 1).toInt = l7.toInt + 1 := by
      rw [Int32.toInt_add, e]
      exact Int.bmod_eq_of_le (by omega) (by omega)
    omega
theorem spanA {p1 p2 p3 : Int32} {Q : Int64 → rI0 → rJ0 → Prop} (h1 : RB (I 16 1) 8) (k : ∀ v, Q v I J) : wcJ S (d + 1) 34 [.ref 16, .int p1, .int p2, .int p3] x I J Q := by
  refine c34_16 ⟨fun _ => k _, fun _ => ⟨fun _ => ?_, fun _ => k _⟩⟩
  obtain ⟨C, hC, eC⟩ := h1
  have e1 : (1 : Int32).toInt = 1 := by decide
  have ec : (I 16 1 - 1).toInt = (C : Int) - 1 := by
    rw [eC, Int32.toInt_sub, nI_toInt (by omega), e1]
    exact Int.bmod_eq_of_le (by omega) (by omega)
  have h6 : (if (p2 + p3) < (I 16 1 - 1) then p2 + p3 else I 16 1 - 1).toInt ≤ 1000 := by
    split
    · rename_i z
      rw [Int32.lt_iff_toInt_lt, ec] at z
      omega
    · rw [ec]
      omega
  exact span_lp h6 k ((if (p2 + p3) < (I 16 1 - 1) then p2 + p3 else I 16 1 - 1).toInt - (if 0 < (p2 - p3) then p2 - p3 else 0).toInt + 1).toNat _ _ (by omega)
theorem areasA {s : Nat} {Q : rI0 → rJ0 → Prop} (hs : s < 64) (h0 : RB (I 16 0) 8) (h1 : RB (I 16 1) 8) (k : ∀ J', (∀ b, b ≠ 23 → J' b = J b) → Q I J') : wcV S (d + 2) 33 [.ref 16, .int (nI s)] x I J Q := by
  have m0 : ¬ mOut (nI s) 384 := nI_in (by omega) (by omega)
  have m1 : ∀ c : Nat, c ≤ 320 → ¬ mOut (nI c + nI s) 384 := fun c hc => by rw [nI_add]; exact nI_in (by omega) (by omega)
  refine c33_16 (rowOfA_16 h0 h1 (fun r1 _ => spanA h1 (fun r2 => spanA h1 (fun r3 => spanA h1 (fun r4 => spanA h1 (fun r5 => ⟨m0, m1 64 (by omega), m1 128 (by omega), spanA h1 (fun r6 => ⟨m1 192 (by omega), spanA h1 (fun r7 => spanA h1 (fun r8 => spanA h1 (fun r9 => ?_)))⟩)⟩))))))
  have f : ∀ v w, Q I (mSet (mSet (mSet (mSet (mSet (mSet J 23 (nI s).toNatClampNeg ((r4 ||| (r2 &&& (((1 : Int64) <<< ((nI s).toInt64 &&& 63)) ^^^ (-1 : Int64)))) ||| r5)) 23 ((64 : Int32) + nI s).toNatClampNeg r3) 23 ((128 : Int32) + nI s).toNatClampNeg (r2 &&& (((1 : Int64) <<< ((nI s).toInt64 &&& 63)) ^^^ (-1 : Int64)))) 23 ((192 : Int32) + nI s).toNatClampNeg r6) 23 ((256 : Int32) + nI s).toNatClampNeg v) 23 ((320 : Int32) + nI s).toNatClampNeg w) := fun v w => k _ (fun b hb => by rw [mSet_ne hb, mSet_ne hb, mSet_ne hb, mSet_ne hb, mSet_ne hb, mSet_ne hb])
  exact ⟨fun _ => ⟨m1 256 (by omega), m1 320 (by omega), f _ _⟩, fun _ => ⟨m1 256 (by omega), m1 320 (by omega), f _ _⟩⟩
theorem surv66 {Q : rI0 → rJ0 → Prop} (h0 : RB (I 16 0) 8) (h1 : RB (I 16 1) 8) : ∀ (m c : Nat) (J : rJ0), c + m = 64 → (∀ J', (∀ b, b ≠ 23 → J' b = J b) → Q I J') → wp S (d + 3) 32 66 [some (.ref 16), some (.int (nI c))] [] (wv x I J) (rV x Q) := by
  intro m
  induction m with
  | zero =>
    intro c J hc k
    have hc : c = 64 := by omega
    subst hc
    exact v32_16_66 ⟨fun q => absurd q (by decide), fun _ => k J (fun _ _ => rfl)⟩
  | succ m ih =>
    intro c J hc k
    refine v32_16_66 ⟨fun _ => isSeatA_16 ⟨fun _ => ?_, fun z => absurd rfl z⟩ (fun s hs es hb => ⟨fun z => absurd z (by decide), fun _ => areasA (by omega : c < 64) h0 h1 (fun J1 o1 => ?_)⟩), fun q => absurd (nI_lt (by omega) (by omega) : nI c < nI 64) q⟩
    · rw [← nI_succ]
      exact ih (c + 1) J (by omega) k
    · rw [← nI_succ]
      exact ih (c + 1) J1 (by omega) (fun J' o2 => k J' (fun b hb => (o2 b hb).trans (o1 b hb)))
theorem surv7 {R C : Nat} {Q : rI0 → rJ0 → Prop} (hR : R ≤ 8) (hC : C ≤ 8) (eR : I 16 0 = nI R) (eC : I 16 1 = nI C) : ∀ (m c : Nat) (J : rJ0), c + m = R * C → (∀ s, s < 64 → SB (J 16 5) s → ¬ I 17 s = -1) → (∀ J', (∀ b, b ≠ 16 → b ≠ 18 → b ≠ 23 → J' b = J b) → (∀ q, q ≠ 5 → J' 16 q = J 16 q) → (∀ s, s < 64 → SB (J' 16 5) s → ¬ I 17 s = -1) → Q I J') → wp S (d + 3) 32 7 [some (.ref 16), some (.int (nI c))] [] (wv x I J) (rV x Q) := by
  have hRC : R * C ≤ 64 := Nat.le_trans (Nat.mul_le_mul hR hC) (by omega)
  intro m
  induction m with
  | zero =>
    intro c J hc hb k
    have g : wp S (d + 3) 32 66 [some (.ref 16), some (.int 0)] [] (wv x I J) (rV x Q) := surv66 ⟨R, hR, eR⟩ ⟨C, hC, eC⟩ 64 0 J rfl (fun J' o1 => k J' (fun b h1 h2 h3 => o1 b h3) (fun q hq => congrFun (o1 16 (by decide)) q) (by rw [o1 16 (by decide)]; exact hb))
    exact v32_16_7 (c23_16 ⟨fun q => absurd q (by rw [eR, eC, nI_mu]; exact nI_nlt (by omega) (by omega)), fun _ => g⟩)
  | succ m ih =>
    intro c J hc hb k
    have hc64 : c < 64 := by omega
    refine v32_16_7 (c23_16 ⟨fun _ => ⟨fun _ => ⟨nI_in hc64 (by omega), setKindA_16 hc64 rfl (fun J2 o2 => ?_)⟩, fun q => absurd (nI_lt (by omega) (by omega) : nI c < nI 64) q⟩, fun q => absurd (by rw [eR, eC, nI_mu]; exact nI_lt (by omega) (by omega)) q⟩)
    rw [nI_clamp (by omega), mSet_self]
    have e5 : J2 16 5 = J 16 5 := by rw [o2 16 (by decide)]
    have go : ∀ v : Int64, (∀ s, s < 64 → SB (J2 16 5 ||| v) s → ¬ I 17 s = -1) → wp S (d + 3) 32 7 [some (.ref 16), some (.int (nI c + 1))] [] (wv x I (mSet J2 16 5 (J2 16 5 ||| v))) (rV x Q) := by
      intro v hv
      rw [← nI_succ]
      refine ih (c + 1) _ (by omega) hv (fun J' o3 q3 b3 => k J' (fun b h1 h2 h3 => ?_) (fun q hq => ?_) b3)
      · rw [o3 b h1 h2 h3, mSet_ne h1, o2 b h2]
      · rw [q3 q hq]
        show mSet J2 16 5 _ 16 q = J 16 q
        unfold mSet va_up
        rw [if_pos rfl, if_neg hq, o2 16 (by decide)]
    refine ⟨nI_in hc64 (by omega), fun _ => go _ (fun s hs hv => ?_), fun hk => go _ (fun s hs hv => ?_)⟩
    · rcases SB_or hv with z | z
      · rw [e5] at z
        exact hb s hs z
      · exact absurd z SB_0
    · rcases SB_or hv with z | z
      · rw [e5] at z
        exact hb s hs z
      · have := SB_1 hc64 z
        subst this
        exact hk
theorem surveyA {Q : rI0 → rJ0 → Prop} (h0 : RB (I 16 0) 8) (h1 : RB (I 16 1) 8) (k : ∀ J', (∀ b, b ≠ 16 → b ≠ 18 → b ≠ 23 → J' b = J b) → (∀ q, q ≠ 5 → J' 16 q = J 16 q) → (∀ s, s < 64 → SB (J' 16 5) s → ¬ I 17 s = -1) → Q I J') : wcV S (d + 3) 32 [.ref 16] x I J Q := by
  obtain ⟨R, hR, eR⟩ := h0
  obtain ⟨C, hC, eC⟩ := h1
  refine c32_16 (surv7 hR hC eR eC (R * C) 0 _ (by omega) (fun s hs hv => absurd hv SB_0) (fun J' o1 q1 b1 => k J' (fun b z1 z2 z3 => (o1 b z1 z2 z3).trans (mSet_ne z1)) (fun q hq => ?_) b1))
  rw [q1 q hq]
  show mSet J 16 5 0 16 q = J 16 q
  unfold mSet va_up
  rw [if_pos rfl, if_neg hq]
end CW
end
