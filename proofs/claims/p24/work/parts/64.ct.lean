section CT
variable {S : Nat × (Nat → Int32)} {d : Nat} {x : mX} {I : rI0} {J : rJ0}
def O28 (I I' : rI0) : Prop := ∀ b, b ≠ 28 → I' b = I b
theorem O28.rf : O28 I I := fun _ _ => rfl
theorem O28.tr {I1 I2 : rI0} (h : O28 I I1) (h2 : O28 I1 I2) : O28 I I2 := fun b hb => (h2 b hb).trans (h b hb)
theorem O28.s {k : Nat} {v : Int32} : O28 I (mSet I 28 k v) := fun b hb => mSet_ne hb
/-- the tokens' four places -/
def TP (I : rI0) (ln ed st pl : Nat) : Prop := ln ≤ 940 ∧ ed ≤ ln ∧ st ≤ ln ∧ pl ≤ st ∧ I 28 1 = nI ln ∧ I 28 2 = nI ed ∧ I 28 5 = nI st ∧ I 28 4 = nI pl
abbrev K78 (I I' : rI0) : Prop := I' 28 8 = I 28 8 ∧ I' 28 7 = I 28 7
def TV (I : rI0) : Prop := ∃ ln ed st pl, TP I ln ed st pl
theorem read224 {ln ed st pl p q : Nat} {l3 : Int32} {Q : rI0 → rJ0 → Prop} (h : TP I ln ed st pl) (hpl : pl < ed) (hs : st = pl + p + q) (k : ∀ I', O28 I I' → TV I' → K78 I I' → Q I' J) : wp S d 70 224 [some (.ref 28), some (.int (nI p)), some (.int (nI q)), some (.int l3), none] [] (wv x I J) (rV x Q) := by
  obtain ⟨h1, h2, h3, h4, e1, e2, e5, e4⟩ := h
  have k1 : ∀ v, Q (mSet I 28 3 v) J := fun v => k _ O28.s ⟨ln, ed, st, pl, h1, h2, h3, h4, e1, e2, e5, e4⟩ ⟨rfl, rfl⟩
  have k2 : p + q = 0 → ∀ v, Q (mSet (mSet I 28 5 (I 28 5 + 1)) 28 3 v) J := fun z v => k _ (O28.s.tr O28.s) ⟨ln, ed, st + 1, pl, h1, h2, by omega, by omega, e1, e2, by show I 28 5 + 1 = _; rw [e5, nI_succ], e4⟩ ⟨rfl, rfl⟩
  have k3 : p + q = 0 → wp S d 70 270 [some (.ref 28), some (.int (nI p)), some (.int (nI q)), some (.int l3), none] [] (wv x (mSet I 28 5 (I 28 5 + 1)) J) (rV x Q) := fun z => v70_28_270 ⟨fun _ => k2 z _, fun _ => k2 z _⟩
  refine v70_28_224 ⟨fun z => ?_, fun _ => ⟨fun _ => ⟨fun _ => k1 _, fun _ => k1 _⟩, fun _ => ⟨fun _ => ⟨fun _ => k1 _, fun _ => k1 _⟩, fun _ => k1 _⟩⟩⟩
  have z : p + q = 0 := by
    rw [nI_add] at z
    rcases Nat.eq_zero_or_pos (p + q) with w | w
    · exact w
    · exact absurd z (nI_ne0 w (by omega))
  exact ⟨fun _ => k3 z, fun _ => ⟨fun _ => k3 z, fun _ => ⟨fun _ => k3 z, fun _ => ⟨fun _ => ⟨fun _ => k2 z _, fun _ => k2 z _⟩, fun _ => ⟨fun _ => ⟨fun _ => k2 z _, fun _ => k2 z _⟩, fun _ => k3 z⟩⟩⟩⟩⟩
theorem read119 {ln ed pl : Nat} {Q : rI0 → rJ0 → Prop} (hpl : pl < ed) : ∀ (m st p q : Nat) (l3 : Int32) (I : rI0), st + m = ln → TP I ln ed st pl → st = pl + p + q → (∀ I', O28 I I' → TV I' → K78 I I' → Q I' J) → wp S d 70 119 [some (.ref 28), some (.int (nI p)), some (.int (nI q)), some (.int l3), none] [] (wv x I J) (rV x Q) := by
  intro m
  induction m with
  | zero =>
    intro st p q l3 I hm h hs k
    exact v70_28_119 ⟨fun z => absurd z (by rw [h.2.2.2.2.1, h.2.2.2.2.2.2.1]; exact nI_nlt (by omega) (by have := h.1; omega)), fun _ => read224 h hpl hs k⟩
  | succ m ih =>
    intro st p q l3 I hm h hs k
    have hln := h.1
    have e1 := h.2.2.2.2.1
    have e5 := h.2.2.2.2.2.2.1
    have f := read224 (S := S) (d := d) (x := x) (l3 := l3) h hpl hs k
    have g : ∀ (p' q' : Nat) (I1 : rI0), TP I1 ln ed st pl → pl + p' + q' = st + 1 → (∀ I', O28 I1 I' → TV I' → K78 I1 I' → Q I' J) → wp S d 70 185 [some (.ref 28), some (.int (nI p')), some (.int (nI q')), some (.int l3), none] [] (wv x I1 J) (rV x Q) := by
      intro p' q' I1 h1 hs1 k1
      have a1 := h1.2.2.2.2.1
      have a5 := h1.2.2.2.2.2.2.1
      have t1 : TP (mSet I1 28 5 (I1 28 5 + 1)) ln ed (st + 1) pl := ⟨h1.1, h1.2.1, by omega, by omega, a1, h1.2.2.2.2.2.1, by show I1 28 5 + 1 = _; rw [a5, nI_succ], h1.2.2.2.2.2.2.2⟩
      have kk : ∀ I', O28 (mSet I1 28 5 (I1 28 5 + 1)) I' → TV I' → K78 (mSet I1 28 5 (I1 28 5 + 1)) I' → Q I' J := fun I' o1 t2 e8 => k1 I' (O28.s.tr o1) t2 ⟨e8.1, e8.2⟩
      refine v70_28_185 ⟨fun z => ⟨?_, ih (st + 1) p' q' _ _ (by omega) t1 hs1.symm kk⟩, fun _ => ih (st + 1) p' q' _ _ (by omega) t1 hs1.symm kk⟩
      rw [a5, a1, ← nI_succ] at z
      rw [a5, ← nI_succ]
      rcases Nat.lt_or_ge (st + 1) ln with w | w
      · exact nI_in (by omega) (by omega)
      · exact absurd z (nI_nlt w (by omega))
    have hh : wp S d 70 154 [some (.ref 28), some (.int (nI p)), some (.int (nI q)), some (.int l3), none] [] (wv x I J) (rV x Q) := by
      refine v70_28_154 ⟨fun _ => ?_, fun _ => ?_⟩
      · rw [← nI_succ]
        exact g p (q + 1) _ h (by omega) (fun I' o1 t2 e8 => k I' (O28.s.tr o1) t2 ⟨e8.1, e8.2⟩)
      · rw [← nI_succ]
        exact g (p + 1) q _ h (by omega) k
    exact v70_28_119 ⟨fun _ => ⟨fun _ => ⟨fun _ => f, fun _ => ⟨fun _ => f, fun _ => hh⟩⟩, fun _ => ⟨fun _ => ⟨fun _ => f, fun _ => ⟨fun _ => f, fun _ => hh⟩⟩, fun _ => hh⟩⟩, fun _ => f⟩
theorem read52 {ln ed st : Nat} {Q : rI0 → rJ0 → Prop} (h1 : ln ≤ 940) (h2 : ed ≤ ln) (h3 : st ≤ ln) (e1 : I 28 1 = nI ln) (e2 : I 28 2 = nI ed) (e5 : I 28 5 = nI st) (k : ∀ I', O28 I I' → TV I' → K78 I I' → Q I' J) : wp S d 70 52 [some (.ref 28), none, none, none, none] [] (wv x I J) (rV x Q) := by
  refine v70_28_52 ⟨fun z => ?_, fun z => ?_⟩
  · rw [e5, e2] at z
    have hs : st < ed := by
      rcases Nat.lt_or_ge st ed with w | w
      · exact w
      · exact absurd z (nI_nlt w (by omega))
    refine ⟨by rw [e5]; exact nI_in (by omega) (by omega), ?_⟩
    exact read119 (pl := st) hs (ln - st) st 0 0 _ _ (by omega) ⟨h1, h2, h3, by omega, e1, e2, e5, e5⟩ (by omega) (fun I' o1 t2 e8 => k I' ((O28.s.tr O28.s).tr o1) t2 ⟨e8.1, e8.2⟩)
  · rw [e5, e2] at z
    have hs : ed ≤ st := by
      rcases Nat.lt_or_ge st ed with w | w
      · exact absurd (nI_lt w (by omega)) z
      · exact w
    have f : ∀ v, Q (mSet (mSet I 28 4 (I 28 2)) 28 3 v) J := fun v => k _ (O28.s.tr O28.s) ⟨ln, ed, st, ed, h1, h2, h3, hs, e1, e2, e5, e2⟩ ⟨rfl, rfl⟩
    exact ⟨fun _ => f _, fun _ => f _⟩
theorem read_lpA {ln ed : Nat} {Q : rI0 → rJ0 → Prop} (h1 : ln ≤ 940) (h2 : ed ≤ ln) : ∀ (m st : Nat) (I : rI0), st + m = ln → I 28 1 = nI ln → I 28 2 = nI ed → I 28 5 = nI st → (∀ I', O28 I I' → TV I' → K78 I I' → Q I' J) → wp S d 70 0 [some (.ref 28), none, none, none, none] [] (wv x I J) (rV x Q) := by
  intro m
  induction m with
  | zero =>
    intro st I hm e1 e2 e5 k
    exact v70_28_0 ⟨fun z => absurd z (by rw [e1, e5]; exact nI_nlt (by omega) (by omega)), fun _ => read52 h1 h2 (by omega) e1 e2 e5 k⟩
  | succ m ih =>
    intro st I hm e1 e2 e5 k
    have hin : ¬ mOut (I 28 5) 940 := by rw [e5]; exact nI_in (by omega) (by omega)
    have g : wp S d 70 0 [some (.ref 28), none, none, none, none] [] (wv x (mSet I 28 5 (I 28 5 + 1)) J) (rV x Q) := ih (st + 1) _ (by omega) e1 e2 (by show I 28 5 + 1 = _; rw [e5, nI_succ]) (fun I' o1 t2 e8 => k I' (O28.s.tr o1) t2 ⟨e8.1, e8.2⟩)
    have f := read52 (S := S) (d := d) (x := x) (J := J) h1 h2 (by omega) e1 e2 e5 k
    exact v70_28_0 ⟨fun _ => ⟨hin, fun _ => g, fun _ => ⟨hin, fun _ => g, fun _ => f⟩⟩, fun _ => f⟩
theorem readA {Q : rI0 → rJ0 → Prop} (h : TV I) (k : ∀ I', O28 I I' → TV I' → K78 I I' → Q I' J) : wcV S d 70 [.ref 28] x I J Q := by
  obtain ⟨ln, ed, st, pl, h1, h2, h3, h4, e1, e2, e5, e4⟩ := h
  show wp S d 70 0 [some (.ref 28), none, none, none, none] [] (wv x I J) (rV x Q)
  exact read_lpA h1 h2 (ln - st) st I (by omega) e1 e2 e5 k
theorem openA {n : Nat} {lim : Int32} {Q : rI0 → rJ0 → Prop} (hn : n ≤ 940) (hl : lim = 900 ∨ lim = 400) (k : ∀ I', O28 I I' → TV I' → I' 28 8 = 0 → Q I' J) : wcV S (d + 1) 69 [.ref 28, .int (nI n), .int lim] x I J Q := by
  refine c69_28 ?_
  rw [if_neg (show ¬ (940 : Int32) < nI n from nI_nlt (b := n) (a := 940) (by omega) (by omega))]
  obtain ⟨ed, hed, ee⟩ : ∃ ed, ed ≤ n ∧ (if lim < nI n then lim else nI n) = nI ed := by
    by_cases z : lim < nI n
    · rw [if_pos z]
      rcases hl with rfl | rfl
      · rcases Nat.lt_or_ge n 900 with w | w
        · exact absurd z (nI_nlt (a := 900) (b := n) (by omega) (by omega))
        · exact ⟨900, w, rfl⟩
      · rcases Nat.lt_or_ge n 400 with w | w
        · exact absurd z (nI_nlt (a := 400) (b := n) (by omega) (by omega))
        · exact ⟨400, w, rfl⟩
    · rw [if_neg z]
      exact ⟨n, by omega, rfl⟩
  rw [ee]
  show wp S d 70 0 [some (.ref 28), none, none, none, none] [] (wv x (mSet (mSet (mSet (mSet I 28 1 (nI n)) 28 2 (nI ed)) 28 5 0) 28 8 0) J) (rV x Q)
  exact read_lpA hn hed n 0 _ (by omega) rfl rfl rfl (fun I' o1 t1 e8 => k I' (((O28.s.tr O28.s).tr (O28.s.tr O28.s)).tr o1) t1 e8.1)
theorem signA {c : Nat} {Q : Int32 → rI0 → rJ0 → Prop} (hc : c ≤ 100) (h : TV I) (k : ∀ v, Q v I J) : wcI S d 72 [.ref 28, .int (nI c)] x I J Q := by
  obtain ⟨ln, ed, st, pl, h1, h2, h3, h4, e1, e2, e5, e4⟩ := h
  refine c72_28 ⟨fun _ => k _, fun h0 => ⟨fun z => ⟨fun w => ⟨?_, k _⟩, fun _ => k _⟩, fun _ => k _⟩⟩
  rw [e4, nI_add] at w ⊢
  rcases Nat.lt_or_ge (pl + c) 940 with y | y
  · exact nI_in y (by omega)
  · exact absurd w (nI_nlt (b := 940) y (by omega))

theorem same_lp_1000001 {b : Nat} {Q : Int32 → rI0 → rJ0 → Prop} (hb : b + 8 ≤ 64) (h : TV I) (k : ∀ r, (r = 0 ∨ r = 1) → Q r I J) : ∀ m c : Nat, c + m = 8 → wp S (d + 7) 74 2 [some (.ref 28), some (.ref 1000001), some (.int (nI b)), some (.int (nI c))] [] (wv x I J) (rI x Q) := by
  intro m
  induction m with
  | zero =>
    intro c hc
    have hc : c = 8 := by omega
    subst hc
    exact v74_28_1000001_2 ⟨fun q => absurd q (by decide), fun _ => k 1 (Or.inr rfl)⟩
  | succ m ih =>
    intro c hc
    have z := ih (c + 1) (by omega)
    rw [nI_succ] at z
    refine v74_28_1000001_2 ⟨fun _ => ⟨fun _ => ⟨?_, signA (by omega) h (fun v => ⟨fun _ => z, fun _ => k 0 (Or.inl rfl)⟩)⟩, fun _ => k 1 (Or.inr rfl)⟩, fun _ => k 1 (Or.inr rfl)⟩
    rw [nI_add]
    exact nI_in (by omega) (by omega)
theorem among_lp_1000001 {Q : Int32 → rI0 → rJ0 → Prop} (h : TV I) (k : ∀ r, (r = -1 ∨ RB r 7) → Q r I J) : ∀ m c : Nat, c + m = 8 → wp S (d + 8) 73 12 [some (.ref 28), some (.ref 1000001), some (.int (nI (8 * c)))] [] (wv x I J) (rI x Q) := by
  intro m
  induction m with
  | zero =>
    intro c hc
    have hc : c = 8 := by omega
    subst hc
    exact v73_28_1000001_12 ⟨fun _ => k _ (Or.inl rfl), fun q => absurd (by decide) q⟩
  | succ m ih =>
    intro c hc
    refine v73_28_1000001_12 ⟨fun _ => k _ (Or.inl rfl), fun _ => c74_28_1000001 (same_lp_1000001 (b := 8 * c) (by omega) h (fun r _ => ⟨fun _ => ?_, fun _ => ⟨by decide, ?_⟩⟩) 8 0 rfl)⟩
    · show wp S (d + 8) 73 12 [some (.ref 28), some (.ref 1000001), some (.int (nI (8 * c) + nI 8))] [] (wv x I J) (rI x Q)
      rw [nI_add]
      exact ih (c + 1) (by omega)
    · show Q (nI (8 * c) / nI 8) I J
      rw [pk_div (by omega) (by omega) (by omega)]
      exact k _ (Or.inr ⟨8 * c / 8, by omega, rfl⟩)
theorem amongA_1000001 {Q : Int32 → rI0 → rJ0 → Prop} (h : TV I) (k : ∀ r, (r = -1 ∨ RB r 7) → Q r I J) : wcI S (d + 8) 73 [.ref 28, .ref 1000001] x I J Q :=
  c73_28_1000001 ⟨fun _ => among_lp_1000001 h k 8 0 rfl, fun _ => k _ (Or.inl rfl)⟩

theorem same_lp_1000002 {b : Nat} {Q : Int32 → rI0 → rJ0 → Prop} (hb : b + 8 ≤ 72) (h : TV I) (k : ∀ r, (r = 0 ∨ r = 1) → Q r I J) : ∀ m c : Nat, c + m = 8 → wp S (d + 7) 74 2 [some (.ref 28), some (.ref 1000002), some (.int (nI b)), some (.int (nI c))] [] (wv x I J) (rI x Q) := by
  intro m
  induction m with
  | zero =>
    intro c hc
    have hc : c = 8 := by omega
    subst hc
    exact v74_28_1000002_2 ⟨fun q => absurd q (by decide), fun _ => k 1 (Or.inr rfl)⟩
  | succ m ih =>
    intro c hc
    have z := ih (c + 1) (by omega)
    rw [nI_succ] at z
    refine v74_28_1000002_2 ⟨fun _ => ⟨fun _ => ⟨?_, signA (by omega) h (fun v => ⟨fun _ => z, fun _ => k 0 (Or.inl rfl)⟩)⟩, fun _ => k 1 (Or.inr rfl)⟩, fun _ => k 1 (Or.inr rfl)⟩
    rw [nI_add]
    exact nI_in (by omega) (by omega)
theorem among_lp_1000002 {Q : Int32 → rI0 → rJ0 → Prop} (h : TV I) (k : ∀ r, (r = -1 ∨ RB r 8) → Q r I J) : ∀ m c : Nat, c + m = 9 → wp S (d + 8) 73 12 [some (.ref 28), some (.ref 1000002), some (.int (nI (8 * c)))] [] (wv x I J) (rI x Q) := by
  intro m
  induction m with
  | zero =>
    intro c hc
    have hc : c = 9 := by omega
    subst hc
    exact v73_28_1000002_12 ⟨fun _ => k _ (Or.inl rfl), fun q => absurd (by decide) q⟩
  | succ m ih =>
    intro c hc
    refine v73_28_1000002_12 ⟨fun _ => k _ (Or.inl rfl), fun _ => c74_28_1000002 (same_lp_1000002 (b := 8 * c) (by omega) h (fun r _ => ⟨fun _ => ?_, fun _ => ⟨by decide, ?_⟩⟩) 8 0 rfl)⟩
    · show wp S (d + 8) 73 12 [some (.ref 28), some (.ref 1000002), some (.int (nI (8 * c) + nI 8))] [] (wv x I J) (rI x Q)
      rw [nI_add]
      exact ih (c + 1) (by omega)
    · show Q (nI (8 * c) / nI 8) I J
      rw [pk_div (by omega) (by omega) (by omega)]
      exact k _ (Or.inr ⟨8 * c / 8, by omega, rfl⟩)
theorem amongA_1000002 {Q : Int32 → rI0 → rJ0 → Prop} (h : TV I) (k : ∀ r, (r = -1 ∨ RB r 8) → Q r I J) : wcI S (d + 8) 73 [.ref 28, .ref 1000002] x I J Q :=
  c73_28_1000002 ⟨fun _ => among_lp_1000002 h k 9 0 rfl, fun _ => k _ (Or.inl rfl)⟩

theorem same_lp_1000003 {b : Nat} {Q : Int32 → rI0 → rJ0 → Prop} (hb : b + 8 ≤ 16) (h : TV I) (k : ∀ r, (r = 0 ∨ r = 1) → Q r I J) : ∀ m c : Nat, c + m = 8 → wp S (d + 7) 74 2 [some (.ref 28), some (.ref 1000003), some (.int (nI b)), some (.int (nI c))] [] (wv x I J) (rI x Q) := by
  intro m
  induction m with
  | zero =>
    intro c hc
    have hc : c = 8 := by omega
    subst hc
    exact v74_28_1000003_2 ⟨fun q => absurd q (by decide), fun _ => k 1 (Or.inr rfl)⟩
  | succ m ih =>
    intro c hc
    have z := ih (c + 1) (by omega)
    rw [nI_succ] at z
    refine v74_28_1000003_2 ⟨fun _ => ⟨fun _ => ⟨?_, signA (by omega) h (fun v => ⟨fun _ => z, fun _ => k 0 (Or.inl rfl)⟩)⟩, fun _ => k 1 (Or.inr rfl)⟩, fun _ => k 1 (Or.inr rfl)⟩
    rw [nI_add]
    exact nI_in (by omega) (by omega)
theorem among_lp_1000003 {Q : Int32 → rI0 → rJ0 → Prop} (h : TV I) (k : ∀ r, (r = -1 ∨ RB r 1) → Q r I J) : ∀ m c : Nat, c + m = 2 → wp S (d + 8) 73 12 [some (.ref 28), some (.ref 1000003), some (.int (nI (8 * c)))] [] (wv x I J) (rI x Q) := by
  intro m
  induction m with
  | zero =>
    intro c hc
    have hc : c = 2 := by omega
    subst hc
    exact v73_28_1000003_12 ⟨fun _ => k _ (Or.inl rfl), fun q => absurd (by decide) q⟩
  | succ m ih =>
    intro c hc
    refine v73_28_1000003_12 ⟨fun _ => k _ (Or.inl rfl), fun _ => c74_28_1000003 (same_lp_1000003 (b := 8 * c) (by omega) h (fun r _ => ⟨fun _ => ?_, fun _ => ⟨by decide, ?_⟩⟩) 8 0 rfl)⟩
    · show wp S (d + 8) 73 12 [some (.ref 28), some (.ref 1000003), some (.int (nI (8 * c) + nI 8))] [] (wv x I J) (rI x Q)
      rw [nI_add]
      exact ih (c + 1) (by omega)
    · show Q (nI (8 * c) / nI 8) I J
      rw [pk_div (by omega) (by omega) (by omega)]
      exact k _ (Or.inr ⟨8 * c / 8, by omega, rfl⟩)
theorem amongA_1000003 {Q : Int32 → rI0 → rJ0 → Prop} (h : TV I) (k : ∀ r, (r = -1 ∨ RB r 1) → Q r I J) : wcI S (d + 8) 73 [.ref 28, .ref 1000003] x I J Q :=
  c73_28_1000003 ⟨fun _ => among_lp_1000003 h k 2 0 rfl, fun _ => k _ (Or.inl rfl)⟩

theorem same_lp_1000004 {b : Nat} {Q : Int32 → rI0 → rJ0 → Prop} (hb : b + 8 ≤ 8) (h : TV I) (k : ∀ r, (r = 0 ∨ r = 1) → Q r I J) : ∀ m c : Nat, c + m = 8 → wp S (d + 7) 74 2 [some (.ref 28), some (.ref 1000004), some (.int (nI b)), some (.int (nI c))] [] (wv x I J) (rI x Q) := by
  intro m
  induction m with
  | zero =>
    intro c hc
    have hc : c = 8 := by omega
    subst hc
    exact v74_28_1000004_2 ⟨fun q => absurd q (by decide), fun _ => k 1 (Or.inr rfl)⟩
  | succ m ih =>
    intro c hc
    have z := ih (c + 1) (by omega)
    rw [nI_succ] at z
    refine v74_28_1000004_2 ⟨fun _ => ⟨fun _ => ⟨?_, signA (by omega) h (fun v => ⟨fun _ => z, fun _ => k 0 (Or.inl rfl)⟩)⟩, fun _ => k 1 (Or.inr rfl)⟩, fun _ => k 1 (Or.inr rfl)⟩
    rw [nI_add]
    exact nI_in (by omega) (by omega)
theorem among_lp_1000004 {Q : Int32 → rI0 → rJ0 → Prop} (h : TV I) (k : ∀ r, (r = -1 ∨ RB r 0) → Q r I J) : ∀ m c : Nat, c + m = 1 → wp S (d + 8) 73 12 [some (.ref 28), some (.ref 1000004), some (.int (nI (8 * c)))] [] (wv x I J) (rI x Q) := by
  intro m
  induction m with
  | zero =>
    intro c hc
    have hc : c = 1 := by omega
    subst hc
    exact v73_28_1000004_12 ⟨fun _ => k _ (Or.inl rfl), fun q => absurd (by decide) q⟩
  | succ m ih =>
    intro c hc
    refine v73_28_1000004_12 ⟨fun _ => k _ (Or.inl rfl), fun _ => c74_28_1000004 (same_lp_1000004 (b := 8 * c) (by omega) h (fun r _ => ⟨fun _ => ?_, fun _ => ⟨by decide, ?_⟩⟩) 8 0 rfl)⟩
    · show wp S (d + 8) 73 12 [some (.ref 28), some (.ref 1000004), some (.int (nI (8 * c) + nI 8))] [] (wv x I J) (rI x Q)
      rw [nI_add]
      exact ih (c + 1) (by omega)
    · show Q (nI (8 * c) / nI 8) I J
      rw [pk_div (by omega) (by omega) (by omega)]
      exact k _ (Or.inr ⟨8 * c / 8, by omega, rfl⟩)
theorem amongA_1000004 {Q : Int32 → rI0 → rJ0 → Prop} (h : TV I) (k : ∀ r, (r = -1 ∨ RB r 0) → Q r I J) : wcI S (d + 8) 73 [.ref 28, .ref 1000004] x I J Q :=
  c73_28_1000004 ⟨fun _ => among_lp_1000004 h k 1 0 rfl, fun _ => k _ (Or.inl rfl)⟩

theorem same_lp_1000005 {b : Nat} {Q : Int32 → rI0 → rJ0 → Prop} (hb : b + 8 ≤ 32) (h : TV I) (k : ∀ r, (r = 0 ∨ r = 1) → Q r I J) : ∀ m c : Nat, c + m = 8 → wp S (d + 7) 74 2 [some (.ref 28), some (.ref 1000005), some (.int (nI b)), some (.int (nI c))] [] (wv x I J) (rI x Q) := by
  intro m
  induction m with
  | zero =>
    intro c hc
    have hc : c = 8 := by omega
    subst hc
    exact v74_28_1000005_2 ⟨fun q => absurd q (by decide), fun _ => k 1 (Or.inr rfl)⟩
  | succ m ih =>
    intro c hc
    have z := ih (c + 1) (by omega)
    rw [nI_succ] at z
    refine v74_28_1000005_2 ⟨fun _ => ⟨fun _ => ⟨?_, signA (by omega) h (fun v => ⟨fun _ => z, fun _ => k 0 (Or.inl rfl)⟩)⟩, fun _ => k 1 (Or.inr rfl)⟩, fun _ => k 1 (Or.inr rfl)⟩
    rw [nI_add]
    exact nI_in (by omega) (by omega)
theorem among_lp_1000005 {Q : Int32 → rI0 → rJ0 → Prop} (h : TV I) (k : ∀ r, (r = -1 ∨ RB r 3) → Q r I J) : ∀ m c : Nat, c + m = 4 → wp S (d + 8) 73 12 [some (.ref 28), some (.ref 1000005), some (.int (nI (8 * c)))] [] (wv x I J) (rI x Q) := by
  intro m
  induction m with
  | zero =>
    intro c hc
    have hc : c = 4 := by omega
    subst hc
    exact v73_28_1000005_12 ⟨fun _ => k _ (Or.inl rfl), fun q => absurd (by decide) q⟩
  | succ m ih =>
    intro c hc
    refine v73_28_1000005_12 ⟨fun _ => k _ (Or.inl rfl), fun _ => c74_28_1000005 (same_lp_1000005 (b := 8 * c) (by omega) h (fun r _ => ⟨fun _ => ?_, fun _ => ⟨by decide, ?_⟩⟩) 8 0 rfl)⟩
    · show wp S (d + 8) 73 12 [some (.ref 28), some (.ref 1000005), some (.int (nI (8 * c) + nI 8))] [] (wv x I J) (rI x Q)
      rw [nI_add]
      exact ih (c + 1) (by omega)
    · show Q (nI (8 * c) / nI 8) I J
      rw [pk_div (by omega) (by omega) (by omega)]
      exact k _ (Or.inr ⟨8 * c / 8, by omega, rfl⟩)
theorem amongA_1000005 {Q : Int32 → rI0 → rJ0 → Prop} (h : TV I) (k : ∀ r, (r = -1 ∨ RB r 3) → Q r I J) : wcI S (d + 8) 73 [.ref 28, .ref 1000005] x I J Q :=
  c73_28_1000005 ⟨fun _ => among_lp_1000005 h k 4 0 rfl, fun _ => k _ (Or.inl rfl)⟩

theorem failA {p : Int32} {Q : Int32 → rI0 → rJ0 → Prop} (h : TV I) (k : ∀ I', O28 I I' → TV I' → Q 0 I' J) : wcI S d 75 [.ref 28, .int p] x I J Q := c75_28 (k _ O28.s h)
theorem withinA {p q : Int32} {Q : Int32 → rI0 → rJ0 → Prop} (h : TV I) (k0 : ∀ I', O28 I I' → TV I' → Q 0 I' J) (k1 : ¬ I 28 6 < p → ¬ q < I 28 6 → Q 1 I J) : wcI S d 76 [.ref 28, .int p, .int q] x I J Q := by
  have f : ∀ v, Q 0 (mSet I 28 8 v) J := fun v => k0 _ O28.s h
  exact c76_28 ⟨fun _ => ⟨fun _ => ⟨fun z => absurd z (by decide), fun _ => f _⟩, fun h1 => ⟨fun _ => ⟨fun z => absurd z (by decide), fun _ => f _⟩, fun h2 => ⟨fun _ => k1 h1 h2, fun _ => k0 _ O28.rf h⟩⟩⟩, fun _ => ⟨fun z => absurd z (by decide), fun _ => f _⟩⟩
theorem takeNumA {p q : Int32} {Q : Int32 → rI0 → rJ0 → Prop} (h : TV I) (k0 : ∀ I', O28 I I' → TV I' → Q 0 I' J) (k1 : ∀ v I', ¬ v < p → ¬ q < v → O28 I I' → TV I' → I' 28 7 = v → Q 1 I' J) : wcI S (d + 1) 77 [.ref 28, .int p, .int q] x I J Q := by
  exact c77_28 (withinA h (fun I1 o1 t1 => ⟨fun _ => k0 I1 o1 t1, fun z => absurd rfl z⟩) (fun h1 h2 => ⟨fun z => absurd z (by decide), fun _ => readA h (fun I' o1 t1 e8 => k1 (I 28 6) I' h1 h2 (O28.s.tr o1) t1 e8.2)⟩))
theorem passA {p : Int32} {Q : Int32 → rI0 → rJ0 → Prop} (h : TV I) (k : ∀ r I', (r = 0 ∨ r = 1) → O28 I I' → TV I' → Q r I' J) : wcI S (d + 1) 78 [.ref 28, .int p] x I J Q :=
  c78_28 ⟨fun _ => readA h (fun I' o1 t1 _ => k 1 I' (Or.inr rfl) o1 t1), fun _ => failA h (fun I' o1 t1 => ⟨Or.inl rfl, k 0 I' (Or.inl rfl) o1 t1⟩)⟩

end CT
