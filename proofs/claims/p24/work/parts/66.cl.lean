section CL
variable {S : Nat × (Nat → Int32)} {d : Nat} {x : mX} {I : rI0} {J : rJ0}
theorem readX {Q : rI0 → rJ0 → Prop} (h : HI I) (k : ∀ I', OX I I' → HI I' → (∀ b, b ≠ 28 → I' b = I b) → Q I' J) : wcV S d 70 [.ref 28] x I J Q := readA h.1 (fun I' o1 t1 _ => k I' (OX.o o1) (h.o o1 t1) o1)
theorem takeNumX {p q : Int32} {Q : Int32 → rI0 → rJ0 → Prop} (h : HI I) (k0 : ∀ I', OX I I' → HI I' → Q 0 I' J) (k1 : ∀ I', OX I I' → HI I' → Q 1 I' J) : wcI S (d + 1) 77 [.ref 28, .int p, .int q] x I J Q :=
  takeNumA h.1 (fun I' o1 t1 => k0 I' (OX.o o1) (h.o o1 t1)) (fun v I' _ _ o1 t1 _ => k1 I' (OX.o o1) (h.o o1 t1))
theorem HI.s29 {k : Nat} {v : Int32} (h : HI I) (hk : k ≠ 2) : HI (mSet I 29 k v) := by
  obtain ⟨a0, a1, a2, a3, a4, a5⟩ := h
  refine ⟨a0, a1, a2, a3, a4, ?_⟩
  show RB (mSet I 29 k v 29 2) 20
  rw [mSet_fld (fun z => hk z.symm)]
  exact a5
theorem HI.sA {n k : Nat} {v : Int32} (h : HI I) (hn : 19 ≤ n ∧ n ≤ 22) : HI (mSet I n k v) := by
  obtain ⟨⟨ln, ed, st, pl, t1, t2, t3, t4, e1, e2, e5, e4⟩, a1, a2, a3, a4, a5⟩ := h
  unfold HI TV TP
  rw [mSet_ne (show 28 ≠ n by omega), mSet_ne (show 16 ≠ n by omega), mSet_ne (show 17 ≠ n by omega), mSet_ne (show 29 ≠ n by omega)]
  exact ⟨⟨ln, ed, st, pl, t1, t2, t3, t4, e1, e2, e5, e4⟩, a1, a2, a3, a4, a5⟩
theorem HI.s16 {k : Nat} {v : Int32} (h : HI I) (hk : k = 2 ∨ k = 3) : HI (mSet I 16 k v) := by
  obtain ⟨a0, a1, a2, a3, a4, a5⟩ := h
  refine ⟨a0, ?_, ?_, ?_, a4, a5⟩
  · show RB (mSet I 16 k v 16 0) 8
    rw [mSet_fld (by omega)]
    exact a1
  · show RB (mSet I 16 k v 16 1) 8
    rw [mSet_fld (by omega)]
    exact a2
  · show mSet I 16 k v 16 4 = 0 ∨ mSet I 16 k v 16 4 = 1
    rw [mSet_fld (by omega)]
    exact a3
theorem cmp37 {l1 : Int32} {Q : Int32 → rI0 → rJ0 → Prop} (h : HI I) (k : ∀ r I', (r = 0 ∨ r = 1) → OX I I' → HI I' → Q r I' J) : wp S (d + 2) 43 37 [some (.ref 29), some (.int l1)] [] (wv x I J) (rI x Q) :=
  v43_29_37 ⟨fun _ => failX h k, fun _ => ⟨fun _ => failX h k, fun _ => readX (h.s29 (by decide)) (fun I3 o3 h3 _ => takeNumX h3 (fun I4 o4 h4 => ⟨fun _ => k 0 I4 (Or.inl rfl) (((OX.s (by omega)).tr o3).tr o4) h4, fun z => absurd rfl z⟩) (fun I4 o4 h4 => ⟨fun z => absurd z (by decide), fun _ => k 1 _ (Or.inr rfl) ((((OX.s (by omega)).tr o3).tr o4).tr (OX.s (by omega))) (h4.s29 (by decide))⟩))⟩⟩
theorem compareA {p : Int32} {Q : Int32 → rI0 → rJ0 → Prop} (h : HI I) (k : ∀ r I', (r = 0 ∨ r = 1) → OX I I' → HI I' → Q r I' J) : wcI S (d + 2) 43 [.ref 29, .int p] x I J Q :=
  c43_29 ⟨fun _ => cmp37 (h.s29 (by decide)) (fun r I' hr o1 h1 => k r I' hr ((OX.s (by omega)).tr o1) h1), fun _ => takeNumX (h.s29 (by decide)) (fun I1 o1 h1 => ⟨fun _ => k 0 I1 (Or.inl rfl) ((OX.s (by omega)).tr o1) h1, fun z => absurd rfl z⟩) (fun I1 o1 h1 => ⟨fun z => absurd z (by decide), fun _ => cmp37 (h1.s29 (by decide)) (fun r I' hr o2 h2 => k r I' hr ((((OX.s (by omega)).tr o1).tr (OX.s (by omega))).tr o2) h2)⟩)⟩
theorem one188 {l1 l2 l3 l4 l5 l6 : Int32} {Q : Int32 → rI0 → rJ0 → Prop} (h : HI I) (hi : ¬ mOut (l1 + l5) 240) (k : ∀ r I', (r = 0 ∨ r = 1) → OX I I' → HI I' → Q r I' J) : wp S (d + 1) 42 188 [some (.ref 29), some (.int l1), some (.int l2), some (.int l3), some (.int l4), some (.int l5), some (.int l6)] [] (wv x I J) (rI x Q) :=
  v42_29_188 ⟨hi, k 1 _ (Or.inr rfl) (OX.s (by omega)) (h.sA (by omega))⟩
theorem join14 {l1 l2 : Int32} {Q : Int32 → rI0 → rJ0 → Prop} (r42 : ∀ (I : rI0) (p2 : Int32) {Q' : Int32 → rI0 → rJ0 → Prop}, HI I → (∀ r I', (r = 0 ∨ r = 1) → OX I I' → HI I' → Q' r I' J) → wcI S (d + 8) 42 [.ref 29, .int l1, .int p2, .int l2] x I J Q') : ∀ (m c : Nat) (I : rI0), c + m = 20 → HI I → (∀ r I', (r = 0 ∨ r = 1) → OX I I' → HI I' → Q r I' J) → wp S (d + 9) 41 14 [some (.ref 29), some (.int l1), some (.int l2), some (.int (nI c)), none] [] (wv x I J) (rI x Q) := by
  intro m
  induction m with
  | zero =>
    intro c I hc h k
    have hc : c = 20 := by omega
    subst hc
    exact v41_29_14 ⟨fun q => absurd q (by decide), fun _ => k 1 I (Or.inr rfl) OX.rf h⟩
  | succ m ih =>
    intro c I hc h k
    refine v41_29_14 ⟨fun _ => amongA_1000003 h.1 (fun r1 _ => ⟨fun _ => k 1 I (Or.inr rfl) OX.rf h, fun _ => readX h (fun I2 o2 h2 _ => r42 I2 r1 h2 (fun r3 I3 hr o3 h3 => ⟨fun e => k 0 I3 (Or.inl rfl) (o2.tr o3) h3, fun _ => ?_⟩))⟩), fun q => absurd (nI_lt (by omega) (by omega) : nI c < nI 20) q⟩
    rw [← nI_succ]
    exact ih (c + 1) I3 (by omega) h3 (fun r I' hr o4 h4 => k r I' hr ((o2.tr o3).tr o4) h4)
theorem joinX {l1 l2 : Int32} {Q : Int32 → rI0 → rJ0 → Prop} (r42 : ∀ (I : rI0) (p2 : Int32) {Q' : Int32 → rI0 → rJ0 → Prop}, HI I → (∀ r I', (r = 0 ∨ r = 1) → OX I I' → HI I' → Q' r I' J) → wcI S (d + 8) 42 [.ref 29, .int l1, .int p2, .int l2] x I J Q') (h : HI I) (k : ∀ r I', (r = 0 ∨ r = 1) → OX I I' → HI I' → Q r I' J) : wcI S (d + 9) 41 [.ref 29, .int l1, .int l2] x I J Q :=
  c41_29 (r42 I 0 h (fun r1 I1 hr o1 h1 => ⟨fun _ => k 0 I1 (Or.inl rfl) o1 h1, fun _ => join14 r42 20 0 I1 rfl h1 (fun r I' hr o2 h2 => k r I' hr (o1.tr o2) h2)⟩))
theorem oneX : ∀ (m d t : Nat), t + m = 9 → ∀ (u : Nat) (I : rI0) (p2 : Int32) {Q : Int32 → rI0 → rJ0 → Prop}, u ≤ 220 → HI I → (∀ r I', (r = 0 ∨ r = 1) → OX I I' → HI I' → Q r I' J) → wcI S (d + 2 * m + 10) 42 [.ref 29, .int (nI u), .int p2, .int (nI t)] x I J Q := by
  intro m
  induction m with
  | zero =>
    intro d t ht u I p2 Q hu h k
    have ht : t = 9 := by omega
    subst ht
    have g : ∀ s0 : Int32, wp S (d + 2 * 0 + 10) 42 26 [some (.ref 29), some (.int (nI u)), some (.int p2), some (.int (nI 9)), none, none, none] [.int s0] (wv x I J) (rI x Q) := fun s0 => v42_29_26 ⟨fun _ => failX h k, fun _ => ⟨fun _ => ⟨fun _ => failX h k, fun z => absurd (by decide) z⟩, fun _ => failX h k⟩⟩
    exact c42_29 ⟨fun _ => g _, fun _ => amongA_1000002 (d := d + 1) h.1 (fun r1 _ => g _)⟩
  | succ m ih =>
    intro d t ht u I p2 Q hu h k
    have g : ∀ s0 : Int32, wp S (d + 2 * (m + 1) + 9 + 1) 42 26 [some (.ref 29), some (.int (nI u)), some (.int p2), some (.int (nI t)), none, none, none] [.int s0] (wv x I J) (rI x Q) := by
      intro s0
      refine v42_29_26 ⟨fun _ => failX h k, fun _ => ⟨fun h20 => ⟨fun _ => failX h k, fun _ => ?_⟩, fun _ => failX h k⟩⟩
      obtain ⟨c, hc, ec⟩ := h.2.2.2.2.2.lt (m := 20) (by omega) (by omega) h20
      have h' : HI (mSet I 29 2 (I 29 2 + 1)) := by
        obtain ⟨a0, a1, a2, a3, a4, a5⟩ := h
        exact ⟨a0, a1, a2, a3, a4, c + 1, by omega, by show I 29 2 + 1 = _; rw [ec, nI_succ]⟩
      have hi : ¬ mOut (nI u + I 29 2) 240 := by rw [ec, nI_add]; exact nI_in (by omega) (by omega)
      have r42 : ∀ (I : rI0) (q2 : Int32) {Q' : Int32 → rI0 → rJ0 → Prop}, HI I → (∀ r I', (r = 0 ∨ r = 1) → OX I I' → HI I' → Q' r I' J) → wcI S (d + 2 * (m + 1) + 8) 42 [.ref 29, .int (nI u), .int q2, .int (nI t + 1)] x I J Q' := fun I q2 Q' h1 k1 => by
        have z := ih d (t + 1) (by omega) u I q2 hu h1 k1
        rw [nI_succ] at z
        exact z
      have r42' : ∀ (I : rI0) (q2 : Int32) {Q' : Int32 → rI0 → rJ0 → Prop}, HI I → (∀ r I', (r = 0 ∨ r = 1) → OX I I' → HI I' → Q' r I' J) → wcI S (d + 2 * (m + 1) + 9) 42 [.ref 29, .int (nI u), .int q2, .int (nI t + 1)] x I J Q' := fun I q2 Q' h1 k1 => by
        have z := ih (d + 1) (t + 1) (by omega) u I q2 hu h1 k1
        rw [nI_succ] at z
        rw [show d + 2 * (m + 1) + 9 = d + 1 + 2 * m + 10 by omega]
        exact z
      have o1 : OX I (mSet I 29 2 (I 29 2 + 1)) := OX.s (by omega)
      refine readX h' (fun I3 o3 h3 _ => ⟨fun _ => joinX r42 h3 (fun r4 I4 hr4 o4 h4 => ⟨fun _ => k 0 I4 (Or.inl rfl) ((o1.tr o3).tr o4) h4, fun _ => passA h4.1 (fun r5 I5 hr5 o5 t5 => ⟨fun _ => k 0 I5 (Or.inl rfl) (((o1.tr o3).tr o4).tr (OX.o o5)) (h4.o o5 t5), fun _ => one188 (h4.o o5 t5) hi (fun r I' hr o6 h6 => k r I' hr ((((o1.tr o3).tr o4).tr (OX.o o5)).tr o6) h6)⟩)⟩), fun _ => ⟨fun _ => r42' I3 0 h3 (fun r6 I6 hr6 o6 h6 => ⟨fun _ => k 0 I6 (Or.inl rfl) ((o1.tr o3).tr o6) h6, fun _ => one188 h6 hi (fun r I' hr o7 h7 => k r I' hr (((o1.tr o3).tr o6).tr o7) h7)⟩), fun _ => ⟨fun _ => compareA h3 (fun r7 I7 hr7 o7 h7 => ⟨fun _ => k 0 I7 (Or.inl rfl) ((o1.tr o3).tr o7) h7, fun _ => one188 h7 hi (fun r I' hr o8 h8 => k r I' hr (((o1.tr o3).tr o7).tr o8) h8)⟩), fun _ => compareA h3 (fun r7 I7 hr7 o7 h7 => ⟨fun _ => k 0 I7 (Or.inl rfl) ((o1.tr o3).tr o7) h7, fun _ => one188 h7 hi (fun r I' hr o8 h8 => k r I' hr (((o1.tr o3).tr o7).tr o8) h8)⟩)⟩⟩⟩)
    show wcI S (d + 2 * (m + 1) + 9 + 1) 42 _ x I J Q
    exact c42_29 ⟨fun _ => g _, fun _ => amongA_1000002 (d := d + 2 * (m + 1) + 1) h.1 (fun r1 _ => g _)⟩
theorem joinedX {u : Nat} {Q : Int32 → rI0 → rJ0 → Prop} (hu : u ≤ 220) (h : HI I) (k : ∀ r I', (r = 0 ∨ r = 1) → OX I I' → HI I' → Q r I' J) : wcI S (d + 27) 41 [.ref 29, .int (nI u), .int (1 : Int32)] x I J Q :=
  joinX (d := d + 18) (l2 := 1) (fun I p2 Q' h1 k1 => oneX 8 d 1 rfl u I p2 hu h1 k1) h k
end CL
