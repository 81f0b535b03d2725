section CZ0
variable {S : Nat × (Nat → Int32)} {d : Nat} {x : mX} {I I0 : rI0} {J J0 : rJ0} {t : Int32}
theorem mSet_x {α : Type} {f : Nat → Nat → α} {n k a b : Nat} {v : α} (h : ¬ (a = n ∧ b = k)) : mSet f n k v a b = f a b := by
  unfold mSet va_up
  by_cases e : a = n
  · subst e
    rw [if_pos rfl, if_neg (fun z => h ⟨rfl, z⟩)]
  · rw [if_neg e]
def CZ (I0 : rI0) (J0 : rJ0) (t : Int32) (I : rI0) (J : rJ0) : Prop := CV I J ∧ UN I0 J0 I J ∧ I 1 1 = t
theorem CZ.bnd (h : CZ I0 J0 t I J) : (0 ≤ (I 1 1).toInt ∧ (I 1 1).toInt ≤ 940) ∧ (0 ≤ (I 4 0).toInt ∧ (I 4 0).toInt ≤ 8) ∧ (0 ≤ (I 4 1).toInt ∧ (I 4 1).toInt ≤ 8) ∧ (0 ≤ (I 3 4).toInt ∧ (I 3 4).toInt ≤ 30) ∧ (0 ≤ (I 15 4).toInt ∧ (I 15 4).toInt ≤ 30) ∧ (0 ≤ (I 37 7).toInt ∧ (I 37 7).toInt ≤ 8) ∧ (0 ≤ (I 31 6).toInt ∧ (I 31 6).toInt ≤ 601) := by
  obtain ⟨⟨c1, c4, c16, c3, c15, c31, c36, c41, c42, c37, c29⟩, -, -⟩ := h
  exact ⟨c1.i (by omega), c4.1.i (by omega), c4.2.1.i (by omega), c3.i (by omega), c15.i (by omega), c37.i (by omega), c31.i (by omega)⟩
theorem CZ.si {n k : Nat} {v : Int32} (h : CZ I0 J0 t I J) (hf : n < 43 ∧ ¬ (n = 0 ∧ k = 9) ∧ ¬ (2 ≤ n ∧ n ≤ 4) ∧ ¬ (7 ≤ n ∧ n ≤ 14) ∧ n ≠ 2 ∧ n ≠ 5 ∧ n ≠ 17 ∧ ¬ (n = 1 ∧ k = 1) ∧ ¬ (n = 4 ∧ (k = 0 ∨ k = 1 ∨ k = 4)) ∧ ¬ (n = 16 ∧ (k = 0 ∨ k = 1 ∨ k = 4)) ∧ ¬ (n = 3 ∧ k = 4) ∧ ¬ (n = 15 ∧ k = 4) ∧ ¬ (n = 31 ∧ k = 6) ∧ ¬ ((n = 36 ∨ n = 41 ∨ n = 42) ∧ k = 3) ∧ ¬ (n = 37 ∧ k = 7) ∧ ¬ (n = 29 ∧ k = 2)) : CZ I0 J0 t (mSet I n k v) J := by
  obtain ⟨⟨c1, c4, c16, c3, c15, c31, c36, c41, c42, c37, c29⟩, u, e⟩ := h
  refine ⟨?_, ⟨fun b hb => ?_, u.2.1, by rw [mSet_x (a := 0) (b := 9) (fun z => by obtain ⟨rfl, rfl⟩ := z; revert hf; decide)]; exact u.2.2⟩, ?_⟩
  · unfold CV HV at *
    have e5 : ∀ s, mSet I n k v 5 s = I 5 s := fun s => mSet_x (fun z => hf.2.2.2.2.2.1 z.1.symm)
    have e17 : ∀ s, mSet I n k v 17 s = I 17 s := fun s => mSet_x (fun z => hf.2.2.2.2.2.2.1 z.1.symm)
    simp only [e5, e17]
    rw [mSet_x (a := 1) (b := 1) (fun z => by obtain ⟨rfl, rfl⟩ := z; revert hf; decide), mSet_x (a := 4) (b := 0) (fun z => by obtain ⟨rfl, rfl⟩ := z; revert hf; decide), mSet_x (a := 4) (b := 1) (fun z => by obtain ⟨rfl, rfl⟩ := z; revert hf; decide), mSet_x (a := 4) (b := 4) (fun z => by obtain ⟨rfl, rfl⟩ := z; revert hf; decide), mSet_x (a := 16) (b := 0) (fun z => by obtain ⟨rfl, rfl⟩ := z; revert hf; decide), mSet_x (a := 16) (b := 1) (fun z => by obtain ⟨rfl, rfl⟩ := z; revert hf; decide), mSet_x (a := 16) (b := 4) (fun z => by obtain ⟨rfl, rfl⟩ := z; revert hf; decide), mSet_x (a := 3) (b := 4) (fun z => by obtain ⟨rfl, rfl⟩ := z; revert hf; decide), mSet_x (a := 15) (b := 4) (fun z => by obtain ⟨rfl, rfl⟩ := z; revert hf; decide), mSet_x (a := 31) (b := 6) (fun z => by obtain ⟨rfl, rfl⟩ := z; revert hf; decide), mSet_x (a := 36) (b := 3) (fun z => by obtain ⟨rfl, rfl⟩ := z; revert hf; decide), mSet_x (a := 41) (b := 3) (fun z => by obtain ⟨rfl, rfl⟩ := z; revert hf; decide), mSet_x (a := 42) (b := 3) (fun z => by obtain ⟨rfl, rfl⟩ := z; revert hf; decide), mSet_x (a := 37) (b := 7) (fun z => by obtain ⟨rfl, rfl⟩ := z; revert hf; decide), mSet_x (a := 29) (b := 2) (fun z => by obtain ⟨rfl, rfl⟩ := z; revert hf; decide)]
    exact ⟨c1, c4, c16, c3, c15, c31, c36, c41, c42, c37, c29⟩
  · have a1 := hf.1
    have a3 := hf.2.2.1
    have a4 := hf.2.2.2.1
    clear hf
    rw [mSet_ne (by omega)]
    exact u.1 b hb
  · rw [mSet_x (a := 1) (b := 1) (fun z => by obtain ⟨rfl, rfl⟩ := z; revert hf; decide)]
    exact e
theorem CZ.sj {n k : Nat} {v : Int64} (h : CZ I0 J0 t I J) (hf : n < 43 ∧ n ≠ 4 ∧ n ≠ 16 ∧ ¬ (7 ≤ n ∧ n ≤ 14)) : CZ I0 J0 t I (mSet J n k v) := by
  obtain ⟨⟨c1, c4, c16, c3, c15, c31, c36, c41, c42, c37, c29⟩, u, e⟩ := h
  refine ⟨?_, ⟨u.1, fun b hb => ?_, u.2.2⟩, e⟩
  · unfold CV HV at *
    rw [mSet_ne (show 4 ≠ n by omega), mSet_ne (show 16 ≠ n by omega)]
    exact ⟨c1, c4, c16, c3, c15, c31, c36, c41, c42, c37, c29⟩
  · rw [mSet_ne (by omega)]
    exact u.2.1 b hb
theorem CZ.s15 {v : Int32} (h : CZ I0 J0 t I J) (hv : 0 ≤ v.toInt ∧ v.toInt ≤ 30) : CZ I0 J0 t (mSet I 15 4 v) J := by
  obtain ⟨⟨c1, c4, c16, c3, c15, c31, c36, c41, c42, c37, c29⟩, u, e⟩ := h
  exact ⟨⟨c1, c4, c16, c3, i_nI hv.1 hv.2 (by omega), c31, c36, c41, c42, c37, c29⟩, ⟨fun b hb => by rw [mSet_ne (by omega)]; exact u.1 b hb, u.2⟩, e⟩
theorem CZ.s37 {v : Int32} (h : CZ I0 J0 t I J) (hv : 0 ≤ v.toInt ∧ v.toInt ≤ 8) : CZ I0 J0 t (mSet I 37 7 v) J := by
  obtain ⟨⟨c1, c4, c16, c3, c15, c31, c36, c41, c42, c37, c29⟩, u, e⟩ := h
  exact ⟨⟨c1, c4, c16, c3, c15, c31, c36, c41, c42, i_nI hv.1 hv.2 (by omega), c29⟩, ⟨fun b hb => by rw [mSet_ne (by omega)]; exact u.1 b hb, u.2⟩, e⟩
theorem CZ.of {I1 I' : rI0} {J1 J' : rJ0} (h : CZ I0 J0 t I1 J1) (c : CV I' J') (u : UN I1 J1 I' J') (e : I' 1 1 = I1 1 1) : CZ I0 J0 t I' J' := ⟨c, h.2.1.tr u, e.trans h.2.2⟩
theorem CZ.o41 {I' : rI0} {J' : rJ0} (h : CZ I0 J0 t I J) (o1 : Off 41 I J I' J') (n1 : RB (I' 41 3) 30) : CZ I0 J0 t I' J' := h.of (h.1.n41 o1 n1) (UN.n (by omega) o1) (by rw [o1.1 1 (by decide)])
theorem CV.n42 {I' : rI0} {J' : rJ0} (h : CV I J) (o1 : Off 42 I J I' J') (n1 : RB (I' 42 3) 30) : CV I' J' := h.nt (fun b hb => o1.1 b (by omega)) (fun b hb => o1.2 b (by omega)) (by rw [o1.1 31 (by decide)]; exact h.2.2.2.2.2.1) (by rw [o1.1 36 (by decide)]; exact h.2.2.2.2.2.2.1) (by rw [o1.1 41 (by decide)]; exact h.2.2.2.2.2.2.2.1) n1
theorem CZ.o42 {I' : rI0} {J' : rJ0} (h : CZ I0 J0 t I J) (o1 : Off 42 I J I' J') (n1 : RB (I' 42 3) 30) : CZ I0 J0 t I' J' := h.of (h.1.n42 o1 n1) (UN.n (by omega) o1) (by rw [o1.1 1 (by decide)])
theorem CZ.od {I' : rI0} {J' : rJ0} (h : CZ I0 J0 t I J) (o1 : OffD I J I' J') (n1 : DB I') : CZ I0 J0 t I' J' := h.of (h.1.dd o1 n1) (UN.dd o1) (by rw [o1.1 1 (by omega)])
theorem CZ.o28 {I' : rI0} (h : CZ I0 J0 t I J) (o1 : O28 I I') : CZ I0 J0 t I' J := by
  refine h.of ?_ ⟨fun b hb => o1 b (by omega), fun _ _ => rfl, by rw [o1 0 (by decide)]⟩ (by rw [o1 1 (by decide)])
  obtain ⟨⟨c1, c4, c16, c3, c15, c31, c36, c41, c42, c37, c29⟩, u, e⟩ := h
  unfold CV HV at *
  rw [o1 1 (by decide), o1 4 (by decide), o1 5 (by decide), o1 16 (by decide), o1 17 (by decide), o1 3 (by decide), o1 15 (by decide), o1 31 (by decide), o1 36 (by decide), o1 41 (by decide), o1 42 (by decide), o1 37 (by decide), o1 29 (by decide)]
  exact ⟨c1, c4, c16, c3, c15, c31, c36, c41, c42, c37, c29⟩
/-! specs -/
theorem zReach {p : Int32} {Q : Int32 → rI0 → rJ0 → Prop} (h : CZ I0 J0 t I J) (k : ∀ r I J, CZ I0 J0 t I J → 0 ≤ r.toInt ∧ r.toInt ≤ 600 → Q r I J) : wcI S (d + 23) 7 [.ref 31, .int p] x I J Q := reachA h.1.db (fun r I1 J1 hr o1 d1 => k r I1 J1 (h.od o1 d1) (hr.i (by omega)))
theorem zUp {p : Int32} {Q : Int32 → rI0 → rJ0 → Prop} (h : CZ I0 J0 t I J) (k : ∀ r, r.toInt = 0 ∨ r.toInt = 1 → Q r I J) : wcI S (d + 1) 9 [.ref 31, .int p] x I J Q := isUpA h.1.db.1 (fun r hr => k r (by rcases hr with rfl | rfl <;> decide))
theorem zHeight {Q : Int32 → rI0 → rJ0 → Prop} (h : CZ I0 J0 t I J) (k : ∀ r I J, CZ I0 J0 t I J → Q r I J) : wcI S (d + 24) 10 [.ref 31] x I J Q := heightDA h.1.db (fun v I1 J1 o1 d1 => k v I1 J1 (h.od o1 d1))
theorem zBehind {p : Int32} {Q : Int32 → rI0 → rJ0 → Prop} (h : CZ I0 J0 t I J) (hp : 0 ≤ p.toInt ∧ p.toInt ≤ 600) (k : ∀ r I J, CZ I0 J0 t I J → Q r I J) : wcI S (d + 24) 11 [.ref 31, .int p] x I J Q := by
  obtain ⟨c, hc, rfl⟩ := i_nI (n := 600) hp.1 hp.2 (by omega)
  exact likeBehindA hc h.1.db (fun v I1 J1 o1 d1 => k v I1 J1 (h.od o1 d1))
theorem zHOf {p q : Int64} {e : Int32} {Q : Int32 → rI0 → rJ0 → Prop} (h : CZ I0 J0 t I J) (k : ∀ r I' J', CZ I0 J0 t I' J' → I' 5 = I 5 → Q r I' J') : wcI S (d + 23) 54 [.ref 41, .long p, .long q, .int e] x I J Q := heightOfA h.1.2.1.1 h.1.2.2.2.1 (fun v I1 J1 o1 n1 => k v I1 J1 (h.o41 o1 n1) (o1.1 5 (by decide)))
theorem zBegin41 {p q : Int64} {Q : rI0 → rJ0 → Prop} (h : CZ I0 J0 t I J) (k : ∀ I J, CZ I0 J0 t I J → Q I J) : wcV S (d + 3) 52 [.ref 41, .long p, .long q] x I J Q := beginA_41 h.1.2.1.1 h.1.2.2.2.1 (fun I1 J1 o1 n1 => k I1 J1 (h.o41 o1 n1))
theorem zBegin42 {p q : Int64} {Q : rI0 → rJ0 → Prop} (h : CZ I0 J0 t I J) (k : ∀ I J, CZ I0 J0 t I J → Q I J) : wcV S (d + 3) 52 [.ref 42, .long p, .long q] x I J Q := beginA_42 h.1.2.1.1 h.1.2.2.2.1 (fun I1 J1 o1 n1 => k I1 J1 (h.o42 o1 n1))
theorem zGo41 {p : Int32} {Q : rI0 → rJ0 → Prop} (h : CZ I0 J0 t I J) (k : ∀ I J, CZ I0 J0 t I J → Q I J) : wcV S (d + 23) 53 [.ref 41, .int p] x I J Q := goToA_41 h.1.2.1.1 h.1.2.2.2.2.2.2.2.1 (fun I1 J1 o1 n1 => k I1 J1 (h.o41 o1 n1))
theorem zGo42 {p : Int32} {Q : rI0 → rJ0 → Prop} (h : CZ I0 J0 t I J) (k : ∀ I J, CZ I0 J0 t I J → Q I J) : wcV S (d + 23) 53 [.ref 42, .int p] x I J Q := goToA_42 h.1.2.1.1 h.1.2.2.2.2.2.2.2.2.1 (fun I1 J1 o1 n1 => k I1 J1 (h.o42 o1 n1))
theorem zBits {p : Int64} {Q : Int32 → rI0 → rJ0 → Prop} (k : ∀ r : Int32, -2147483648 ≤ r.toInt ∧ r.toInt < 2147483648 → Q r I J) : wcI S d 250 [.long p] x I J Q := bcA (fun r => k r (i_rng r))
theorem zBit {p : Int64} {q : Int32} {Q : Int32 → rI0 → rJ0 → Prop} (k : ∀ r, Q r I J) : wcI S d 142 [.long p, .int q] x I J Q := c142 (k _)
theorem zWith {p : Int64} {s q : Int32} {Q : Int64 → rI0 → rJ0 → Prop} (k : ∀ r, Q r I J) : wcJ S d 143 [.long p, .int s, .int q] x I J Q := wbA k
theorem zBc {p : Int32} {Q : Int32 → rI0 → rJ0 → Prop} (k : ∀ r, Q r I J) : wcI S d 249 [.int p] x I J Q := c249 (k _)
theorem zMom {p : Int32} {Q : Int32 → rI0 → rJ0 → Prop} (k : ∀ r, (r.toInt = 0 ∨ (r.toInt = 1 ∧ 0 ≤ p.toInt ∧ p.toInt ≤ 600)) → Q r I J) : wcI S d 141 [.int p] x I J Q := c141 ⟨fun _ => k _ (Or.inl (by decide)), fun a => ⟨fun _ => k _ (Or.inl (by decide)), fun b => k _ (Or.inr ⟨by decide, i_nlt a, i_nlt b⟩)⟩⟩
theorem zSeat {p : Int32} {Q : Int32 → rI0 → rJ0 → Prop} (h : CZ I0 J0 t I J) (k : ∀ r, (r.toInt = 0 ∨ (r.toInt = 1 ∧ 0 ≤ p.toInt ∧ p.toInt < 64 ∧ 0 ≤ (I 5 p.toNatClampNeg).toInt ∧ (I 5 p.toNatClampNeg).toInt ≤ 5)) → Q r I J) : wcI S d 24 [.ref 4, .int p] x I J Q := by
  refine isSeatA_4 (k 0 (Or.inl (by decide))) (fun s hs e hb => k 1 (Or.inr ?_))
  subst e
  have hk := h.1.2.1.2.2.2.1 s hs
  have hn := h.1.2.1.2.2.2.2 s hs hb
  rw [nI_clamp (by omega), nI_toInt (by omega)]
  rcases hk with hk | hk
  · exact absurd hk hn
  · have := hk.i (by omega)
    exact ⟨by decide, by omega, by omega, this.1, this.2⟩
theorem zPrice {p : Int32} {Q : Int32 → rI0 → rJ0 → Prop} (h : CZ I0 J0 t I J) (k : ∀ r, Q r I J) : wcI S (d + 2) 26 [.ref 4, .int p] x I J Q := priceOfA h.1.2.1.1 h.1.2.1.2.1 k
theorem zLeaves {p : Int32} {Q : Int32 → rI0 → rJ0 → Prop} (h : CZ I0 J0 t I J) (k : ∀ r, Q r I J) : wcI S (d + 2) 27 [.ref 4, .int p] x I J Q := leavesOfA h.1.2.1.1 h.1.2.1.2.1 k
theorem zCells {Q : Int32 → rI0 → rJ0 → Prop} (k : ∀ r, Q r I J) : wcI S d 23 [.ref 4] x I J Q := c23_4 (k _)
theorem CZ.fg (h : CZ I0 J0 t I J) : CZ I0 J0 t (mSet I 31 6 0) J := h.of h.1.f ⟨fun b hb => mSet_ne (by omega), fun _ _ => rfl, rfl⟩ rfl
theorem zForget {Q : rI0 → rJ0 → Prop} (h : CZ I0 J0 t I J) (k : ∀ I J, CZ I0 J0 t I J → Q I J) : wcV S d 6 [.ref 31] x I J Q := c6_31 (k _ _ h.fg)
theorem zTake {Q : Int32 → rI0 → rJ0 → Prop} (h : CZ I0 J0 t I J) (k : ∀ r I J, CZ I0 J0 0 I J → 0 ≤ r.toInt ∧ r.toInt ≤ 940 → Q r I J) : wcI S d 67 [.ref 1] x I J Q := by
  refine c67_1 (k _ _ _ ?_ (h.1.1.i (by omega)))
  obtain ⟨⟨c1, c4, c16, c3, c15, c31, c36, c41, c42, c37, c29⟩, u, e⟩ := h
  exact ⟨⟨⟨0, by omega, rfl⟩, c4, c16, c3, c15, c31, c36, c41, c42, c37, c29⟩, ⟨fun b hb => by rw [mSet_ne (by omega)]; exact u.1 b hb, u.2⟩, rfl⟩
theorem zLarge {Q : Int32 → rI0 → rJ0 → Prop} (k : ∀ r, Q r I J) : wcI S (d + 1) 140 [.ref 0] x I J Q := c140_0 (bcA (fun v => ⟨fun _ => k _, fun _ => k _⟩))
theorem CZ.kd {s u : Nat} {J' : rJ0} (h : CZ I0 J0 t I J) (hs : s < 64) (hu : u < 64) (h1 : 0 ≤ (I 5 s).toInt ∧ (I 5 s).toInt ≤ 5) (h2 : 0 ≤ (I 5 u).toInt ∧ (I 5 u).toInt ≤ 5) (hJ : ∀ b, b ≠ 6 → J' b = J b) : CZ I0 J0 t (mSet (mSet I 5 s (I 5 u)) 5 u (I 5 s)) J' := by
  refine h.of ?_ ⟨fun b hb => by rw [mSet_ne (by omega), mSet_ne (by omega)], fun b hb => hJ b (by omega), rfl⟩ rfl
  obtain ⟨⟨c1, c4, c16, c3, c15, c31, c36, c41, c42, c37, c29⟩, u', e⟩ := h
  have r1 : KB (I 5 s) := Or.inr (i_nI h1.1 h1.2 (by omega))
  have r2 : KB (I 5 u) := Or.inr (i_nI h2.1 h2.2 (by omega))
  have n1 : ¬ I 5 s = -1 := fun z => by rw [z] at h1; exact absurd h1.1 (by decide)
  have n2 : ¬ I 5 u = -1 := fun z => by rw [z] at h2; exact absurd h2.1 (by decide)
  unfold CV HV at *
  rw [hJ 4 (by decide), hJ 16 (by decide)]
  refine ⟨c1, ⟨c4.1, c4.2.1, c4.2.2.1, fun q hq => ?_, fun q hq hb => ?_⟩, c16, c3, c15, c31, c36, c41, c42, c37, c29⟩
  · unfold mSet va_up
    rw [if_pos rfl, if_pos rfl]
    split
    · exact r1
    · split
      · exact r2
      · exact c4.2.2.2.1 q hq
  · unfold mSet va_up
    rw [if_pos rfl, if_pos rfl]
    split
    · exact n1
    · split
      · exact n2
      · exact c4.2.2.2.2 q hq hb
theorem zExch {p q : Int32} {Q : rI0 → rJ0 → Prop} (h : CZ I0 J0 t I J) (hp : (0 ≤ p.toInt ∧ p.toInt < 64 ∧ 0 ≤ (I 5 p.toNatClampNeg).toInt ∧ (I 5 p.toNatClampNeg).toInt ≤ 5) ∧ (0 ≤ q.toInt ∧ q.toInt < 64 ∧ 0 ≤ (I 5 q.toNatClampNeg).toInt ∧ (I 5 q.toNatClampNeg).toInt ≤ 5)) (k : ∀ I' J', CZ I0 J0 t I' J' → I' 5 p.toNatClampNeg = I 5 q.toNatClampNeg → I' 5 q.toNatClampNeg = I 5 p.toNatClampNeg → Q I' J') : wcV S (d + 2) 30 [.ref 4, .int p, .int q] x I J Q := by
  obtain ⟨a, ha, rfl⟩ := i_nI (a := p) (n := 63) hp.1.1 (by omega) (by omega)
  obtain ⟨b, hb, rfl⟩ := i_nI (a := q) (n := 63) hp.2.1 (by omega) (by omega)
  rw [nI_clamp (by omega), nI_clamp (by omega)] at *
  refine exchangeA (by omega) (by omega) rfl rfl (fun J' o => k _ _ (h.kd (by omega) (by omega) hp.1.2.2 hp.2.2.2 o) ?_ ?_)
  · unfold mSet va_up
    rw [if_pos rfl, if_pos rfl]
    split
    · rename_i z
      rw [z]
    · rw [if_pos rfl]
  · unfold mSet va_up
    rw [if_pos rfl, if_pos rfl]
/-! the tokens too -/
def TQ (I0 : rI0) (J0 : rJ0) (t : Int32) (I : rI0) (J : rJ0) : Prop := CZ I0 J0 t I J ∧ TV I
theorem TQ.bnd (h : TQ I0 J0 t I J) : (0 ≤ (I 15 4).toInt ∧ (I 15 4).toInt ≤ 30) := h.1.bnd.2.2.2.2.1
theorem TQ.si {n k : Nat} {v : Int32} (h : TQ I0 J0 t I J) (hf : n < 43 ∧ ¬ (n = 0 ∧ k = 9) ∧ ¬ (2 ≤ n ∧ n ≤ 4) ∧ ¬ (7 ≤ n ∧ n ≤ 14) ∧ n ≠ 2 ∧ n ≠ 5 ∧ n ≠ 17 ∧ ¬ (n = 1 ∧ k = 1) ∧ ¬ (n = 4 ∧ (k = 0 ∨ k = 1 ∨ k = 4)) ∧ ¬ (n = 16 ∧ (k = 0 ∨ k = 1 ∨ k = 4)) ∧ ¬ (n = 3 ∧ k = 4) ∧ ¬ (n = 15 ∧ k = 4) ∧ ¬ (n = 31 ∧ k = 6) ∧ ¬ ((n = 36 ∨ n = 41 ∨ n = 42) ∧ k = 3) ∧ ¬ (n = 37 ∧ k = 7) ∧ ¬ (n = 29 ∧ k = 2)) (h28 : n ≠ 28) : TQ I0 J0 t (mSet I n k v) J := ⟨h.1.si hf, by
  obtain ⟨ln, ed, st, pl, e⟩ := h.2
  refine ⟨ln, ed, st, pl, ?_⟩
  unfold TP
  rw [mSet_ne h28.symm]
  exact e⟩
theorem TQ.s15 {v : Int32} (h : TQ I0 J0 t I J) (hv : 0 ≤ v.toInt ∧ v.toInt ≤ 30) : TQ I0 J0 t (mSet I 15 4 v) J := ⟨h.1.s15 hv, h.2⟩
theorem tRead {Q : rI0 → rJ0 → Prop} (h : TQ I0 J0 t I J) (k : ∀ I J, TQ I0 J0 t I J → Q I J) : wcV S d 70 [.ref 28] x I J Q := readA h.2 (fun I' o1 t1 _ => k I' J ⟨h.1.o28 o1, t1⟩)
theorem tFail {p : Int32} {Q : Int32 → rI0 → rJ0 → Prop} (h : TQ I0 J0 t I J) (k : ∀ r I J, TQ I0 J0 t I J → r.toInt = 0 → Q r I J) : wcI S d 75 [.ref 28, .int p] x I J Q := failA h.2 (fun I' o1 t1 => k 0 I' J ⟨h.1.o28 o1, t1⟩ (by decide))
theorem tWithin {p q : Int32} {Q : Int32 → rI0 → rJ0 → Prop} (h : TQ I0 J0 t I J) (k : ∀ r I J, TQ I0 J0 t I J → r.toInt = 0 ∨ r.toInt = 1 → Q r I J) : wcI S d 76 [.ref 28, .int p, .int q] x I J Q := withinA h.2 (fun I' o1 t1 => k 0 I' J ⟨h.1.o28 o1, t1⟩ (by decide)) (fun _ _ => k 1 I J h (by decide))
theorem tTake {p q : Int32} {Q : Int32 → rI0 → rJ0 → Prop} (h : TQ I0 J0 t I J) (k : ∀ r I J, TQ I0 J0 t I J → r.toInt = 0 ∨ r.toInt = 1 → Q r I J) : wcI S (d + 1) 77 [.ref 28, .int p, .int q] x I J Q := takeNumA h.2 (fun I' o1 t1 => k 0 I' J ⟨h.1.o28 o1, t1⟩ (by decide)) (fun _ I' _ _ o1 t1 _ => k 1 I' J ⟨h.1.o28 o1, t1⟩ (by decide))
theorem tPass {p : Int32} {Q : Int32 → rI0 → rJ0 → Prop} (h : TQ I0 J0 t I J) (k : ∀ r I J, TQ I0 J0 t I J → r.toInt = 0 ∨ r.toInt = 1 → Q r I J) : wcI S (d + 1) 78 [.ref 28, .int p] x I J Q := passA h.2 (fun r I' hr o1 t1 => k r I' J ⟨h.1.o28 o1, t1⟩ (by rcases hr with rfl | rfl <;> decide))
theorem tAt {Q : Int32 → rI0 → rJ0 → Prop} (h : TQ I0 J0 t I J) (k : ∀ r, Q r I J) : wcI S (d + 8) 73 [.ref 28, .ref 1000004] x I J Q := amongA_1000004 h.2 (fun r _ => k r)
theorem tDeed {Q : Int32 → rI0 → rJ0 → Prop} (h : TQ I0 J0 t I J) (k : ∀ r, Q r I J) : wcI S (d + 8) 73 [.ref 28, .ref 1000005] x I J Q := amongA_1000005 h.2 (fun r _ => k r)
theorem tSeat {p : Int32} {Q : Int32 → rI0 → rJ0 → Prop} (k : ∀ r, Q r I J) : wcI S d 24 [.ref 4, .int p] x I J Q := isSeatA_4 (k 0) (fun _ _ _ _ => k 1)
def CW (I0 : rI0) (J0 : rJ0) (t : Int32) (I : rI0) (J : rJ0) : Prop := CV I J ∧ U43 I0 J0 I J ∧ I 1 1 = t ∧ UH I0 J0 I J
theorem CZ.w (h : CZ I0 J0 t I J) : CW I0 J0 t I J := ⟨h.1, h.2.1.w, h.2.2, h.2.1.h⟩
theorem CW.s09 {v : Int32} (h : CW I0 J0 t I J) : CW I0 J0 t (mSet I 0 9 v) J := by
  obtain ⟨⟨c1, c4, c16, c3, c15, c31, c36, c41, c42, c37, c29⟩, u, e, w⟩ := h
  exact ⟨⟨c1, c4, c16, c3, c15, c31, c36, c41, c42, c37, c29⟩, ⟨fun b hb => by rw [mSet_ne (by omega)]; exact u.1 b hb, u.2⟩, e, ⟨fun b hb => by rw [mSet_ne (by omega)]; exact w.1 b hb, w.2⟩⟩
theorem CW.fg (h : CW I0 J0 t I J) : CW I0 J0 t (mSet I 31 6 0) J := ⟨h.1.f, ⟨fun b hb => by rw [mSet_ne (by omega)]; exact h.2.1.1 b hb, h.2.1.2⟩, h.2.2.1, ⟨fun b hb => by rw [mSet_ne (by omega)]; exact h.2.2.2.1 b hb, h.2.2.2.2⟩⟩
theorem zCopy {Q : rI0 → rJ0 → Prop} (h : CW I0 J0 t I J) (k : ∀ I J, CW I0 J0 t I J → Q I J) : wcV S (d + 1) 16 [.ref 3, .ref 15] x I J Q := by
  refine takeCues0 (fun I' o e => k I' J ⟨?_, h.2.1.tr ⟨fun b hb => o b (by omega) (by omega) (by omega) (by omega), fun _ _ => rfl⟩, by rw [o 1 (by decide) (by decide) (by decide) (by decide)]; exact h.2.2.1, ⟨fun b hb => by rw [o b (by omega) (by omega) (by omega) (by omega)]; exact h.2.2.2.1 b hb, h.2.2.2.2⟩⟩)
  obtain ⟨⟨c1, c4, c16, c3, c15, c31, c36, c41, c42, c37, c29⟩, u, e', -⟩ := h
  have f : ∀ b, b ≠ 3 ∧ b ≠ 12 ∧ b ≠ 13 ∧ b ≠ 14 → I' b = I b := fun b hb => o b hb.1 hb.2.1 hb.2.2.1 hb.2.2.2
  unfold CV HV at *
  rw [e, f 1 (by decide), f 4 (by decide), f 5 (by decide), f 16 (by decide), f 17 (by decide), f 15 (by decide), f 31 (by decide), f 36 (by decide), f 41 (by decide), f 42 (by decide), f 37 (by decide), f 29 (by decide)]
  exact ⟨c1, c4, c16, c15, c15, c31, c36, c41, c42, c37, c29⟩
end CZ0
