section
section MQ0
variable {S : Nat × (Nat → Int32)} {d : Nat} {x : mX} {I I' I0 : rI0} {J J' J0 : rJ0} {Tl : Int32} {R C P Z : Int}
def Pz_ (I0 : rI0) (J0 : rJ0) (Tl : Int32) (R C P Z : Int) (I : rI0) (J : rJ0) : Prop := Mz_ I0 J0 (Tl, none) R C I J ∧ P ≤ (I 43 4).toInt ∧ (I 43 3).toInt = Z
def PGp (P : Int) (I : rI0) : Prop := (I 43 9).toInt ≠ 3 ∨ P < (I 43 4).toInt
theorem Pz_.si {n k : Nat} {v : Int32} (h : Pz_ I0 J0 Tl R C P Z I J) (hf : 43 ≤ n ∧ n ≤ 62 ∧ n ≠ 44 ∧ n ≠ 45 ∧ n ≠ 46 ∧ n ≠ 50 ∧ n ≠ 56 ∧ n ≠ 63 ∧ n ≠ 66 ∧ ¬ (n = 43 ∧ k = 13) ∧ ¬ (n = 43 ∧ (k = 2 ∨ k = 3 ∨ k = 4 ∨ k = 9 ∨ k = 10 ∨ k = 11 ∨ k = 12 ∨ k = 42 ∨ k = 43 ∨ k = 47 ∨ k = 52))) : Pz_ I0 J0 Tl R C P Z (mSet I n k v) J := ⟨h.1.si hf, by rw [mSet_x (by omega)]; exact h.2.1, by rw [mSet_x (by omega)]; exact h.2.2⟩
theorem Pz_.sn {n k : Nat} {v : Int32} (h : Pz_ I0 J0 Tl R C P Z I J) (hf : 43 < n ∧ n ≤ 62 ∧ n ≠ 44 ∧ n ≠ 45 ∧ n ≠ 46 ∧ n ≠ 50 ∧ n ≠ 56 ∧ n ≠ 63 ∧ n ≠ 66) : Pz_ I0 J0 Tl R C P Z (mSet I n k v) J := h.si (by omega)
theorem Pz_.nx (h : Pz_ I0 J0 Tl R C P Z I J) (n : Nx_ I J P I' J') (t : TKm I') : Pz_ I0 J0 Tl R C P Z I' J' := by
  obtain ⟨⟨h1, e0, e1, u, w⟩, h2, h3⟩ := h
  obtain ⟨⟨f1, f2, f3, f4⟩, n2⟩ := n
  have f : ∀ k, ¬ (k = 4 ∨ k = 9 ∨ k = 10 ∨ k = 11 ∨ k = 12) → I' 43 k = I 43 k := f2
  obtain ⟨m1, m2, m3, m4, m5, m6, m7⟩ := h1.1
  refine ⟨⟨h1.up ?_ (f1 45 (by decide)) (f1 46 (by decide)) (f1 50 (by decide)) (f1 56 (by decide)) (f1 63 (by decide)) (f1 66 (by decide)) (f 52 (by decide)) (f4 53 (by decide)), ?_, ?_, ⟨⟨fun b hb => ?_, ?_⟩, by rw [f1 45 (by decide)]; exact u.2.1, fun v e => (by cases e)⟩, fun b hb => ?_⟩, n2.2.2.2, ?_⟩
  · refine ⟨?_, ⟨n2.1, n2.2.1, n2.2.2.1⟩, t, ?_, ?_, ?_, ?_⟩
    · rw [f 2 (by decide)]; exact m1
    · rw [f 42 (by decide)]; exact m4
    · rw [f 43 (by decide)]; exact m5
    · rw [f 47 (by decide)]; exact m6
    · rw [f 52 (by decide)]; exact m7
  · rw [f1 45 (by decide)]; exact e0
  · rw [f1 45 (by decide)]; exact e1
  · rw [f1 b (by omega)]; exact u.1.1 b hb
  · rw [f 2 (by decide)]; exact u.1.2
  · rw [f3 b (by omega)]; exact w b hb
  · rw [f 3 (by decide)]; exact h3
theorem pNext {Q : rI0 → rJ0 → Prop} (h : Pz_ I0 J0 Tl R C P Z I J) (k : ∀ I' J', Pz_ I0 J0 Tl R C P Z I' J' → PGp P I' → Fr I J I' J' → Q I' J') : wcV S (d + 1) 161 [.ref 43] x I J Q := by
  have b := h.1.bn2.2.1
  exact xNext (B0 := I) (K0 := J) (P := P) ⟨Fr.rf, b.1, b.2.1, b.2.2, h.2.1⟩ (fun I' J' n t => k I' J' (h.nx n t.1) t.2 n.1)
theorem Pz_.s13 {v : Int32} (h : Pz_ I0 J0 Tl R C P Z I J) : Pz_ I0 J0 Tl R C P Z (mSet I 43 13 v) J := ⟨h.1.s13, by rw [mSet_x (by omega)]; exact h.2.1, by rw [mSet_x (by omega)]; exact h.2.2⟩
theorem pBad {p : Int32} {Q : Int32 → rI0 → rJ0 → Prop} (h : Pz_ I0 J0 Tl R C P Z I J) (k : ∀ I' J', Pz_ I0 J0 Tl R C P Z I' J' → Q 0 I' J') : wcI S d 162 [.ref 43, .int p] x I J (fun r I J => (r = 0 ∨ r = 1) ∧ Q r I J) := c162_43 ⟨Or.inl rfl, k _ _ (h.s13.si (by decide))⟩
theorem mWord {p : Int64} {Q : Int32 → rI0 → rJ0 → Prop} (k0 : Q 0 I J) (k1 : Q 1 I J) : wcI S d 163 [.ref 43, .long p] x I J Q := c163_43 ⟨fun _ => ⟨fun _ => k1, fun _ => k0⟩, fun _ => k0⟩
theorem mSignQ {p : Int32} {Q : Int32 → rI0 → rJ0 → Prop} (k0 : Q 0 I J) (k1 : I 43 9 = 3 → Q 1 I J) : wcI S d 164 [.ref 43, .int p] x I J Q := c164_43 ⟨fun q => ⟨fun _ => k1 q, fun _ => k0⟩, fun _ => k0⟩
def Fg (I : rI0) (I' : rI0) : Prop := (∀ b, b ≠ 43 → I' b = I b) ∧ ∀ k, ¬ (k = 4 ∨ k = 9 ∨ k = 10 ∨ k = 11 ∨ k = 12 ∨ k = 18) → I' 43 k = I 43 k
theorem Fr.g (h : Fr I J I' J') : Fg I I' := ⟨h.1, fun k hk => h.2.1 k (by omega)⟩
theorem pSign {p : Int32} {Q : Int32 → rI0 → rJ0 → Prop} (h : Pz_ I0 J0 Tl R C P Z I J) (g : PGp P I) (k0 : ∀ I' J', Pz_ I0 J0 Tl R C P Z I' J' → Q 0 I' J') (k1 : ∀ I' J', Pz_ I0 J0 Tl R C P Z I' J' → P < (I' 43 4).toInt → Fr I J I' J' → Q 1 I' J') : wcI S (d + 2) 165 [.ref 43, .int p] x I J Q := by
  refine c165_43 (mSignQ ⟨fun _ => pBad h k0, fun z => absurd rfl z⟩ (fun q => ⟨fun z => absurd z (by decide), fun _ => ?_⟩))
  refine pNext (P := (I 43 4).toInt) ⟨h.1, Int.le_refl _, h.2.2⟩ (fun I' J' h' _ f => ?_)
  have g : (I 43 9).toInt ≠ 3 ∨ P < (I 43 4).toInt := g
  have q' : (I 43 9).toInt = 3 := by rw [q]; decide
  have l := h'.2.1
  exact k1 I' J' ⟨h'.1, by omega, h'.2.2⟩ (by omega) f
theorem pTakes {p1 p2 : Int32} {Q : Int32 → rI0 → rJ0 → Prop} (h : Pz_ I0 J0 Tl R C P Z I J) (k0 : ∀ I' J', Pz_ I0 J0 Tl R C P Z I' J' → Q 0 I' J') (k1 : ∀ I' J', Pz_ I0 J0 Tl R C P Z I' J' → PGp P I' → Fg I I' → (p1.toInt ≤ (I' 43 18).toInt ∧ (I' 43 18).toInt ≤ p2.toInt) → Q 1 I' J') : wcI S (d + 2) 166 [.ref 43, .int p1, .int p2] x I J Q := by
  refine c166_43 ⟨fun q => mIn (fun r g => ⟨fun _ => pBad h k0, fun n => ?_⟩), fun _ => pBad h k0⟩
  have n := i_ne n
  have l0 : (0 : Int32).toInt = 0 := by decide
  refine pNext (h.si (n := 43) (k := 18) (by decide)) (fun I' J' h' pg f => k1 I' J' h' pg ⟨fun b hb => (f.1 b hb).trans (mSet_ne hb), fun k hk => (f.2.1 k (by omega)).trans (mSet_x (by omega))⟩ ?_)
  rw [f.2.1 18 (by decide)]
  show p1.toInt ≤ (I 43 12).toInt ∧ (I 43 12).toInt ≤ p2.toInt
  omega
theorem HW.un {g g' : Nat → Int32} (h : ∀ i, ¬ (i = 3 ∨ i = 4 ∨ i = 5 ∨ (70 ≤ i ∧ i < 86)) → g' i = g i) (o : HW g) : HW g' := by
  obtain ⟨h0, h1, h2, h3, h4, h5⟩ := o
  refine ⟨by rw [h 0 (by omega)]; exact h0, by rw [h 1 (by omega)]; exact h1, fun v hv => by rw [h _ (by omega)]; exact h2 v hv, ?_, fun v hv => by rw [h 0 (by omega), h 1 (by omega), h _ (by omega)]; exact h4 v hv, fun l hl => ?_⟩
  · rw [h 2 (by omega), h3]
    exact cnt_congr 64 (fun v hv => by rw [h _ (by omega)])
  · have w := h5 l hl
    refine ⟨by rw [h _ (by omega)]; exact w.1, ?_⟩
    rw [h (87 + 42 * l) (by omega)]
    exact cok_congr' (fun j hj => h _ (by omega)) w.2
theorem Mz_.r46 {g : Nat → Int32} (h : Mz_ I0 J0 (Tl, none) R C I J) (hg : HW g) : Mz_ I0 J0 (Tl, none) R C (va_up I 46 g) J := by
  obtain ⟨⟨m, a, b, c, e, f, q⟩, e0, e1, u, w⟩ := h
  refine ⟨⟨m, a, ?_, c, e, f, q⟩, e0, e1, ⟨⟨fun b hb => by rw [vu_ne (by omega)]; exact u.1.1 b hb, by rw [vu_ne (by decide)]; exact u.1.2⟩, by rw [vu_ne (by decide)]; exact u.2.1, fun v e => (by cases e)⟩, w⟩
  show HW (va_up I 46 g 46)
  unfold va_up
  rw [if_pos rfl]
  exact hg
theorem mSet_va {α : Type} (f : Nat → Nat → α) (a k : Nat) (v : α) : mSet f a k v = va_up f a (va_up (f a) k v) := rfl
theorem Pz_.s46 {k : Nat} {v : Int32} (h : Pz_ I0 J0 Tl R C P Z I J) (hk : k = 3 ∨ k = 4 ∨ k = 5 ∨ (70 ≤ k ∧ k < 86)) : Pz_ I0 J0 Tl R C P Z (mSet I 46 k v) J := by
  refine ⟨?_, by rw [mSet_ne (by decide)]; exact h.2.1, by rw [mSet_ne (by decide)]; exact h.2.2⟩
  rw [mSet_va]
  refine h.1.r46 (HW.un (fun i hi => ?_) h.1.1.2.2.1)
  unfold va_up
  rw [if_neg (by omega)]
theorem pOnce {p1 p2 p3 p4 : Int32} {Q : Int32 → rI0 → rJ0 → Prop} (h : Pz_ I0 J0 Tl R C P Z I J) (hp : p2 = 3 ∨ p2 = 4) (k0 : ∀ I' J', Pz_ I0 J0 Tl R C P Z I' J' → Q 0 I' J') (k1 : ∀ I' J', Pz_ I0 J0 Tl R C P Z I' J' → PGp P I' → Q 1 I' J') : wcI S (d + 3) 168 [.ref 43, .int p1, .int p2, .int p3, .int p4] x I J Q := by
  refine c168_43 (mHas (fun r _ => ⟨fun _ => pNext (h.si (by decide)) (fun I1 J1 h1 _ _ => pTakes h1 (fun I2 J2 h2 => ⟨fun _ => k0 _ _ h2, fun z => absurd rfl z⟩) (fun I2 J2 h2 g2 _ _ => ⟨fun z => absurd z (by decide), fun _ => ⟨?_, k1 _ _ (h2.s46 ?_) ?_⟩⟩)), fun _ => pBad h k0⟩))
  · rcases hp with rfl | rfl <;> decide
  · rcases hp with rfl | rfl <;> decide
  · unfold PGp
    rw [mSet_ne (by decide)]
    exact g2
theorem pTakesRow {p1 : Int32} {Q : Int32 → rI0 → rJ0 → Prop} (h : Pz_ I0 J0 Tl R C P Z I J) (k0 : ∀ I' J', Pz_ I0 J0 Tl R C P Z I' J' → Q 0 I' J') (k1 : ∀ I' J', Pz_ I0 J0 Tl R C P Z I' J' → PGp P I' → (0 ≤ (I' 43 18).toInt ∧ (I' 43 18).toInt ≤ 7) → Q 1 I' J') : wcI S (d + 2) 169 [.ref 43, .int p1] x I J Q := by
  refine c169_43 (pNext h (fun I1 J1 h1 g1 f1 => ⟨fun q => ⟨by decide, fun q2 => mHas (fun r _ => ⟨fun _ => ?_, fun _ => pBad h1 k0⟩), fun _ => pBad h1 k0⟩, fun _ => pBad h1 k0⟩))
  refine pNext (h1.si (n := 43) (k := 18) (by decide)) (fun I' J' h' pg f => k1 I' J' h' pg ?_)
  rw [f.2.1 18 (by decide)]
  show 0 ≤ (I1 43 12).toInt ∧ (I1 43 12).toInt ≤ 7
  have t := h1.1.bnt.2.2
  have b := h1.1.b46.1
  have q' : (I1 43 9).toInt = 2 := by rw [q]; decide
  have q2 : (I1 43 12).toInt < (I1 46 0).toInt := i_lt q2
  omega
/-! the laws -/
def bn (c : Nat → Int32) : Nat → Int
  | 0 => 0
  | j + 1 => bn c j + (if c j = 4 ∨ c j = 5 then 1 else 0)
theorem bn_congr {c c' : Nat → Int32} : ∀ n, (∀ j, j < n → c' j = c j) → bn c' n = bn c n := by
  intro n
  induction n with
  | zero => intro _; rfl
  | succ n ih =>
    intro h
    show bn c' n + _ = bn c n + _
    rw [ih (fun j hj => h j (by omega)), h n (by omega)]
theorem bn_nn {c : Nat → Int32} : ∀ n, 0 ≤ bn c n := by
  intro n
  induction n with
  | zero => exact Int.le_refl _
  | succ n ih =>
    show 0 ≤ bn c n + _
    split <;> omega
def Lw (m n o a : Nat) (I : rI0) : Prop := (I 43 27 = nI m ∧ I 43 26 = nI n ∧ I 43 28 = nI o) ∧ (o ≤ 20 ∧ m + a ≤ o ∧ n + m + a ≤ 2 * o) ∧ dpt (I 48) n = bn (I 49) m + (a : Int) ∧ cok (I 48) n ∧ ∀ k, k < m → I 49 k = 3 ∨ I 49 k = 4 ∨ I 49 k = 5 ∨ I 49 k = 6
theorem Lw.fr {m n o a : Nat} (l : Lw m n o a I) (f : Fg I I') : Lw m n o a I' := by
  unfold Lw at *
  rw [f.1 48 (by decide), f.1 49 (by decide), f.2 26 (by decide), f.2 27 (by decide), f.2 28 (by decide)]
  exact l
theorem nI_pr (m : Nat) : nI (m + 1) - 1 = nI m := by
  rw [nI_succ, ← Int32.toInt_inj]
  show (nI m + nI 1 - nI 1).toInt = _
  rw [Int32.toInt_sub, Int32.toInt_add]
  simp
/-- a word is written behind the code -/
theorem Lw.wr {m n o a : Nat} {v : Int32} (l : Lw m n o a I) (m' a' : Nat) (J1 : rI0) (e48 : J1 48 = va_up (I 48) n v) (e49 : J1 49 = I 49) (e27 : J1 43 27 = nI m') (e26 : J1 43 26 = nI (n + 1)) (e28 : J1 43 28 = I 43 28) (hm : m' ≤ m ∧ m' + a' ≤ o ∧ n + 1 + m' + a' ≤ 2 * o) (c3 : v &&& 7 = 3 → 1 ≤ dpt (I 48) n) (c4 : v &&& 7 = 4 ∨ v &&& 7 = 5 → 2 ≤ dpt (I 48) n) (c5 : ((v >>> ((3 : Int32) &&& 31)) &&& 7).toInt ≤ 5) (hd : dpt (I 48) n + (if v &&& 7 = 3 then 0 else if v &&& 7 = 4 ∨ v &&& 7 = 5 then -1 else 1) = bn (I 49) m' + (a' : Int)) : Lw m' (n + 1) o a' J1 := by
  obtain ⟨⟨i27, i26, i28⟩, ⟨h1, h2, h3⟩, hD, hc, hp⟩ := l
  have ev : va_up (I 48) n v n = v := by
    unfold va_up
    rw [if_pos rfl]
  have ec : ∀ j, j < n → va_up (I 48) n v j = I 48 j := fun j hj => by
    unfold va_up
    rw [if_neg (by omega)]
  have ed : ∀ j, j ≤ n → dpt (va_up (I 48) n v) j = dpt (I 48) j := dpt_congr ec
  refine ⟨⟨e27, e26, e28.trans i28⟩, ⟨h1, hm.2.1, hm.2.2⟩, ?_, ?_, ?_⟩
  · rw [e48, e49]
    show dpt (va_up (I 48) n v) n + _ = _
    rw [ev, ed n (Nat.le_refl _)]
    exact hd
  · rw [e48]
    intro j hj
    rcases (show j < n ∨ j = n by omega) with z | z
    · rw [ec j z, ed j (by omega)]
      exact hc j z
    · subst z
      rw [ev, ed j (Nat.le_refl _)]
      exact ⟨c3, c4, c5⟩
  · rw [e49]
    intro k hk
    exact hp k (by omega)
def W4 (I : rI0) (I' : rI0) : Prop := (∀ b, b ≠ 43 → b ≠ 48 → I' b = I b) ∧ ∀ k, k ≠ 26 → k ≠ 27 → I' 43 k = I 43 k
theorem wDown {l1 : Int32} {o : Nat} {Q : rI0 → rJ0 → Prop} : ∀ (m n : Nat) (I : rI0), Pz_ I0 J0 Tl R C P Z I J → Lw m n o 1 I → (∀ m' n' I', m' ≤ m → Pz_ I0 J0 Tl R C P Z I' J → Lw m' n' o 1 I' → W4 I I' → (∀ j, m' ≤ j → j < m → ¬ I 49 j = 6) → (m' = 0 ∨ I 49 (m' - 1) = 6 ∨ 1 < l1.toInt) → Q I' J) → wp S (d + 1) 173 0 [some (.ref 43), some (.int l1)] [] (wv x I J) (rV x Q) := by
  intro m
  induction m with
  | zero =>
    intro n I h l k
    refine v173_43_0 ⟨fun q => absurd q (by rw [l.1.1]; decide), fun _ => k 0 n I (Nat.le_refl _) h l ⟨fun _ _ _ => rfl, fun _ _ _ => rfl⟩ (fun j h1 h2 => absurd h2 (by omega)) (Or.inl rfl)⟩
  | succ m ih =>
    intro n I h l k
    have e27 : I 43 27 = nI (m + 1) := l.1.1
    have hb := l.2.1
    have e1 : I 43 27 - (1 : Int32) = nI m := by rw [e27, nI_pr]
    have cl : (nI m).toNatClampNeg = m := nI_clamp (by omega)
    have hi : ¬ mOut (I 43 27 - (1 : Int32)) 30 := by rw [e1]; exact nI_in (by omega) (by omega)
    have stay : 1 < l1.toInt ∨ I 49 m = 6 → Q I J := fun z => k (m + 1) n I (Nat.le_refl _) h l ⟨fun _ _ _ => rfl, fun _ _ _ => rfl⟩ (fun j h1 h2 => absurd h2 (by omega)) (by
      rcases z with z | z
      · exact Or.inr (Or.inr z)
      · exact Or.inr (Or.inl z))
    have rd : I 49 ((I 43 27 - (1 : Int32)).toNatClampNeg) = I 49 m := by rw [e1, cl]
    refine v173_43_0 ⟨fun _ => ⟨hi, fun q => stay (Or.inr (rd ▸ q)), fun q6 => ⟨hi, ?_⟩⟩, fun q => absurd (by rw [e27]; exact nI_lt (a := 0) (by omega) (by omega)) q⟩
    rw [rd] at q6
    have go : wcV S d 172 [.ref 43, .int (I 49 ((I 43 27 - (1 : Int32)).toNatClampNeg))] x (mSet I 43 27 (I 43 27 - (1 : Int32))) J (fun I2 J2 => wp S (d + 1) 173 0 [some (.ref 43), some (.int l1)] [] (wv x I2 J2) (rV x Q)) := by
      rw [rd, e1]
      have e26 : (mSet I 43 27 (nI m)) 43 26 = nI n := l.1.2.1
      refine c172_43 ⟨by rw [e26]; exact nI_in (by omega) (by omega), ?_⟩
      rw [e26, nI_clamp (by omega), ← nI_succ]
      have hv := l.2.2.2.2 m (by omega)
      have hD := l.2.2.1
      have hbn := bn_nn (c := I 49) m
      have hb1 : bn (I 49) (m + 1) = bn (I 49) m + (if I 49 m = 4 ∨ I 49 m = 5 then 1 else 0) := rfl
      refine ih (n + 1) _ (((h.si (by decide)).sn (by decide)).si (by decide)) (l.wr (v := I 49 m) m 1 _ rfl rfl rfl rfl rfl (by omega) ?_ ?_ ?_ ?_) (fun m' n' I' a1 a2 a3 a4 a5 a6 => k m' n' I' (by omega) a2 a3 ⟨fun b b1 b2 => (a4.1 b b1 b2).trans (by rw [mSet_ne b1, mSet_ne b2, mSet_ne b1]), fun q q1 q2 => (a4.2 q q1 q2).trans (by rw [mSet_x (by omega), mSet_ne (by decide), mSet_x (by omega)])⟩ (fun j j1 j2 => ?_) a6)
      · intro _
        rw [hD, hb1]
        split <;> omega
      · intro z
        have y : I 49 m = 4 ∨ I 49 m = 5 := by
          rcases hv with w | w | w | w
          · rw [w] at z; exact absurd z (by decide)
          · exact Or.inl w
          · exact Or.inr w
          · exact absurd w q6
        rw [hD, hb1, if_pos y]
        omega
      · rcases hv with w | w | w | w <;> rw [w] <;> decide
      · rw [hD, hb1]
        rcases hv with w | w | w | w
        · rw [w, if_neg (by decide), if_pos (by decide)]
          omega
        · rw [w, if_pos (by decide), if_neg (by decide), if_pos (by decide)]
          omega
        · rw [w, if_pos (by decide), if_neg (by decide), if_pos (by decide)]
          omega
        · exact absurd w q6
      · rcases (show j = m ∨ j < m by omega) with z | z
        · subst z
          exact q6
        · exact a5 j j1 z
    have f1 : ∀ r : Int32, 1 ≤ r.toInt → ((r < l1 → Q I J) ∧ (¬ r < l1 → (¬ mOut ((I 43 27) - (1 : Int32)) 30 ∧ wcV S d 172 [.ref 43, .int (I 49 ((I 43 27 - (1 : Int32)).toNatClampNeg))] x (mSet I 43 27 (I 43 27 - (1 : Int32))) J (fun I2 J2 => wp S (d + 1) 173 0 [some (.ref 43), some (.int l1)] [] (wv x I2 J2) (rV x Q))))) := fun r hr => ⟨fun q => stay (Or.inl (by have := i_lt q; omega)), fun _ => ⟨hi, go⟩⟩
    exact c174 ⟨fun _ => f1 3 (by decide), fun _ => ⟨fun _ => f1 2 (by decide), fun _ => f1 1 (by decide)⟩⟩
theorem pDown {l1 : Int32} {m n o : Nat} {Q : rI0 → rJ0 → Prop} (h : Pz_ I0 J0 Tl R C P Z I J) (l : Lw m n o 1 I) (k : ∀ m' n' I', m' ≤ m → Pz_ I0 J0 Tl R C P Z I' J → Lw m' n' o 1 I' → W4 I I' → (∀ j, m' ≤ j → j < m → ¬ I 49 j = 6) → (m' = 0 ∨ I 49 (m' - 1) = 6 ∨ 1 < l1.toInt) → Q I' J) : wcV S (d + 1) 173 [.ref 43, .int l1] x I J Q := wDown m n I h l k
theorem PGp.w (g : PGp P I) (w : W4 I I') : PGp P I' := by
  unfold PGp at *
  rw [w.2 9 (by decide) (by decide), w.2 4 (by decide) (by decide)]
  exact g
/-- the word that asks() writes -/
theorem wrd (y z n s : Int32) : ((((s ||| (y <<< ((6 : Int32) &&& 31))) ||| (z <<< ((8 : Int32) &&& 31))) ||| (n <<< ((10 : Int32) &&& 31))) &&& 7 = s &&& 7) ∧ ((((((s ||| (y <<< ((6 : Int32) &&& 31))) ||| (z <<< ((8 : Int32) &&& 31))) ||| (n <<< ((10 : Int32) &&& 31))) >>> ((3 : Int32) &&& 31)) &&& 7) = (s >>> ((3 : Int32) &&& 31)) &&& 7) := by
  have e6 : ((6 : Int32) &&& 31).toBitVec.smod 32 = 6#32 := by decide
  have e8 : ((8 : Int32) &&& 31).toBitVec.smod 32 = 8#32 := by decide
  have e10 : ((10 : Int32) &&& 31).toBitVec.smod 32 = 10#32 := by decide
  have e3 : ((3 : Int32) &&& 31).toBitVec.smod 32 = 3#32 := by decide
  have s7 : (7 : Int32).toBitVec = 7#32 := rfl
  have b7 : ∀ i, (7#32).getLsbD i = decide (i < 3) := by
    intro i
    rcases (show i = 0 ∨ i = 1 ∨ i = 2 ∨ 3 ≤ i by omega) with z | z | z | z
    · subst z; decide
    · subst z; decide
    · subst z; decide
    · rw [decide_eq_false (by omega)]
      have p3 : 2 ^ 3 ≤ 2 ^ i := Nat.pow_le_pow_right (by omega) z
      show Nat.testBit 7 i = false
      exact Nat.testBit_lt_two_pow (by omega)
  constructor
  · rw [← Int32.toBitVec_inj]
    simp only [Int32.toBitVec_and, Int32.toBitVec_or, Int32.toBitVec_shiftLeft, e6, e8, e10, s7]
    apply BitVec.eq_of_getLsbD_eq
    intro i hi
    simp only [BitVec.getLsbD_and, BitVec.getLsbD_or, b7, BitVec.shiftLeft_eq', BitVec.getLsbD_shiftLeft, BitVec.toNat_ofNat]
    by_cases q : i < 3
    · have : decide (i < 3) = true := decide_eq_true q
      simp [q, show i < 6 by omega, show i < 8 by omega, show i < 10 by omega]
    · simp [q]
  · rw [← Int32.toBitVec_inj]
    simp only [Int32.toBitVec_and, Int32.toBitVec_or, Int32.toBitVec_shiftLeft, Int32.toBitVec_shiftRight, e3, e6, e8, e10, s7]
    apply BitVec.eq_of_getLsbD_eq
    intro i hi
    simp only [BitVec.getLsbD_and, b7, BitVec.getLsbD_sshiftRight', BitVec.getLsbD_or, BitVec.shiftLeft_eq', BitVec.getLsbD_shiftLeft, BitVec.toNat_ofNat]
    by_cases q : i < 3
    · simp [q, show 3 + i < 32 by omega, show 3 + i < 6 by omega, show 3 + i < 8 by omega, show 3 + i < 10 by omega]
    · simp [q]
end MQ0
end
section
section MC0
theorem mWordA {S : Nat × (Nat → Int32)} {d : Nat} {x : mX} {I : rI0} {J : rJ0} {p1 : Int64} {Q : Int32 → rI0 → rJ0 → Prop} (k : ∀ r, (r.toInt = 0 ∨ r.toInt = 1) → Q r I J) : wcI S (d + 0) 163 [.ref 43, .long p1] x I J Q := by
  refine c163_43 ?_
  have t1 : TI (1 : Int32) (1) := show (1 : Int32).toInt = 1 by decide
  refine ⟨fun q2 => ?_, fun q2 => ?_⟩
  · have c3 := j_eq q2 (ti_r (e := (I 43 9))) t1
    refine ⟨fun q4 => ?_, fun q4 => ?_⟩
    · exact k _ (by (try simp only [t1.o, true_or, or_true, true_and, and_true]); first | done | omega)
    · have t5 : TI (0 : Int32) (0) := show (0 : Int32).toInt = 0 by decide
      exact k _ (by (try simp only [t5.o, true_or, or_true, true_and, and_true]); first | done | omega)
  · have c6 := j_ne q2 (ti_r (e := (I 43 9))) t1
    have t7 : TI (0 : Int32) (0) := show (0 : Int32).toInt = 0 by decide
    exact k _ (by (try simp only [t7.o, true_or, or_true, true_and, and_true]); first | done | omega)
theorem mAtom {S : Nat × (Nat → Int32)} {d : Nat} {x : mX} {I : rI0} {J : rJ0} {Q : Int32 → rI0 → rJ0 → Prop} (k : ∀ r, (-1 ≤ r.toInt ∧ r.toInt ≤ 7) → Q r I J) : wcI S (d + 1) 178 [.ref 43] x I J Q := by
  refine c178_43 ?_
  refine mWordA  ?_
  intro r1 g1a
  have t1 : TI (0 : Int32) (0) := show (0 : Int32).toInt = 0 by decide
  refine ⟨fun q2 => ?_, fun q2 => ?_⟩
  · have c3 := j_eq q2 (ti_r (e := r1)) t1
    refine mWordA  ?_
    intro r2 g2a
    refine ⟨fun q4 => ?_, fun q4 => ?_⟩
    · have c5 := j_eq q4 (ti_r (e := r2)) t1
      refine mWordA  ?_
      intro r3 g3a
      refine ⟨fun q6 => ?_, fun q6 => ?_⟩
      · have c7 := j_eq q6 (ti_r (e := r3)) t1
        refine mWordA  ?_
        intro r4 g4a
        refine ⟨fun q8 => ?_, fun q8 => ?_⟩
        · have c9 := j_eq q8 (ti_r (e := r4)) t1
          refine mWordA  ?_
          intro r5 g5a
          refine ⟨fun q10 => ?_, fun q10 => ?_⟩
          · have c11 := j_eq q10 (ti_r (e := r5)) t1
            refine mWordA  ?_
            intro r6 g6a
            refine ⟨fun q12 => ?_, fun q12 => ?_⟩
            · have c13 := j_eq q12 (ti_r (e := r6)) t1
              refine mWordA  ?_
              intro r7 g7a
              refine ⟨fun q14 => ?_, fun q14 => ?_⟩
              · have c15 := j_eq q14 (ti_r (e := r7)) t1
                refine mWordA  ?_
                intro r8 g8a
                refine ⟨fun q16 => ?_, fun q16 => ?_⟩
                · have c17 := j_eq q16 (ti_r (e := r8)) t1
                  have t18 : TI (-1 : Int32) (-1) := show (-1 : Int32).toInt = -1 by decide
                  exact k _ (by (try simp only [t18.o, true_or, or_true, true_and, and_true]); first | done | omega)
                · have c19 := j_ne q16 (ti_r (e := r8)) t1
                  have t20 : TI (7 : Int32) (7) := show (7 : Int32).toInt = 7 by decide
                  exact k _ (by (try simp only [t20.o, true_or, or_true, true_and, and_true]); first | done | omega)
              · have c21 := j_ne q14 (ti_r (e := r7)) t1
                have t22 : TI (6 : Int32) (6) := show (6 : Int32).toInt = 6 by decide
                exact k _ (by (try simp only [t22.o, true_or, or_true, true_and, and_true]); first | done | omega)
            · have c23 := j_ne q12 (ti_r (e := r6)) t1
              have t24 : TI (5 : Int32) (5) := show (5 : Int32).toInt = 5 by decide
              exact k _ (by (try simp only [t24.o, true_or, or_true, true_and, and_true]); first | done | omega)
          · have c25 := j_ne q10 (ti_r (e := r5)) t1
            have t26 : TI (4 : Int32) (4) := show (4 : Int32).toInt = 4 by decide
            exact k _ (by (try simp only [t26.o, true_or, or_true, true_and, and_true]); first | done | omega)
        · have c27 := j_ne q8 (ti_r (e := r4)) t1
          have t28 : TI (3 : Int32) (3) := show (3 : Int32).toInt = 3 by decide
          exact k _ (by (try simp only [t28.o, true_or, or_true, true_and, and_true]); first | done | omega)
      · have c29 := j_ne q6 (ti_r (e := r3)) t1
        have t30 : TI (2 : Int32) (2) := show (2 : Int32).toInt = 2 by decide
        exact k _ (by (try simp only [t30.o, true_or, or_true, true_and, and_true]); first | done | omega)
    · have c31 := j_ne q4 (ti_r (e := r2)) t1
      have t32 : TI (1 : Int32) (1) := show (1 : Int32).toInt = 1 by decide
      exact k _ (by (try simp only [t32.o, true_or, or_true, true_and, and_true]); first | done | omega)
  · have c33 := j_ne q2 (ti_r (e := r1)) t1
    exact k _ (by (try simp only [t1.o, true_or, or_true, true_and, and_true]); first | done | omega)
variable {S : Nat × (Nat → Int32)} {d : Nat} {x : mX} {I I' I0 : rI0} {J J' J0 : rJ0} {Tl : Int32} {R C P Z : Int}
def sOK (s : Int32) : Prop := ¬ s &&& 7 = 3 ∧ ¬ s &&& 7 = 4 ∧ ¬ s &&& 7 = 5 ∧ ((s >>> ((3 : Int32) &&& 31)) &&& 7).toInt ≤ 5
theorem sOK1 : sOK ((1 : Int32) ||| ((0 : Int32) <<< ((3 : Int32) &&& 31))) := by unfold sOK; decide
theorem sOK2 : sOK ((2 : Int32) ||| ((0 : Int32) <<< ((3 : Int32) &&& 31))) := by unfold sOK; decide
theorem sOKa : ∀ t, t < 6 → (¬ ((0 : Int32) ||| (nI t <<< ((3 : Int32) &&& 31))) &&& 7 = 3 ∧ ¬ ((0 : Int32) ||| (nI t <<< ((3 : Int32) &&& 31))) &&& 7 = 4 ∧ ¬ ((0 : Int32) ||| (nI t <<< ((3 : Int32) &&& 31))) &&& 7 = 5 ∧ ((((0 : Int32) ||| (nI t <<< ((3 : Int32) &&& 31))) >>> ((3 : Int32) &&& 31)) &&& 7).toInt ≤ 5) := by decide
theorem sOKt {l : Int32} (h : 0 ≤ l.toInt ∧ l.toInt < 6) : sOK ((0 : Int32) ||| (l <<< ((3 : Int32) &&& 31))) := by
  obtain ⟨t, ht, rfl⟩ := i_nI (n := 5) h.1 (by omega) (by omega)
  exact sOKa t (by omega)
theorem asks120 {l1 l2 l3 l4 s1 s2 : Int32} {m n o : Nat} {Q : Int32 → rI0 → rJ0 → Prop} (hs : sOK (s1 ||| (s2 <<< ((3 : Int32) &&& 31)))) (h : Pz_ I0 J0 Tl R C P Z I J) (l : Lw m n o 0 I) (hl : m + 1 ≤ o ∧ n + m + 2 ≤ 2 * o) (k1 : ∀ m' n' I' J', Pz_ I0 J0 Tl R C P Z I' J' → Lw m' n' o 1 I' → PGp P I' → Q 1 I' J') : wp S (d + 3) 180 120 [some (.ref 43), some (.int l1), some (.int l2), some (.int l3), some (.int l4)] [.int s2, .int s1, .ref 43] (wv x I J) (rI x Q) := by
  obtain ⟨h3, h4, h5, h6⟩ := hs
  have w := wrd l2 l3 (I 43 12) (s1 ||| (s2 <<< ((3 : Int32) &&& 31)))
  have e26 : I 43 26 = nI n := l.1.2.1
  have ho := l.2.1
  refine v180_43_120 (c172_43 ⟨by rw [e26]; exact nI_in (by omega) (by omega), ?_⟩)
  rw [e26, nI_clamp (by omega), ← nI_succ]
  have hD := l.2.2.1
  generalize ((((s1 ||| (s2 <<< ((3 : Int32) &&& 31))) ||| (l2 <<< ((6 : Int32) &&& 31))) ||| (l3 <<< ((8 : Int32) &&& 31))) ||| ((I 43 12) <<< ((10 : Int32) &&& 31))) = v at *
  have l' : Lw m (n + 1) o 1 (mSet (mSet I 48 n v) 43 26 (nI (n + 1))) := by
    refine l.wr (v := v) m 1 _ rfl rfl l.1.1 rfl rfl (by omega) (fun z => absurd (w.1 ▸ z) h3) (fun z => ?_) (by rw [w.2]; exact h6) ?_
    · rcases z with z | z
      · exact absurd (w.1 ▸ z) h4
      · exact absurd (w.1 ▸ z) h5
    · rw [hD, w.1, if_neg h3, if_neg (by rintro (z | z); exact h4 z; exact h5 z)]
      omega
  exact pNext ((h.sn (by decide)).si (by decide)) (fun I1 J1 h1 g1 f1 => pDown h1 (l'.fr f1.g) (fun m' n' I2 _ h2 l2 w2 _ _ => k1 m' n' I2 J1 h2 l2 (g1.w w2)))
theorem asks57 {l1 l2 : Int32} {m n o : Nat} {Q : Int32 → rI0 → rJ0 → Prop} (h1 : 0 ≤ l1.toInt ∧ l1.toInt ≤ 7) (h : Pz_ I0 J0 Tl R C P Z I J) (l : Lw m n o 0 I) (hl : m + 1 ≤ o ∧ n + m + 2 ≤ 2 * o) (k0 : ∀ I' J', Pz_ I0 J0 Tl R C P Z I' J' → Q 0 I' J') (k1 : ∀ m' n' I' J', Pz_ I0 J0 Tl R C P Z I' J' → Lw m' n' o 1 I' → PGp P I' → Q 1 I' J') : wp S (d + 3) 180 57 [some (.ref 43), some (.int l1), some (.int l2), none, none] [] (wv x I J) (rI x Q) := by
  have l6 : (6 : Int32).toInt = 6 := by decide
  have l7 : (7 : Int32).toInt = 7 := by decide
  refine v180_43_57 (pNext h (fun I1 J1 h' g1 f1 => ⟨fun _ => ⟨fun q => ⟨fun z => ?_, fun _ => asks120 sOK1 h' (l.fr f1.g) hl k1⟩, fun q6 => ⟨fun q => ⟨fun z => ?_, fun _ => asks120 sOK2 h' (l.fr f1.g) hl k1⟩, fun q7 => ⟨fun z => asks120 (sOKt ?_) h' (l.fr f1.g) hl k1, fun z => ?_⟩⟩⟩, fun _ => pBad h' k0⟩))
  · subst q
    exact absurd z (by decide)
  · subst q
    exact absurd z (by decide)
  · have := i_lt z
    omega
  · have := i_nlt z
    have := i_ne q6
    have := i_ne q7
    omega
theorem pAsks {p1 : Int32} {m n o : Nat} {Q : Int32 → rI0 → rJ0 → Prop} (h1 : 0 ≤ p1.toInt ∧ p1.toInt ≤ 7) (h : Pz_ I0 J0 Tl R C P Z I J) (l : Lw m n o 0 I) (hl : m + 1 ≤ o ∧ n + m + 2 ≤ 2 * o) (k0 : ∀ I' J', Pz_ I0 J0 Tl R C P Z I' J' → Q 0 I' J') (k1 : ∀ m' n' I' J', Pz_ I0 J0 Tl R C P Z I' J' → Lw m' n' o 1 I' → PGp P I' → Q 1 I' J') : wcI S (d + 3) 180 [.ref 43, .int p1] x I J Q := by
  have a24 : ∀ (l2 : Int32) (I : rI0) (J : rJ0), Pz_ I0 J0 Tl R C P Z I J → Lw m n o 0 I → wp S (d + 3) 180 24 [some (.ref 43), some (.int p1), some (.int l2), none, none] [] (wv x I J) (rI x Q) := by
    intro l2 I J h l
    have go : wp S (d + 3) 180 57 [some (.ref 43), some (.int p1), some (.int l2), none, none] [] (wv x I J) (rI x Q) := asks57 h1 h l hl k0 k1
    exact v180_43_24 (mSignQ ⟨fun _ => mSignQ ⟨fun _ => mSignQ ⟨fun _ => pBad h k0, fun z => absurd rfl z⟩ (fun _ => ⟨fun z => absurd z (by decide), fun _ => go⟩), fun z => absurd rfl z⟩ (fun _ => ⟨fun z => absurd z (by decide), fun _ => go⟩), fun z => absurd rfl z⟩ (fun _ => ⟨fun z => absurd z (by decide), fun _ => go⟩))
  exact c180_43 ⟨fun _ => pTakes h (fun I2 J2 h2 => ⟨fun _ => k0 _ _ h2, fun z => absurd rfl z⟩) (fun I2 J2 h2 _ f2 _ => ⟨fun z => absurd z (by decide), fun _ => a24 _ _ _ h2 (l.fr f2)⟩), fun _ => a24 _ _ _ h l⟩
theorem open_lp {m : Nat} {Q : Int32 → rI0 → rJ0 → Prop} (e : I 43 27 = nI m) (hm : m ≤ 30) (k0 : Q 0 I J) (k1 : (∃ j, j < m ∧ I 49 j = 6) → Q 1 I J) : ∀ t c : Nat, c + t = m → wp S d 176 2 [some (.ref 43), some (.int (nI c))] [] (wv x I J) (rI x Q) := by
  intro t
  induction t with
  | zero =>
    intro c hc
    exact v176_43_2 ⟨fun q => absurd q (by rw [e]; exact nI_nlt (by omega) (by omega)), fun _ => k0⟩
  | succ t ih =>
    intro c hc
    refine v176_43_2 ⟨fun _ => ⟨nI_in (by omega) (by omega), fun q => k1 ⟨c, by omega, ?_⟩, fun _ => ?_⟩, fun _ => k0⟩
    · rw [nI_clamp (by omega)] at q
      exact q
    · rw [← nI_succ]
      exact ih (c + 1) (by omega)
theorem mOpen {m : Nat} {Q : Int32 → rI0 → rJ0 → Prop} (e : I 43 27 = nI m) (hm : m ≤ 30) (k0 : Q 0 I J) (k1 : (∃ j, j < m ∧ I 49 j = 6) → Q 1 I J) : wcI S d 176 [.ref 43] x I J Q := c176_43 (open_lp e hm k0 k1 m 0 (by omega))
theorem opened_lp {m : Nat} {Q : Int32 → rI0 → rJ0 → Prop} (e : I 43 27 = nI m) (hm : m ≤ 30) (k : ∀ r, Q r I J) : ∀ (t c : Nat) (l1 : Int32), c + t = m → wp S d 175 4 [some (.ref 43), some (.int l1), some (.int (nI c))] [] (wv x I J) (rI x Q) := by
  intro t
  induction t with
  | zero =>
    intro c l1 hc
    exact v175_43_4 ⟨fun q => absurd q (by rw [e]; exact nI_nlt (by omega) (by omega)), fun _ => k _⟩
  | succ t ih =>
    intro c l1 hc
    have hi : ¬ mOut (nI c) 30 := nI_in (by omega) (by omega)
    refine v175_43_4 ⟨fun _ => ⟨hi, fun _ => ?_, fun _ => ⟨hi, fun _ => ?_, fun _ => ?_⟩⟩, fun _ => k _⟩
    · rw [← nI_succ]
      exact ih (c + 1) _ (by omega)
    · rw [← nI_succ]
      exact ih (c + 1) _ (by omega)
    · rw [← nI_succ]
      exact ih (c + 1) _ (by omega)
theorem mOpened {m : Nat} {Q : Int32 → rI0 → rJ0 → Prop} (e : I 43 27 = nI m) (hm : m ≤ 30) (k : ∀ r, Q r I J) : wcI S d 175 [.ref 43] x I J Q := c175_43 (opened_lp e hm k m 0 0 (by omega))
/-- something is laid on the pile -/
theorem Lw.pu {m n o a : Nat} {v : Int32} (l : Lw m n o a I) (a' : Nat) (hv : (v = 4 ∨ v = 5) ∧ a = 1 ∧ a' = 0 ∨ (v = 3 ∨ v = 6) ∧ a' = a) (hm : m + 1 + a' ≤ o ∧ n + (m + 1) + a' ≤ 2 * o) : Lw (m + 1) n o a' (mSet (mSet I 49 m v) 43 27 (nI (m + 1))) := by
  obtain ⟨⟨i27, i26, i28⟩, ⟨h1, h2, h3⟩, hD, hc, hp⟩ := l
  have e49 : (mSet (mSet I 49 m v) 43 27 (nI (m + 1))) 49 = va_up (I 49) m v := rfl
  have ev : va_up (I 49) m v m = v := by
    unfold va_up
    rw [if_pos rfl]
  have ec : ∀ j, j < m → va_up (I 49) m v j = I 49 j := fun j hj => by
    unfold va_up
    rw [if_neg (by omega)]
  refine ⟨⟨rfl, i26, i28⟩, ⟨h1, hm.1, hm.2⟩, ?_, hc, ?_⟩
  · rw [e49]
    show dpt (I 48) n = bn (va_up (I 49) m v) m + _ + _
    rw [hD, bn_congr m ec, ev]
    rcases hv with ⟨z, za, zb⟩ | ⟨z, za⟩
    · rw [if_pos z, za, zb]
      omega
    · rw [if_neg (by rcases z with z | z <;> rw [z] <;> decide), za]
      omega
  · rw [e49]
    intro k hk
    rcases (show k < m ∨ k = m by omega) with z | z
    · rw [ec k z]
      exact hp k z
    · subst z
      rw [ev]
      rcases hv with ⟨z | z, _, _⟩ | ⟨z | z, _⟩
      · exact Or.inr (Or.inl z)
      · exact Or.inr (Or.inr (Or.inl z))
      · exact Or.inl z
      · exact Or.inr (Or.inr (Or.inr z))
theorem pOne {Q : Int32 → rI0 → rJ0 → Prop} (k0 : ∀ I' J', Pz_ I0 J0 Tl R C P Z I' J' → Q 0 I' J') (o0 : Nat) (k1 : ∀ m n o I' J', o0 < o → Pz_ I0 J0 Tl R C P Z I' J' → Lw m n o 1 I' → PGp P I' → Q 1 I' J') : ∀ (t o m n : Nat) (I : rI0) (J : rJ0), 20 - o = t → o0 ≤ o → Pz_ I0 J0 Tl R C P Z I J → Lw m n o 0 I → wp S (d + 4) 179 0 [some (.ref 43), none, none] [] (wv x I J) (rI x Q) := by
  intro t
  induction t with
  | zero =>
    intro o m n I J ht hoo h l
    have ho := l.2.1
    have e20 : I 43 28 = 20 := by
      rw [l.1.2.2, show o = 20 by omega]
      rfl
    have a36 : ∀ r1 r2 : Int32, wp S (d + 4) 179 36 [some (.ref 43), some (.int r1), some (.int r2)] [] (wv x I J) (rI x Q) := fun r1 r2 => v179_43_36 ⟨fun _ => pBad h k0, fun z => absurd e20 z⟩
    exact v179_43_0 (mWordA (fun r1 _ => mAtom (fun r2 _ => ⟨fun _ => ⟨fun _ => mSignQ ⟨fun _ => pBad h k0, fun z => absurd rfl z⟩ (fun _ => ⟨fun z => absurd z (by decide), fun _ => a36 _ _⟩), fun _ => a36 _ _⟩, fun _ => a36 _ _⟩)))
  | succ t ih =>
    intro o m n I J ht hoo h l
    have ho := l.2.1
    have a36 : ∀ r1 r2 : Int32, -1 ≤ r2.toInt ∧ r2.toInt ≤ 7 → wp S (d + 4) 179 36 [some (.ref 43), some (.int r1), some (.int r2)] [] (wv x I J) (rI x Q) := by
      intro r1 r2 hr
      refine v179_43_36 ⟨fun _ => pBad h k0, fun _ => mOpened l.1.1 (by omega) (fun r => ⟨fun _ => pBad h k0, fun _ => ?_⟩)⟩
      rw [l.1.2.2, ← nI_succ]
      have l1 : Lw m n (o + 1) 0 (mSet I 43 28 (nI (o + 1))) := ⟨⟨l.1.1, l.1.2.1, rfl⟩, ⟨by omega, by omega, by omega⟩, l.2.2⟩
      refine pNext (h.si (by decide)) (fun I4 J4 h4 g4 f4 => ?_)
      have l4 := l1.fr f4.g
      have hi : ¬ mOut (I4 43 27) 30 := by rw [l4.1.1]; exact nI_in (by omega) (by omega)
      refine ⟨fun _ => ⟨fun _ => ⟨hi, ?_⟩, fun _ => ⟨hi, ?_⟩⟩, fun q => ?_⟩
      · rw [l4.1.1, nI_clamp (by omega), ← nI_succ]
        exact ih (o + 1) (m + 1) n _ _ (by omega) (by omega) ((h4.sn (by decide)).si (by decide)) (l4.pu 0 (Or.inr ⟨Or.inr rfl, rfl⟩) (by omega))
      · rw [l4.1.1, nI_clamp (by omega), ← nI_succ]
        exact ih (o + 1) (m + 1) n _ _ (by omega) (by omega) ((h4.sn (by decide)).si (by decide)) (l4.pu 0 (Or.inr ⟨Or.inl rfl, rfl⟩) (by omega))
      · have q := i_nlt q
        have z0 : (0 : Int32).toInt = 0 := by decide
        exact pAsks (by omega) h4 l4 (by omega) (fun I5 J5 h5 => ⟨Or.inl rfl, k0 _ _ h5⟩) (fun m' n' I5 J5 h5 l5 g5 => ⟨Or.inr rfl, k1 m' n' (o + 1) _ _ (by omega) h5 l5 g5⟩)
    exact v179_43_0 (mWordA (fun r1 _ => mAtom (fun r2 g2 => ⟨fun _ => ⟨fun _ => mSignQ ⟨fun _ => pBad h k0, fun z => absurd rfl z⟩ (fun _ => ⟨fun z => absurd z (by decide), fun _ => a36 _ _ g2⟩), fun _ => a36 _ _ g2⟩, fun _ => a36 _ _ g2⟩)))
theorem Lw.pop {m n o : Nat} (l : Lw (m + 1) n o 1 I) (h6 : I 49 m = 6) : Lw m n o 1 (mSet I 43 27 (nI m)) := by
  obtain ⟨⟨i27, i26, i28⟩, ⟨h1, h2, h3⟩, hD, hc, hp⟩ := l
  refine ⟨⟨rfl, i26, i28⟩, ⟨h1, by omega, by omega⟩, ?_, hc, fun k hk => hp k (by omega)⟩
  show dpt (I 48) n = bn (I 49) m + _
  have hb1 : bn (I 49) (m + 1) = bn (I 49) m + (if I 49 m = 4 ∨ I 49 m = 5 then 1 else 0) := rfl
  rw [hD, hb1, if_neg (by rw [h6]; decide)]
  omega
theorem pCond {Q : Int32 → rI0 → rJ0 → Prop} (k0 : ∀ I' J', Pz_ I0 J0 Tl R C P Z I' J' → Q 0 I' J') (k1 : ∀ m n o I' J', Pz_ I0 J0 Tl R C P Z I' J' → Lw m n o 1 I' → PGp P I' → Q 1 I' J') : ∀ (t o m n : Nat) (I : rI0) (J : rJ0), 20 - o = t → Pz_ I0 J0 Tl R C P Z I J → Lw m n o 0 I → wp S (d + 5) 177 0 [some (.ref 43), none] [] (wv x I J) (rI x Q) := by
  refine lpn ?_
  intro t ih o m n I J ht h l
  refine v177_43_0 (pOne (fun I1 J1 h1 => ⟨fun _ => k0 _ _ h1, fun z => absurd rfl z⟩) o (fun m1 n1 o1 I1 J1 ho1 h1 l1 g1 => ⟨fun z => absurd z (by decide), fun _ => ?_⟩) _ o m n I J rfl (Nat.le_refl _) h l)
  have a104 : ∀ (m n : Nat) (l1 s1 : Int32) (I : rI0) (J : rJ0), Pz_ I0 J0 Tl R C P Z I J → Lw m n o1 1 I → wp S (d + 5) 177 104 [some (.ref 43), some (.int l1)] [.int s1, .ref 43] (wv x I J) (rI x Q) := by
    intro m n l1 s1 I J h l
    refine v177_43_104 (pDown h l (fun m' n' I2 hm h2 l2 w2 _ _ => ?_))
    have hb := l2.2.1
    have hi : ¬ mOut (I2 43 27) 30 := by rw [l2.1.1]; exact nI_in (by omega) (by omega)
    refine ⟨fun _ => ⟨hi, ?_⟩, fun _ => ⟨hi, ?_⟩⟩
    · rw [l2.1.1, nI_clamp (by omega), ← nI_succ]
      exact pNext ((h2.sn (by decide)).si (by decide)) (fun I3 J3 h3 _ f3 => ih (20 - o1) (by omega) o1 (m' + 1) n' I3 J3 rfl h3 ((l2.pu 0 (Or.inl ⟨Or.inr rfl, rfl, rfl⟩) (by omega)).fr f3.g))
    · rw [l2.1.1, nI_clamp (by omega), ← nI_succ]
      exact pNext ((h2.sn (by decide)).si (by decide)) (fun I3 J3 h3 _ f3 => ih (20 - o1) (by omega) o1 (m' + 1) n' I3 J3 rfl h3 ((l2.pu 0 (Or.inl ⟨Or.inl rfl, rfl, rfl⟩) (by omega)).fr f3.g))
  have a52 : ∀ (m n : Nat) (I : rI0) (J : rJ0), Pz_ I0 J0 Tl R C P Z I J → Lw m n o1 1 I → PGp P I → wp S (d + 5) 177 52 [some (.ref 43), none] [] (wv x I J) (rI x Q) := by
    intro m n I J h l g
    have hb := l.2.1
    exact v177_43_52 (mWordA (fun r1 _ => ⟨fun _ => mWordA (fun r2 _ => ⟨fun _ => mOpen l.1.1 (by omega) ⟨fun _ => pDown h l (fun m' n' I2 hm h2 l2 w2 _ _ => k1 m' n' o1 _ _ h2 l2 (g.w w2)), fun z => absurd rfl z⟩ (fun _ => ⟨fun z => absurd z (by decide), fun _ => pBad h k0⟩), fun _ => ⟨fun _ => a104 m n _ _ I J h l, fun _ => a104 m n _ _ I J h l⟩⟩), fun _ => ⟨fun _ => a104 m n _ _ I J h l, fun _ => a104 m n _ _ I J h l⟩⟩))
  have a9 : ∀ (m : Nat) (n : Nat) (I : rI0) (J : rJ0), Pz_ I0 J0 Tl R C P Z I J → Lw m n o1 1 I → PGp P I → wp S (d + 5) 177 9 [some (.ref 43), none] [] (wv x I J) (rI x Q) := by
    refine lpn ?_
    intro m ih9 n I J h l g
    have hb := l.2.1
    refine v177_43_9 (mSignQ ⟨fun _ => a52 m n I J h l g, fun z => absurd rfl z⟩ (fun _ => ⟨fun z => absurd z (by decide), fun _ => mOpen l.1.1 (by omega) ⟨fun _ => a52 m n I J h l g, fun z => absurd rfl z⟩ (fun ⟨j, hj, ej⟩ => ⟨fun z => absurd z (by decide), fun _ => pDown h l (fun m' n' I2 hm h2 l2 w2 no ex => ?_)⟩)⟩))
    have hjm : j < m' := by
      rcases (show j < m' ∨ m' ≤ j by omega) with z | z
      · exact z
      · exact absurd ej (no j z hj)
    obtain ⟨m2, rfl⟩ : ∃ m2, m' = m2 + 1 := ⟨m' - 1, by omega⟩
    have h6 : I2 49 m2 = 6 := by
      rw [w2.1 49 (by decide) (by decide)]
      rcases ex with z | z | z
      · exact absurd z (by omega)
      · exact z
      · exact absurd z (by decide)
    rw [l2.1.1, nI_pr]
    refine pDown (h2.si (by decide)) (l2.pop h6) (fun m3 n3 I3 hm3 h3 l3 w3 _ _ => pNext h3 (fun I4 J4 h4 g4 f4 => ih9 m3 (by omega) n3 I4 J4 h4 (l3.fr f4.g) g4))
  exact a9 m1 n1 I1 J1 h1 l1 g1
end MC0
end
