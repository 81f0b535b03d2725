section
section MR0
variable {S : Nat × (Nat → Int32)} {d : Nat} {x : mX} {I I' I0 B : rI0} {J J' J0 : rJ0} {Tl : Int32} {R C P Z : Int}
theorem Pz_.r46 {g : Nat → Int32} (h : Pz_ I0 J0 Tl R C P Z I J) (hg : HW g) : Pz_ I0 J0 Tl R C P Z (va_up I 46 g) J := ⟨h.1.r46 hg, h.2.1, h.2.2⟩
theorem PGp.s46 {k : Nat} {v : Int32} (g : PGp P I) : PGp P (mSet I 46 k v) := by
  unfold PGp
  rw [mSet_ne (by decide)]
  exact g
theorem cnt_b {g : Nat → Int32} : ∀ n : Nat, 0 ≤ cnt g n ∧ cnt g n ≤ (n : Int) := by
  intro n
  induction n with
  | zero => exact ⟨Int.le_refl _, Int.le_refl _⟩
  | succ n ih =>
    show 0 ≤ cnt g n + _ ∧ cnt g n + _ ≤ _
    split <;> omega
theorem cnt_set {g : Nat → Int32} {v : Nat} {k w : Int32} (hz : ¬ 0 < (g (6 + v)).toInt) : ∀ n : Nat, cnt (va_up (va_up g (6 + v) k) 2 w) n = cnt g n + (if v < n ∧ 0 < k.toInt then 1 else 0) := by
  intro n
  induction n with
  | zero =>
    rw [if_neg (by omega)]
    rfl
  | succ n ih =>
    show cnt (va_up (va_up g (6 + v) k) 2 w) n + _ = cnt g n + _ + _
    rw [ih]
    have e : va_up (va_up g (6 + v) k) 2 w (6 + n) = if n = v then k else g (6 + n) := by
      unfold va_up
      rw [if_neg (by omega)]
      by_cases z : n = v
      · rw [if_pos (by omega), if_pos z]
      · rw [if_neg (by omega), if_neg z]
    rw [e]
    by_cases z : n = v
    · subst z
      rw [if_pos rfl]
      by_cases y : 0 < k.toInt
      · have a1 : (if n < n ∧ 0 < k.toInt then (1 : Int) else 0) = 0 := if_neg (by omega)
        have a2 : (if 0 < k.toInt then (1 : Int) else 0) = 1 := if_pos y
        have a3 : (if 0 < (g (6 + n)).toInt then (1 : Int) else 0) = 0 := if_neg hz
        have a4 : (if n < n + 1 ∧ 0 < k.toInt then (1 : Int) else 0) = 1 := if_pos ⟨by omega, y⟩
        rw [a1, a2, a3, a4]
        try omega
      · have a1 : (if n < n ∧ 0 < k.toInt then (1 : Int) else 0) = 0 := if_neg (by omega)
        have a2 : (if 0 < k.toInt then (1 : Int) else 0) = 0 := if_neg y
        have a3 : (if 0 < (g (6 + n)).toInt then (1 : Int) else 0) = 0 := if_neg hz
        have a4 : (if n < n + 1 ∧ 0 < k.toInt then (1 : Int) else 0) = 0 := if_neg (fun q => y q.2)
        rw [a1, a2, a3, a4]
    · rw [if_neg z]
      have a : (if v < n ∧ 0 < k.toInt then (1 : Int) else 0) = (if v < n + 1 ∧ 0 < k.toInt then (1 : Int) else 0) := by
        by_cases y : v < n ∧ 0 < k.toInt
        · rw [if_pos y, if_pos ⟨by omega, y.2⟩]
        · rw [if_neg y, if_neg (fun q => y ⟨by omega, q.2⟩)]
      rw [a]
      try omega
/-- a row is being read: r rows stand, c of s signs of the next -/
def RI (r s c : Nat) (g : Nat → Int32) : Prop := (g 0 = nI r ∧ g 1 = nI s) ∧ (∀ v : Nat, v < 64 → 0 ≤ (g (6 + v)).toInt ∧ (g (6 + v)).toInt ≤ 6) ∧ (g 2).toInt = cnt g 64 ∧ (∀ v : Nat, v < 64 → s * r + c ≤ v → (g (6 + v)).toInt = 0) ∧ ∀ l : Nat, l < 12 → LWo g l
theorem RI.ini {r s : Nat} {g : Nat → Int32} (h : HW g) (hr : r ≤ 8) (hs : s ≤ 8) (e0 : g 0 = nI r) (e1 : r = 0 ∨ g 1 = nI s) : RI r s 0 (va_up g 1 (nI s)) := by
  obtain ⟨h0, h1, h2, h3, h4, h5⟩ := h
  have f : ∀ i, i ≠ 1 → va_up g 1 (nI s) i = g i := fun i hi => by
    unfold va_up
    rw [if_neg hi]
  refine ⟨⟨(f 0 (by omega)).trans e0, by unfold va_up; rw [if_pos rfl]⟩, fun v hv => by rw [f _ (by omega)]; exact h2 v hv, ?_, fun v hv hz => ?_, fun l hl => ?_⟩
  · rw [f 2 (by omega), h3]
    exact cnt_congr 64 (fun v hv => by rw [f _ (by omega)])
  · rw [f _ (by omega)]
    refine h4 v hv ?_
    rw [e0, nI_toInt (by omega)]
    rcases e1 with z | z
    · subst z
      rw [show ((0 : Nat) : Int) = 0 from rfl, Int.zero_mul]
      omega
    · rw [z, nI_toInt (by omega), ← Int.natCast_mul, Nat.mul_comm]
      omega
  · have w := h5 l hl
    refine ⟨by rw [f _ (by omega)]; exact w.1, ?_⟩
    rw [f (87 + 42 * l) (by omega)]
    exact cok_congr' (fun j hj => f _ (by omega)) w.2
theorem RI.st {r s c : Nat} {g : Nat → Int32} {k w : Int32} (h : RI r s c g) (hr : r ≤ 7) (hs : s ≤ 8) (hc : c < s) (hk : 0 ≤ k.toInt ∧ k.toInt ≤ 6) (hw : w.toInt = (g 2).toInt + (if 0 < k.toInt then 1 else 0)) : RI r s (c + 1) (va_up (va_up g (6 + (s * r + c)) k) 2 w) := by
  obtain ⟨⟨e0, e1⟩, h2, h3, h4, h5⟩ := h
  have hm : s * r ≤ 56 := Nat.le_trans (Nat.mul_le_mul hs hr) (by omega)
  have hz : ¬ 0 < (g (6 + (s * r + c))).toInt := by
    have := h4 (s * r + c) (by omega) (by omega)
    omega
  have f : ∀ i, i ≠ 2 → i ≠ 6 + (s * r + c) → va_up (va_up g (6 + (s * r + c)) k) 2 w i = g i := fun i h1 h2 => by
    unfold va_up
    rw [if_neg h1, if_neg h2]
  have fk : va_up (va_up g (6 + (s * r + c)) k) 2 w (6 + (s * r + c)) = k := by
    unfold va_up
    rw [if_neg (by omega), if_pos rfl]
  refine ⟨⟨(f 0 (by omega) (by omega)).trans e0, (f 1 (by omega) (by omega)).trans e1⟩, fun v hv => ?_, ?_, fun v hv hz => ?_, fun l hl => ?_⟩
  · rcases Nat.decEq v (s * r + c) with z | z
    · rw [f _ (by omega) (by omega)]
      exact h2 v hv
    · rw [z, fk]
      exact hk
  · rw [cnt_set hz 64, ← h3]
    have e2 : va_up (va_up g (6 + (s * r + c)) k) 2 w 2 = w := by
      unfold va_up
      rw [if_pos rfl]
    rw [e2, hw]
    by_cases y : 0 < k.toInt
    · rw [if_pos y, if_pos ⟨by omega, y⟩]
    · rw [if_neg y, if_neg (fun q => y q.2)]
  · rw [f _ (by omega) (by omega)]
    exact h4 v hv (by omega)
  · have w5 := h5 l hl
    refine ⟨by rw [f _ (by omega) (by omega)]; exact w5.1, ?_⟩
    rw [f (87 + 42 * l) (by omega) (by omega)]
    exact cok_congr' (fun j hj => f _ (by omega) (by omega)) w5.2
theorem RI.end {r s : Nat} {g : Nat → Int32} (h : RI r s s g) (hr : r ≤ 7) (hs : s ≤ 8) : HW (va_up g 0 (nI (r + 1))) := by
  obtain ⟨⟨e0, e1⟩, h2, h3, h4, h5⟩ := h
  have f : ∀ i, i ≠ 0 → va_up g 0 (nI (r + 1)) i = g i := fun i hi => by
    unfold va_up
    rw [if_neg hi]
  have f0 : va_up g 0 (nI (r + 1)) 0 = nI (r + 1) := by
    unfold va_up
    rw [if_pos rfl]
  refine ⟨?_, ?_, fun v hv => by rw [f _ (by omega)]; exact h2 v hv, ?_, fun v hv hz => ?_, fun l hl => ?_⟩
  · rw [f0, nI_toInt (by omega)]
    omega
  · rw [f 1 (by omega), e1, nI_toInt (by omega)]
    omega
  · rw [f 2 (by omega), h3]
    exact cnt_congr 64 (fun v hv => by rw [f _ (by omega)])
  · rw [f _ (by omega)]
    refine h4 v hv ?_
    rw [f0, f 1 (by omega), e1, nI_toInt (by omega), nI_toInt (by omega), ← Int.natCast_mul] at hz
    have e : (r + 1) * s = s * r + s := by rw [Nat.add_mul, Nat.one_mul, Nat.mul_comm]
    omega
  · have w := h5 l hl
    refine ⟨by rw [f _ (by omega)]; exact w.1, ?_⟩
    rw [f (87 + 42 * l) (by omega)]
    exact cok_congr' (fun j hj => f _ (by omega)) w.2
def okc (v : Int32) : Prop := v = 120 ∨ (97 ≤ v.toInt ∧ v.toInt ≤ 102)
theorem mOctX {i : Nat} {Q : Int32 → rI0 → rJ0 → Prop} (hi : i < 940) (k : Q (I 44 i &&& 255) I J) : wcI S d 155 [.ref 43, .int (nI i)] x I J Q := by
  refine c155_43 ⟨nI_in hi (by omega), ?_⟩
  rw [nI_clamp (by omega)]
  exact k
theorem row143 {r s a : Nat} {l2 : Int32} {Q : Int32 → rI0 → rJ0 → Prop} (hB : Pz_ I0 J0 Tl R C P Z B J) (hr : r ≤ 7) (hs : s ≤ 8) (has : a + s ≤ 940) (e11 : B 43 11 = nI s) (e10 : B 43 10 = nI a) (ok : ∀ j, j < s → okc (B 44 (a + j) &&& 255)) (k1 : ∀ I' J', Pz_ I0 J0 Tl R C P Z I' J' → PGp P I' → Q 1 I' J') : ∀ (t c : Nat) (g : Nat → Int32), c + t = s → RI r s c g → wp S (d + 2) 170 143 [some (.ref 43), some (.int (nI r)), some (.int l2), some (.int (nI c)), none] [] (wv x (va_up B 46 g) J) (rI x Q) := by
  intro t
  have l0 : (0 : Int32).toInt = 0 := by decide
  have l1 : (1 : Int32).toInt = 1 := by decide
  induction t with
  | zero =>
    intro c g hc h
    have e : (va_up B 46 g) 43 11 = nI s := e11
    refine v170_43_143 ⟨fun q => absurd q (by rw [e]; exact nI_nlt (by omega) (by omega)), fun _ => ⟨by decide, by decide, ?_⟩⟩
    have hc : c = s := by omega
    subst hc
    have eg : (va_up B 46 g) 46 = g := by
      unfold va_up
      rw [if_pos rfl]
    show wcV S (d + 1) 161 [.ref 43] x (mSet (va_up B 46 g) 46 0 ((va_up B 46 g) 46 0 + (1 : Int32))) J _
    rw [eg, h.1.1, ← nI_succ, mSet_up]
    exact pNext (hB.r46 (h.end hr hs)) (fun I' J' h' g' _ => k1 I' J' h' g')
  | succ t ih =>
    intro c g hc h
    have e : (va_up B 46 g) 43 11 = nI s := e11
    have e' : (va_up B 46 g) 43 10 = nI a := e10
    refine v170_43_143 ⟨fun _ => ?_, fun q => absurd (by rw [e]; exact nI_lt (by omega) (by omega)) q⟩
    rw [e', nI_add]
    have hm : s * r ≤ 56 := Nat.le_trans (Nat.mul_le_mul hs hr) (by omega)
    have ix : ((6 : Int32) + ((va_up B 46 g) 43 11 * nI r)) + nI c = nI (6 + (s * r + c)) := by
      rw [e, nI_mu]
      show nI 6 + nI (s * r) + nI c = _
      rw [nI_add, nI_add, Nat.add_assoc]
    have eg : (va_up B 46 g) 46 = g := by
      unfold va_up
      rw [if_pos rfl]
    have cb := cnt_b (g := g) 64
    have h3 := h.2.2.1
    have o := ok c (by omega)
    have stp : ∀ (k v : Int32), (0 ≤ k.toInt ∧ k.toInt ≤ 6) → ((if 0 < k.toInt then (1 : Int) else 0) = v.toInt) → (v = 0 ∨ v = 1) → wp S (d + 2) 170 143 [some (.ref 43), some (.int (nI r)), some (.int l2), some (.int (nI c + (1 : Int32))), none] [] (wv x (mSet (mSet (va_up B 46 g) 46 (nI (6 + (s * r + c))).toNatClampNeg k) 46 ((2 : Int32).toNatClampNeg) (((mSet (va_up B 46 g) 46 (nI (6 + (s * r + c))).toNatClampNeg k) 46 ((2 : Int32).toNatClampNeg)) + v)) J) (rI x Q) := by
      intro k v hk hv h01
      have e2 : (mSet (va_up B 46 g) 46 (nI (6 + (s * r + c))).toNatClampNeg k) 46 ((2 : Int32).toNatClampNeg) = g 2 := by
        rw [nI_clamp (by omega), mSet_up]
        show va_up B 46 (va_up g (6 + (s * r + c)) k) 46 2 = g 2
        unfold va_up
        rw [if_pos rfl, if_neg (by omega)]
      rw [e2, nI_clamp (by omega), ← nI_succ, mSet_up, mSet_up]
      have vb : 0 ≤ v.toInt ∧ v.toInt ≤ 1 := by rcases h01 with z | z <;> rw [z] <;> decide
      exact ih (c + 1) _ (by omega) (h.st hr hs (by omega) hk (by rw [i_add (a := g 2) (b := v) rfl rfl (by omega), hv]))
    refine mOctX (by omega) ⟨fun q => ?_, fun q => ?_⟩
    · rw [ix]
      have st0 := stp 0 0 (by decide) (by decide) (Or.inl rfl)
      refine v170_43_194 ⟨nI_in (by omega) (by omega), by decide, fun _ => ⟨by decide, st0⟩, fun z => absurd q z⟩
    · rw [ix]
      have q' : 97 ≤ ((va_up B 46 g) 44 (a + c) &&& 255).toInt ∧ ((va_up B 46 g) 44 (a + c) &&& 255).toInt ≤ 102 := by
        rcases o with z | z
        · exact absurd z q
        · exact z
      have l96 : (96 : Int32).toInt = 96 := by decide
      have ts := i_sub (a := (va_up B 46 g) 44 (a + c) &&& 255) (b := 96) rfl l96 (by omega)
      have st1 := stp (((va_up B 46 g) 44 (a + c) &&& 255) - 96) 1 (by omega) (by rw [if_pos (by omega), l1]) (Or.inr rfl)
      refine v170_43_194 ⟨nI_in (by omega) (by omega), by decide, fun z => absurd z q, fun _ => ⟨by decide, st1⟩⟩
theorem row62 {r s a : Nat} {Q : Int32 → rI0 → rJ0 → Prop} (h : Pz_ I0 J0 Tl R C P Z I J) (hr : r ≤ 7) (hs : s ≤ 8) (has : a + s ≤ 940) (e11 : I 43 11 = nI s) (e10 : I 43 10 = nI a) (e0 : I 46 0 = nI r) (k0 : ∀ I' J', Pz_ I0 J0 Tl R C P Z I' J' → Q 0 I' J') (k1 : ∀ I' J', Pz_ I0 J0 Tl R C P Z I' J' → PGp P I' → Q 1 I' J') : ∀ (t c : Nat) (l2 : Int32), c + t = s → (l2 = 0 ∨ ((r = 0 ∨ I 46 1 = nI s) ∧ ∀ j, j < c → okc (I 44 (a + j) &&& 255))) → wp S (d + 2) 170 62 [some (.ref 43), some (.int (nI r)), some (.int l2), some (.int (nI c)), none] [] (wv x I J) (rI x Q) := by
  intro t
  induction t with
  | zero =>
    intro c l2 hc hl
    refine v170_43_62 ⟨fun q => absurd q (by rw [e11]; exact nI_nlt (by omega) (by omega)), fun _ => ⟨fun _ => pBad h k0, fun n2 => ⟨by decide, ?_⟩⟩⟩
    rcases hl with z | ⟨z1, z2⟩
    · exact absurd z n2
    · have hc : c = s := by omega
      subst hc
      rw [e11]
      show wp S (d + 2) 170 143 _ [] (wv x (mSet I 46 1 (nI c)) J) _
      rw [mSet_va]
      exact row143 h hr hs has e11 e10 z2 k1 c 0 _ (by omega) (RI.ini h.1.1.2.2.1 (by omega) hs e0 z1)
  | succ t ih =>
    intro c l2 hc hl
    refine v170_43_62 ⟨fun _ => ⟨fun _ => ?_, fun n2 => ?_⟩, fun q => absurd (by rw [e11]; exact nI_lt (by omega) (by omega)) q⟩
    · rw [← nI_succ]
      exact ih (c + 1) 0 (by omega) (Or.inl rfl)
    · have hl : (r = 0 ∨ I 46 1 = nI s) ∧ ∀ j, j < c → okc (I 44 (a + j) &&& 255) := by
        rcases hl with z | z
        · exact absurd z n2
        · exact z
      have up : okc (I 44 (a + c) &&& 255) → ∀ j, j < c + 1 → okc (I 44 (a + j) &&& 255) := by
        intro o j hj
        rcases (show j < c ∨ j = c by omega) with z | z
        · exact hl.2 j z
        · subst z
          exact o
      rw [e10, nI_add, ← nI_succ]
      refine mOctX (by omega) ⟨fun q => ih (c + 1) 1 (by omega) (Or.inr ⟨hl.1, up (Or.inl q)⟩), fun _ => ?_⟩
      rw [e10, nI_add]
      refine mOctX (by omega) (mIn (fun r3 g3 => ⟨fun _ => ih (c + 1) 0 (by omega) (Or.inl rfl), fun n3 => ih (c + 1) 1 (by omega) (Or.inr ⟨hl.1, up (Or.inr ?_)⟩)⟩))
      have n3 := i_ne n3
      have l0 : (0 : Int32).toInt = 0 := by decide
      have l97 : (97 : Int32).toInt = 97 := by decide
      have l102 : (102 : Int32).toInt = 102 := by decide
      omega
theorem pReadRow {Q : Int32 → rI0 → rJ0 → Prop} (h : Pz_ I0 J0 Tl R C P Z I J) (k0 : ∀ I' J', Pz_ I0 J0 Tl R C P Z I' J' → Q 0 I' J') (k1 : ∀ I' J', Pz_ I0 J0 Tl R C P Z I' J' → PGp P I' → Q 1 I' J') : wcI S (d + 2) 170 [.ref 43] x I J Q := by
  have b0 := h.1.b46.1
  obtain ⟨r, hr, er⟩ := i_nI (a := I 46 0) (n := 8) b0.1 b0.2 (by omega)
  refine c170_43 ⟨by decide, fun _ => pBad h k0, fun n8 => pNext h (fun I2 J2 h2 g2 f2 => ⟨fun q => ?_, fun _ => pBad h2 k0⟩)⟩
  have n8 : ¬ I 46 0 = 8 := n8
  have hr7 : r ≤ 7 := by
    rcases (show r ≤ 7 ∨ r = 8 by omega) with z | z
    · exact z
    · rw [er, z] at n8
      exact absurd rfl n8
  have t := h2.1.bnt.2.1
  have q' : (I2 43 9).toInt = 1 := by rw [q]; decide
  have t' : 0 ≤ (I2 43 11).toInt ∧ (I2 43 11).toInt ≤ 8 ∧ 0 ≤ (I2 43 10).toInt ∧ (I2 43 10).toInt + (I2 43 11).toInt ≤ 940 := by omega
  obtain ⟨s, hs, es⟩ := i_nI (a := I2 43 11) (n := 8) t'.1 t'.2.1 (by omega)
  obtain ⟨a, ha, ea⟩ := i_nI (a := I2 43 10) (n := 940) t'.2.2.1 (by omega) (by omega)
  have has : a + s ≤ 940 := by
    have := t'.2.2.2
    rw [es, ea, nI_toInt (by omega), nI_toInt (by omega)] at this
    omega
  have e0 : I2 46 0 = nI r := by rw [f2.1 46 (by decide)]; exact er
  have go : ∀ l2 : Int32, (l2 = 0 ∨ (r = 0 ∨ I2 46 1 = nI s)) → wp S (d + 2) 170 62 [some (.ref 43), some (.int (nI r)), some (.int l2), some (.int (nI 0)), none] [] (wv x I2 J2) (rI x Q) := fun l2 hl => row62 h2 hr7 hs has es ea e0 k0 k1 s 0 l2 (by omega) (by
    rcases hl with z | z
    · exact Or.inl z
    · exact Or.inr ⟨z, fun j hj => absurd hj (by omega)⟩)
  have er' : I 46 ((0 : Int32).toNatClampNeg) = nI r := er
  rw [er']
  refine ⟨fun q0 => go 1 (Or.inr (Or.inl ?_)), fun _ => ⟨by decide, fun q1 => go 1 (Or.inr (Or.inr ?_)), fun _ => go 0 (Or.inl rfl)⟩⟩
  · have := i_eq q0
    rw [nI_toInt (by omega)] at this
    have l0 : (0 : Int32).toInt = 0 := by decide
    omega
  · exact (show I2 43 11 = I2 46 1 from q1).symm.trans es
/-! readLaw -/
theorem HW.lw {g0 g : Nat → Int32} {L : Nat} (h : HW g0) (hL : L < 12) (f : ∀ i, ¬ (86 + 42 * L ≤ i ∧ i < 128 + 42 * L) → g i = g0 i) (w : LWo g L) : HW g := by
  obtain ⟨h0, h1, h2, h3, h4, h5⟩ := h
  refine ⟨by rw [f 0 (by omega)]; exact h0, by rw [f 1 (by omega)]; exact h1, fun v hv => by rw [f _ (by omega)]; exact h2 v hv, ?_, fun v hv => by rw [f 0 (by omega), f 1 (by omega), f _ (by omega)]; exact h4 v hv, fun l hl => ?_⟩
  · rw [f 2 (by omega), h3]
    exact cnt_congr 64 (fun v hv => by rw [f _ (by omega)])
  · rcases Nat.decEq l L with z | z
    · have w5 := h5 l hl
      refine ⟨by rw [f _ (by omega)]; exact w5.1, ?_⟩
      rw [f (87 + 42 * l) (by omega)]
      exact cok_congr' (fun j hj => f _ (by have := w5.1; omega)) w5.2
    · rw [z]
      exact w
theorem law133 {L n : Nat} {l1 : Int32} {g0 : Nat → Int32} {Q : Int32 → rI0 → rJ0 → Prop} (hL : L < 12) (hn : n ≤ 40) (e26 : B 43 26 = nI n) (c : cok (B 48) n) (h0 : HW g0) (k : ∀ g, HW g → Q 1 (va_up B 46 g) J) : ∀ (t c : Nat) (g : Nat → Int32), c + t = n → g (87 + 42 * L) = nI n → (∀ j, j < c → g (88 + 42 * L + j) = B 48 j) → (∀ i, ¬ (86 + 42 * L ≤ i ∧ i < 128 + 42 * L) → g i = g0 i) → wp S (d + 1) 171 133 [some (.ref 43), some (.int l1), some (.int (nI (86 + 42 * L))), some (.int (nI c))] [] (wv x (va_up B 46 g) J) (rI x Q) := by
  intro t
  induction t with
  | zero =>
    intro c' g hc e87 ec ef
    have e : (va_up B 46 g) 43 26 = nI n := e26
    refine v171_43_133 ⟨fun q => absurd q (by rw [e]; exact nI_nlt (by omega) (by omega)), fun _ => k g (HW.lw h0 hL ef ?_)⟩
    refine ⟨?_, ?_⟩
    · rw [e87, nI_toInt (by omega)]
      omega
    · rw [e87, nI_toInt (by omega)]
      refine cok_congr' (fun j hj => ec j (by omega)) ?_
      rw [show ((n : Int)).toNat = n by omega]
      exact c
  | succ t ih =>
    intro c' g hc e87 ec ef
    have e : (va_up B 46 g) 43 26 = nI n := e26
    have ix : nI (86 + 42 * L) + (2 : Int32) + nI c' = nI (88 + 42 * L + c') := by
      show nI (86 + 42 * L) + nI 2 + nI c' = _
      rw [nI_add, nI_add]
      congr 1
      omega
    refine v171_43_133 ⟨fun _ => ⟨nI_in (by omega) (by omega), ?_, ?_⟩, fun q => absurd (by rw [e]; exact nI_lt (by omega) (by omega)) q⟩
    · rw [ix]
      exact nI_in (by omega) (by omega)
    · rw [ix, nI_clamp (by omega), nI_clamp (by omega), ← nI_succ, mSet_up]
      have f : ∀ i, i ≠ 88 + 42 * L + c' → va_up g (88 + 42 * L + c') ((va_up B 46 g) 48 c') i = g i := fun i hi => by
        unfold va_up
        rw [if_neg hi]
      refine ih (c' + 1) _ (by omega) ((f _ (by omega)).trans e87) (fun j hj => ?_) (fun i hi => (f i (by omega)).trans (ef i hi))
      rcases (show j < c' ∨ j = c' by omega) with z | z
      · rw [f _ (by omega)]
        exact ec j z
      · subst z
        unfold va_up
        rw [if_pos rfl, if_neg (by decide)]
theorem pReadLaw {p1 : Int32} {Q : Int32 → rI0 → rJ0 → Prop} (hp : p1 = 0 ∨ p1 = 1) (h : Pz_ I0 J0 Tl R C P Z I J) (k0 : ∀ I' J', Pz_ I0 J0 Tl R C P Z I' J' → Q 0 I' J') (k1 : ∀ I' J', Pz_ I0 J0 Tl R C P Z I' J' → PGp P I' → Q 1 I' J') : wcI S (d + 6) 171 [.ref 43, .int p1] x I J Q := by
  have hp1 : 0 ≤ p1.toInt ∧ p1.toInt ≤ 1 := by rcases hp with z | z <;> rw [z] <;> decide
  refine c171_43 (pNext h (fun I1 J1 h1 g1 f1 => ⟨fun _ => ⟨fun _ => mIn (fun r2 g2 => ⟨fun _ => pBad h1 k0, fun n2 => ?_⟩), fun _ => pBad h1 k0⟩, fun _ => pBad h1 k0⟩))
  have n2 := i_ne n2
  have l0 : (0 : Int32).toInt = 0 := by decide
  have l1 : (1 : Int32).toInt = 1 := by decide
  have l2 : (2 : Int32).toInt = 2 := by decide
  have l42 : (42 : Int32).toInt = 42 := by decide
  have l86 : (86 : Int32).toInt = 86 := by decide
  have l97 : (97 : Int32).toInt = 97 := by decide
  have l102 : (102 : Int32).toInt = 102 := by decide
  have g2' : 97 ≤ ((J1 43 15).toInt32).toInt ∧ ((J1 43 15).toInt32).toInt ≤ 102 := by omega
  generalize (J1 43 15).toInt32 = w at *
  obtain ⟨L, hL, eT⟩ : ∃ L : Nat, L < 12 ∧ (86 : Int32) + (42 : Int32) * ((2 : Int32) * (w - (97 : Int32)) + p1) = nI (86 + 42 * L) := by
    refine ⟨(2 * (w.toInt - 97) + p1.toInt).toNat, by omega, ?_⟩
    have s1 := i_sub (a := w) (b := 97) rfl l97 (by omega)
    have s2 := i_mul (a := 2) l2 s1 (by omega)
    have s3 := i_add (b := p1) s2 rfl (by omega)
    have s4 := i_mul (a := 42) l42 s3 (by omega)
    have s5 := i_add (a := 86) l86 s4 (by omega)
    rw [← Int32.toInt_inj, s5, nI_toInt (by omega)]
    omega
  rw [eT]
  refine ⟨nI_in (by omega) (by omega), fun _ => pBad h1 k0, fun _ => pNext h1 (fun I5 J5 h5 g5 f5 => ?_)⟩
  have hz := ((h5.si (n := 43) (k := 26) (v := 0) (by decide)).si (n := 43) (k := 27) (v := 0) (by decide)).si (n := 43) (k := 28) (v := 0) (by decide)
  have lz : Lw 0 0 0 0 (mSet (mSet (mSet I5 43 26 (0 : Int32)) 43 27 (0 : Int32)) 43 28 (0 : Int32)) := ⟨⟨rfl, rfl, rfl⟩, ⟨by omega, by omega, by omega⟩, rfl, fun j hj => absurd hj (by omega), fun k hk => absurd hk (by omega)⟩
  refine pCond (fun I6 J6 h6 => ⟨fun _ => k0 _ _ h6, fun z => absurd rfl z⟩) (fun m n o I6 J6 h6 l6 g6 => ⟨fun z => absurd z (by decide), fun _ => ?_⟩) 20 0 0 0 _ _ rfl hz lz
  have hb := l6.2.1
  have e1 : nI (86 + 42 * L) + (1 : Int32) = nI (87 + 42 * L) := by
    rw [← nI_succ]
    congr 1
    omega
  refine ⟨nI_in (by omega) (by omega), by rw [e1]; exact nI_in (by omega) (by omega), ?_⟩
  rw [e1, nI_clamp (by omega), nI_clamp (by omega), l6.1.2.1, mSet_va I6 46 (86 + 42 * L) (I6 43 28), mSet_up]
  refine law133 (B := I6) (n := n) (g0 := I6 46) hL (by omega) l6.1.2.1 l6.2.2.2.1 h6.1.1.2.2.1 (fun g hg => k1 _ _ (h6.r46 hg) g6) n 0 _ (by omega) (by unfold va_up; rw [if_pos rfl]) (fun j hj => absurd hj (by omega)) (fun i hi => ?_)
  unfold va_up
  rw [if_neg (by omega), if_neg (by omega)]
theorem pLine {Q : Int32 → rI0 → rJ0 → Prop} (h : Pz_ I0 J0 Tl R C P Z I J) (k0 : ∀ I' J', Pz_ I0 J0 Tl R C P Z I' J' → Q 0 I' J') (k1 : ∀ I' J', Pz_ I0 J0 Tl R C P Z I' J' → PGp P I' → Q 1 I' J') : wcI S (d + 7) 167 [.ref 43] x I J Q := by
  have K0 : ∀ I' J', Pz_ I0 J0 Tl R C P Z I' J' → ((0 : Int32) = 0 ∨ (0 : Int32) = 1) ∧ Q 0 I' J' := fun I' J' h' => ⟨Or.inl rfl, k0 I' J' h'⟩
  have K1 : ∀ I' J', Pz_ I0 J0 Tl R C P Z I' J' → PGp P I' → ((1 : Int32) = 0 ∨ (1 : Int32) = 1) ∧ Q 1 I' J' := fun I' J' h' g' => ⟨Or.inr rfl, k1 I' J' h' g'⟩
  have tr : ∀ (q k z : Nat) (b : Int32) (I : rI0), b = nI q → (q = 70 ∨ q = 78) → (0 ≤ (I 43 18).toInt ∧ (I 43 18).toInt ≤ 7) → ¬ mOut (b + I 43 18) 590 ∧ (70 ≤ (b + I 43 18).toNatClampNeg ∧ (b + I 43 18).toNatClampNeg < 86) := by
    intro q k z b I hb hq hr
    obtain ⟨c, hc, ec⟩ := i_nI (n := 7) hr.1 hr.2 (by omega)
    rw [hb, ec, nI_add]
    exact ⟨nI_in (by omega) (by omega), by rw [nI_clamp (by omega)]; omega⟩
  refine c167_43 (mWord ⟨fun _ => mWord ⟨fun _ => mWord ⟨fun _ => mWord ⟨fun _ => mWord ⟨fun _ => mWord ⟨fun _ => mWord ⟨fun _ => mWord ⟨fun _ => pBad h k0, fun z => absurd rfl z⟩ ⟨fun z => absurd z (by decide), fun _ => mHas (fun r _ => ⟨fun _ => ⟨by decide, pNext ((h.si (by decide)).s46 (by decide)) (fun I' J' h' g' _ => k1 I' J' h' g')⟩, fun _ => pBad h k0⟩)⟩, fun z => absurd rfl z⟩ ⟨fun z => absurd z (by decide), fun _ => pOnce h (Or.inr rfl) K0 K1⟩, fun z => absurd rfl z⟩ ⟨fun z => absurd z (by decide), fun _ => pOnce h (Or.inl rfl) K0 K1⟩, fun z => absurd rfl z⟩ ⟨fun z => absurd z (by decide), fun _ => ?_⟩, fun z => absurd rfl z⟩ ⟨fun z => absurd z (by decide), fun _ => ?_⟩, fun z => absurd rfl z⟩ ⟨fun z => absurd z (by decide), fun _ => pReadLaw (Or.inr rfl) h K0 K1⟩, fun z => absurd rfl z⟩ ⟨fun z => absurd z (by decide), fun _ => pReadLaw (Or.inl rfl) h K0 K1⟩, fun z => absurd rfl z⟩ ⟨fun z => absurd z (by decide), fun _ => pReadRow h K0 K1⟩)
  · refine pTakesRow h (fun I1 J1 h1 => ⟨fun _ => k0 _ _ h1, fun z => absurd rfl z⟩) (fun I1 J1 h1 g1 r1 => ⟨fun z => absurd z (by decide), fun _ => ?_⟩)
    have t := tr 78 0 0 78 I1 rfl (Or.inr rfl) r1
    exact pTakes (h1.si (by decide)) (fun I2 J2 h2 => ⟨fun _ => k0 _ _ h2, fun z => absurd rfl z⟩) (fun I2 J2 h2 g2 _ _ => ⟨fun z => absurd z (by decide), fun _ => ⟨t.1, k1 _ _ (h2.s46 (Or.inr (Or.inr (Or.inr t.2)))) g2.s46⟩⟩)
  · refine pTakesRow h (fun I1 J1 h1 => ⟨fun _ => k0 _ _ h1, fun z => absurd rfl z⟩) (fun I1 J1 h1 g1 r1 => ⟨fun z => absurd z (by decide), fun _ => ?_⟩)
    have t := tr 70 0 0 70 I1 rfl (Or.inl rfl) r1
    exact pTakes (h1.si (by decide)) (fun I2 J2 h2 => ⟨fun _ => k0 _ _ h2, fun z => absurd rfl z⟩) (fun I2 J2 h2 g2 _ _ => ⟨fun z => absurd z (by decide), fun _ => ⟨t.1, k1 _ _ (h2.s46 (Or.inr (Or.inr (Or.inr t.2)))) g2.s46⟩⟩)
end MR0
end
section
section MS0
variable {S : Nat × (Nat → Int32)} {d : Nat} {x : mX} {I I' I0 B : rI0} {J J' J0 : rJ0} {Tl : Int32} {R C P Z : Int}
theorem cnt_z : ∀ n : Nat, cnt (fun _ => (0 : Int32)) n = 0 := by
  intro n
  induction n with
  | zero => rfl
  | succ n ih =>
    show cnt (fun _ => (0 : Int32)) n + _ = 0
    have z : ¬ 0 < (0 : Int32).toInt := by decide
    show cnt (fun _ => (0 : Int32)) n + (if 0 < (0 : Int32).toInt then 1 else 0) = 0
    rw [ih, if_neg z]
    rfl
theorem HW_z : HW (fun _ => (0 : Int32)) := by
  have z : (0 : Int32).toInt = 0 := by decide
  refine ⟨?_, ?_, fun v _ => ?_, ?_, fun v _ _ => ?_, fun l _ => ⟨?_, fun j hj => ?_⟩⟩
  · show 0 ≤ (0 : Int32).toInt ∧ (0 : Int32).toInt ≤ 8
    omega
  · show 0 ≤ (0 : Int32).toInt ∧ (0 : Int32).toInt ≤ 8
    omega
  · show 0 ≤ (0 : Int32).toInt ∧ (0 : Int32).toInt ≤ 6
    omega
  · rw [cnt_z]
    exact z
  · exact z
  · show 0 ≤ (0 : Int32).toInt ∧ (0 : Int32).toInt ≤ 40
    omega
  · have hj : j < ((0 : Int32).toInt).toNat := hj
    rw [z] at hj
    exact absurd hj (by omega)
theorem HW_plain (g : Nat → Int32) : HW (plainR g) := by
  have h : HW (fun i => if i < 590 then plainR g i else 0) := by
    refine HW.un (fun i hi => ?_) HW_z
    show (if i < 590 then plainR g i else 0) = 0
    by_cases z : i < 590
    · rw [if_pos z]
      unfold plainR
      rw [if_pos z, if_neg (by omega), if_neg (by omega), if_neg (by omega)]
    · rw [if_neg z]
  exact HW_congr (fun i hi => by show plainR g i = if i < 590 then plainR g i else 0; rw [if_pos hi]) h
theorem mPlain {Q : rI0 → rJ0 → Prop} (k : Q (va_up I 46 (plainR (I 46))) J) : wcV S d 157 [.ref 43] x I J Q := plainW (w := wv x I J) rfl rfl rfl ⟨_, _, rfl, rfl, k⟩
theorem Mf.r45 {g : Nat → Int32} (h : Mz_ I0 J0 (Tl, none) R C I J) (hg : KW g) : Mf I0 J0 Tl (va_up I 45 g) J := by
  obtain ⟨⟨m, a, b, c, e, f, q⟩, e0, e1, u, w⟩ := h
  refine ⟨⟨m, ?_, b, c, e, f, q⟩, ⟨fun b hb => by rw [vu_ne (by omega)]; exact u.1.1 b hb, by rw [vu_ne (by decide)]; exact u.1.2⟩, w⟩
  show KW (va_up I 45 g 45)
  unfold va_up
  rw [if_pos rfl]
  exact hg
theorem hs90 {Q : Int32 → rI0 → rJ0 → Prop} (h : Mz_ I0 J0 (Tl, none) R C B J) (k : ∀ r I J, Mf I0 J0 Tl I J → Q r I J) : ∀ (t c : Nat) (g : Nat → Int32), c + t = 681 → (∀ i, i < c → g i = if i < 590 then B 46 i else 0) → wp S (d + 1) 181 90 [some (.ref 43), some (.int (nI c))] [] (wv x (va_up B 45 g) J) (rI x Q) := by
  intro t
  induction t with
  | zero =>
    intro c g hc hg
    have hc : c = 681 := by omega
    subst hc
    refine v181_43_90 ⟨fun q => absurd q (by decide), fun _ => k _ _ _ ?_⟩
    have m := Mf.r45 h (g := g) ⟨HW_congr (fun i hi => by rw [hg i (by omega), if_pos hi]) h.1.2.2.1, by rw [hg 590 (by omega), if_neg (by omega)]; decide⟩
    exact (((m.z).si (n := 43) (k := 30) (by decide)).sj (n := 43) (k := 16) (by decide)).sj (n := 43) (k := 17) (by decide) |>.f |>.b
  | succ t ih =>
    intro c g hc hg
    have ml : (nI c).toNatClampNeg = c := nI_clamp (by omega)
    have st : ∀ v : Int32, v = (if c < 590 then B 46 c else 0) → wp S (d + 1) 181 90 [some (.ref 43), some (.int (nI c + (1 : Int32)))] [] (wv x (mSet (va_up B 45 g) 45 (nI c).toNatClampNeg v) J) (rI x Q) := by
      intro v hv
      rw [ml, ← nI_succ, mSet_up]
      refine ih (c + 1) _ (by omega) (fun i hi => ?_)
      unfold va_up
      rcases Nat.decEq i c with z | z
      · rw [if_neg z]
        exact hg i (by omega)
      · rw [if_pos z, z]
        exact hv
    refine v181_43_90 ⟨fun _ => ⟨fun q => ⟨?_, nI_in (by omega) (by omega), ?_⟩, fun q => ⟨nI_in (by omega) (by omega), ?_⟩⟩, fun q => absurd (nI_lt (by omega) (by omega) : nI c < nI 681) q⟩
    · have q : nI c < nI 590 := q
      have := i_lt q
      rw [nI_toInt (by omega), nI_toInt (by omega)] at this
      exact nI_in (by omega) (by omega)
    · have q : nI c < nI 590 := q
      have := i_lt q
      rw [nI_toInt (by omega), nI_toInt (by omega)] at this
      refine st _ ?_
      rw [if_pos (by omega), ml]
      rfl
    · have q : ¬ nI c < nI 590 := q
      have := i_nlt q
      rw [nI_toInt (by omega), nI_toInt (by omega)] at this
      refine st _ ?_
      rw [if_neg (by omega)]
theorem hs45 {Q : Int32 → rI0 → rJ0 → Prop} (k : ∀ r I J, Mf I0 J0 Tl I J → Q r I J) : ∀ (t : Nat) (I : rI0) (J : rJ0), (Z - (I 43 4).toInt).toNat = t → Mz_ I0 J0 (Tl, none) R C I J → (I 43 3).toInt = Z → wp S (d + 8) 181 45 [some (.ref 43), none] [] (wv x I J) (rI x Q) := by
  refine lpn ?_
  intro t ih I J ht h hz
  refine v181_43_45 ⟨fun _ => ?_, fun _ => pLine (P := (I 43 4).toInt) ⟨h, Int.le_refl _, hz⟩ (fun I1 J1 h1 => ⟨fun _ => k _ _ _ h1.1.f, fun z => absurd rfl z⟩) (fun I1 J1 h1 g1 => ⟨fun z => absurd z (by decide), fun _ => pSign h1 g1 (fun I2 J2 h2 => ⟨fun _ => k _ _ _ h2.1.f, fun z => absurd rfl z⟩) (fun I2 J2 h2 g2 _ => ⟨fun z => absurd z (by decide), fun _ => ?_⟩)⟩)⟩
  · have e := hs90 (S := S) (d := d + 7) (x := x) h k 681 0 (I 45) (by omega) (fun i hi => absurd hi (by omega))
    rw [up_self] at e
    exact e
  · have b := h2.1.bn2.2.1
    have z2 := h2.2.2
    refine ih (Z - (I2 43 4).toInt).toNat (by omega) _ _ rfl (h2.1.si (n := 43) (k := 19) (by decide)) z2
theorem mHouse {Q : Int32 → rI0 → rJ0 → Prop} (h : Mz_ I0 J0 (Tl, none) R C I J) (k : ∀ r I J, Mf I0 J0 0 I J → Q r I J) : wcI S (d + 8) 181 [.ref 43] x I J Q := by
  refine c181_43 (mTaken (h.si (by decide)) (fun I1 J1 h1 _ => mPlain ?_))
  have h2 := (((((h1.s13 (v := 0)).si (n := 43) (k := 19) (v := 0) (by decide)).si (n := 43) (k := 20) (v := 0) (by decide)).si (n := 43) (k := 21) (v := 0) (by decide)).si (n := 43) (k := 22) (v := 0) (by decide))
  have h3 := h2.r46 (HW_plain ((mSet (mSet (mSet (mSet (mSet I1 43 13 (0 : Int32)) 43 19 (0 : Int32)) 43 20 (0 : Int32)) 43 21 (0 : Int32)) 43 22 (0 : Int32)) 46))
  exact pNext ⟨h3, Int.le_refl _, rfl⟩ (fun I3 J3 h4 _ _ => hs45 k _ I3 J3 rfl h4.1 h4.2.2)
/-! cues -/
theorem rc140 {c : Nat} {s0 : Int32} {Q : Int32 → rI0 → rJ0 → Prop} (hc : c < 30) (h : Pz_ I0 J0 Tl R C P Z I J) (e31 : I 43 31 = nI c) (k0 : ∀ I' J', Pz_ I0 J0 Tl R C P Z I' J' → Q 0 I' J') (k1 : ∀ I' J', Pz_ I0 J0 Tl R C P Z I' J' → PGp P I' → I' 43 31 = nI c → Q 1 I' J') : wp S (d + 3) 192 140 [some (.ref 43), some (.int (nI (3 * c))), none, none] [.int s0] (wv x I J) (rI x Q) := by
  have e1 : nI (3 * c) + (1 : Int32) = nI (3 * c + 1) := (nI_succ _).symm
  have e2 : nI (3 * c) + (2 : Int32) = nI (3 * c + 2) := nI_add (3 * c) 2
  refine v192_43_140 ⟨fun _ => pBad h k0, fun _ => ⟨by rw [e1]; exact nI_in (by omega) (by omega), by rw [e2]; exact nI_in (by omega) (by omega), pNext ((h.sn (by decide)).sn (by decide)) (fun I2 J2 h2 g2 f2 => ?_)⟩⟩
  have e31' : I2 43 31 = nI c := (f2.2.1 31 (by decide)).trans e31
  refine ⟨fun _ => k1 _ _ h2 g2 e31', fun _ => ⟨by decide, pTakes h2 (fun I3 J3 h3 => ⟨fun _ => k0 _ _ h3, fun z => absurd rfl z⟩) (fun I3 J3 h3 g3 f3 _ => ⟨fun z => absurd z (by decide), fun _ => ⟨fun _ => mSeatAt h3.1 (fun r4 _ => ⟨fun _ => pBad h3 k0, fun _ => ⟨by decide, by rw [e2]; exact nI_in (by omega) (by omega), pNext (h3.sn (by decide)) (fun I6 J6 h6 g6 f6 => k1 _ _ h6 g6 ((f6.2.1 31 (by decide)).trans ((f3.2 31 (by decide)).trans e31')))⟩⟩), fun _ => pBad h3 k0⟩⟩)⟩⟩
theorem rc62 {c : Nat} {s1 : Int32} {Q : Int32 → rI0 → rJ0 → Prop} (hc : c < 30) (h : Pz_ I0 J0 Tl R C P Z I J) (e31 : I 43 31 = nI c) (k0 : ∀ I' J', Pz_ I0 J0 Tl R C P Z I' J' → Q 0 I' J') (k1 : ∀ I' J', Pz_ I0 J0 Tl R C P Z I' J' → PGp P I' → I' 43 31 = nI c → Q 1 I' J') : wp S (d + 3) 192 62 [some (.ref 43), some (.int (nI (3 * c))), none, none] [.int s1, .ref 43] (wv x I J) (rI x Q) := by
  refine v192_43_62 (pTakes h (fun I1 J1 h1 => ⟨fun _ => k0 _ _ h1, fun z => absurd rfl z⟩) (fun I1 J1 h1 g1 f1 _ => ⟨fun z => absurd z (by decide), fun _ => ⟨nI_in (by omega) (by omega), ?_⟩⟩))
  have h2 : Pz_ I0 J0 Tl R C P Z (mSet I1 47 (nI (3 * c)).toNatClampNeg (I1 43 18)) J1 := h1.sn (by decide)
  have e2 : (mSet I1 47 (nI (3 * c)).toNatClampNeg (I1 43 18)) 43 31 = nI c := (f1.2 31 (by decide)).trans e31
  exact mWord ⟨fun _ => mWord ⟨fun _ => mWord ⟨fun _ => mWord ⟨fun _ => rc140 hc h2 e2 k0 k1, fun z => absurd rfl z⟩ ⟨fun z => absurd z (by decide), fun _ => rc140 hc h2 e2 k0 k1⟩, fun z => absurd rfl z⟩ ⟨fun z => absurd z (by decide), fun _ => rc140 hc h2 e2 k0 k1⟩, fun z => absurd rfl z⟩ ⟨fun z => absurd z (by decide), fun _ => rc140 hc h2 e2 k0 k1⟩, fun z => absurd rfl z⟩ ⟨fun z => absurd z (by decide), fun _ => rc140 hc h2 e2 k0 k1⟩
theorem pReadCue {c : Nat} {Q : Int32 → rI0 → rJ0 → Prop} (hc : c ≤ 30) (h : Pz_ I0 J0 Tl R C P Z I J) (e31 : I 43 31 = nI c) (k0 : ∀ I' J', Pz_ I0 J0 Tl R C P Z I' J' → Q 0 I' J') (k1 : ∀ I' J', c < 30 → Pz_ I0 J0 Tl R C P Z I' J' → PGp P I' → I' 43 31 = nI c → Q 1 I' J') : wcI S (d + 3) 192 [.ref 43] x I J Q := by
  refine c192_43 (mWord ⟨fun _ => pBad h k0, fun z => absurd rfl z⟩ ⟨fun z => absurd z (by decide), fun _ => ⟨fun _ => pBad h k0, fun n30 => pNext h (fun I4 J4 h4 _ f4 => ?_)⟩⟩)
  have hc : c < 30 := by
    rcases (show c < 30 ∨ c = 30 by omega) with z | z
    · exact z
    · rw [e31, z] at n30
      exact absurd rfl n30
  have e4 : I4 43 31 = nI c := (f4.2.1 31 (by decide)).trans e31
  have e3 : (3 : Int32) * I4 43 31 = nI (3 * c) := by
    rw [e4]
    exact nI_mu 3 c
  rw [e3]
  refine ⟨fun _ => rc62 hc h4 e4 k0 (fun I' J' => k1 I' J' hc), fun n0 => ⟨?_, rc62 hc h4 e4 k0 (fun I' J' => k1 I' J' hc)⟩⟩
  have h0 : 1 ≤ c := by
    rcases (show 1 ≤ c ∨ c = 0 by omega) with z | z
    · exact z
    · rw [e4, z] at n0
      exact absurd rfl n0
  have l3 : (3 : Int32).toInt = 3 := by decide
  have t : (nI (3 * c)).toInt = ((3 * c : Nat) : Int) := nI_toInt (by omega)
  exact i_in (i_sub t l3 (by omega)) (by omega)
theorem cu83 {c : Nat} {Q : Int32 → rI0 → rJ0 → Prop} (hc : c ≤ 30) (h : Mz_ I0 J0 (Tl, none) R C B J) (e31 : B 43 31 = nI c) (k : ∀ r I J, Mc I0 J0 Tl I J → Q r I J) : ∀ (t u : Nat) (g : Nat → Int32), u + t = 3 * c → (∀ i, i < 590 → g i = B 45 i) → g 590 = nI c → wp S (d + 1) 193 83 [some (.ref 43), some (.int (nI u))] [] (wv x (va_up B 45 g) J) (rI x Q) := by
  intro t
  have e3 : ∀ g, (3 : Int32) * (va_up B 45 g) 43 31 = nI (3 * c) := fun g => by
    show (3 : Int32) * B 43 31 = _
    rw [e31]
    exact nI_mu 3 c
  induction t with
  | zero =>
    intro u g hu hg e
    refine v193_43_83 ⟨fun q => absurd q (by rw [e3]; exact nI_nlt (by omega) (by omega)), fun _ => k _ _ _ ⟨Mf.r45 h ⟨HW_congr hg h.1.2.1.1, ?_⟩, ?_⟩⟩
    · rw [e, nI_toInt (by omega)]
      omega
    · unfold va_up
      rw [if_pos rfl]
      exact h.pk.tr ⟨fun i hi _ => hg i hi, fun v hv => by rw [hg (6 + v) (by omega)]⟩
  | succ t ih =>
    intro u g hu hg e
    have ix : (591 : Int32) + nI u = nI (591 + u) := nI_add 591 u
    refine v193_43_83 ⟨fun _ => ⟨nI_in (by omega) (by omega), by rw [ix]; exact nI_in (by omega) (by omega), ?_⟩, fun q => absurd (by rw [e3]; exact nI_lt (by omega) (by omega)) q⟩
    rw [ix, nI_clamp (by omega), ← nI_succ, mSet_up]
    have f : ∀ v i, i ≠ 591 + u → va_up g (591 + u) v i = g i := fun v i hi => by
      unfold va_up
      rw [if_neg hi]
    exact ih (u + 1) _ (by omega) (fun i hi => (f _ i (by omega)).trans (hg i hi)) ((f _ 590 (by omega)).trans e)
theorem cu26 {Q : Int32 → rI0 → rJ0 → Prop} (k : ∀ r I J, Mc I0 J0 Tl I J → Q r I J) : ∀ (t : Nat) (c : Nat) (I : rI0) (J : rJ0), (Z - (I 43 4).toInt).toNat = t → c ≤ 30 → I 43 31 = nI c → Mz_ I0 J0 (Tl, none) R C I J → (I 43 3).toInt = Z → wp S (d + 4) 193 26 [some (.ref 43), none] [] (wv x I J) (rI x Q) := by
  refine lpn ?_
  intro t ih c I J ht hc e31 h hz
  refine v193_43_26 ⟨fun _ => ⟨by decide, ?_⟩, fun _ => pReadCue (P := (I 43 4).toInt) hc ⟨h, Int.le_refl _, hz⟩ e31 (fun I1 J1 h1 => ⟨fun _ => k _ _ _ h1.1.c, fun z => absurd rfl z⟩) (fun I1 J1 hc' h1 g1 e1 => ⟨fun z => absurd z (by decide), fun _ => pSign h1 g1 (fun I2 J2 h2 => ⟨fun _ => k _ _ _ h2.1.c, fun z => absurd rfl z⟩) (fun I2 J2 h2 g2 f2 => ⟨fun z => absurd z (by decide), fun _ => ?_⟩)⟩)⟩
  · show wp S (d + 4) 193 83 _ [] (wv x (mSet I 45 590 (I 43 31)) J) _
    rw [mSet_va, e31]
    refine cu83 hc h e31 k (3 * c) 0 _ (by omega) (fun i hi => ?_) ?_
    · unfold va_up
      rw [if_neg (by omega)]
    · unfold va_up
      rw [if_pos rfl]
  · have b := h2.1.bn2.2.1
    have z2 := h2.2.2
    have e2 : I2 43 31 = nI c := (f2.2.1 31 (by decide)).trans e1
    refine ih (Z - (I2 43 4).toInt).toNat (by omega) (c + 1) _ _ rfl (by omega) ?_ (h2.1.si (n := 43) (k := 31) (by decide)) z2
    rw [e2, ← nI_succ]
    rfl
theorem mCues {Q : Int32 → rI0 → rJ0 → Prop} (h : Mz_ I0 J0 (Tl, none) R C I J) (k : ∀ r I J, Mc I0 J0 0 I J → Q r I J) : wcI S (d + 4) 193 [.ref 43] x I J Q := by
  refine c193_43 (mTaken (h.si (by decide)) (fun I1 J1 h1 _ => ?_))
  have h2 := (h1.s13 (v := 0)).si (n := 43) (k := 31) (v := 0) (by decide)
  exact pNext ⟨h2, Int.le_refl _, rfl⟩ (fun I3 J3 h4 _ f4 => cu26 k _ 0 I3 J3 rfl (by omega) (f4.2.1 31 (by decide)) h4.1 h4.2.2)
end MS0
end
