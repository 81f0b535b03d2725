/-! the class's tokens, exactly: read() from a place p on ends at the token that is found from p on -/
section TC0
variable {S : Nat × (Nat → Int32)} {d : Nat} {x : mX} {I : rI0} {J : rJ0} {b : Nat → Int32} {n lim p : Nat}
def Of5 (I I' : rI0) : Prop := (∀ a, a ≠ 28 → I' a = I a) ∧ ∀ k, ¬ (3 ≤ k ∧ k ≤ 6) → I' 28 k = I 28 k
theorem Of5.rf : Of5 I I := ⟨fun _ _ => rfl, fun _ _ => rfl⟩
theorem Of5.tr {I1 I2 : rI0} (h : Of5 I I1) (h2 : Of5 I1 I2) : Of5 I I2 := ⟨fun a ha => (h2.1 a ha).trans (h.1 a ha), fun k hk => (h2.2 k hk).trans (h.2 k hk)⟩
theorem Of5.s {k : Nat} {v : Int32} (hk : 3 ≤ k ∧ k ≤ 6) : Of5 I (mSet I 28 k v) := ⟨fun a ha => mSet_ne ha, fun j hj => mSet_x (by omega)⟩
def Tst (b : Nat → Int32) (n lim p : Nat) (I : rI0) : Prop := n ≤ 940 ∧ p ≤ n ∧ I 2 = b ∧ I 28 1 = nI n ∧ I 28 2 = nI (min n lim) ∧ I 28 5 = nI p
def Tck (b : Nat → Int32) (n lim p : Nat) (I : rI0) : Prop := p ≤ n ∧ Tst b n lim (uE b n lim p) I ∧ I 28 3 = uK b n lim p ∧ I 28 4 = nI (uA b n lim p) ∧ (uK b n lim p = 3 → I 28 6 = uV b n p)
/-- the number, of the digits alone -/
def tVc (b : Nat → Int32) (p : Nat) : Nat → Int32
  | 0 => 0
  | k + 1 => if tDgt (b (p + k)) = true then tVc b p k * 10 + b (p + k) - 48 else tVc b p k
theorem tVc_d {pl : Nat} : ∀ k, (∀ i, i < k → tDgt (b (pl + i)) = true) → tVc b pl k = tVl b pl k := by
  intro k
  induction k with
  | zero => intro _; rfl
  | succ k ih =>
    intro h
    show (if tDgt (b (pl + k)) = true then tVc b pl k * 10 + b (pl + k) - 48 else tVc b pl k) = tVl b pl k * 10 + b (pl + k) - 48
    rw [if_pos (h k (by omega)), ih (fun i hi => h i (by omega))]
theorem tAln_t {c : Int32} : tAln c = true ↔ (97 ≤ c.toInt ∧ c.toInt ≤ 122) ∨ (48 ≤ c.toInt ∧ c.toInt ≤ 57) := by
  unfold tAln
  rw [Bool.or_eq_true, tAlp_t, tDgt_t]
theorem c_lt {c v : Int32} {V : Int} (hv : v.toInt = V) : c < v ↔ c.toInt < V := by rw [Int32.lt_iff_toInt_lt, hv]
theorem c_gt {c v : Int32} {V : Int} (hv : v.toInt = V) : v < c ↔ V < c.toInt := by rw [Int32.lt_iff_toInt_lt, hv]
theorem v48 : (48 : Int32).toInt = 48 := by decide
theorem v57 : (57 : Int32).toInt = 57 := by decide
theorem v97 : (97 : Int32).toInt = 97 := by decide
theorem v122 : (122 : Int32).toInt = 122 := by decide
theorem tCn_sum {pl : Nat} : ∀ k, (∀ i, i < k → tAln (b (pl + i)) = true) → tCn tAlp b pl k + tCn tDgt b pl k = k := by
  intro k
  induction k with
  | zero => intro _; rfl
  | succ k ih =>
    intro h
    have e := ih (fun i hi => h i (by omega))
    have a := tAln_x (h k (by omega))
    show tCn tAlp b pl k + (if tAlp (b (pl + k)) = true then 1 else 0) + (tCn tDgt b pl k + (if tDgt (b (pl + k)) = true then 1 else 0)) = k + 1
    cases q : tAlp (b (pl + k))
    · rw [q] at a
      have a : tDgt (b (pl + k)) = true := a
      rw [if_neg (by decide), if_pos a]
      omega
    · rw [q] at a
      rw [if_pos rfl, if_neg (by rw [a]; decide)]
      omega
theorem rs224 {pl : Nat} {Q : rI0 → rJ0 → Prop} (hn : n ≤ 940) (hpl : pl < min n lim) (e5 : I 28 5 = nI (tRn b n pl)) (k : ∀ I', Of5 I I' → I' 28 4 = I 28 4 → I' 28 6 = I 28 6 → I' 28 3 = tkK b n lim pl → I' 28 5 = nI (tkE b n lim pl) → Q I' J) : wp S d 70 224 [some (.ref 28), some (.int (nI (tCn tAlp b pl (tRn b n pl - pl)))), some (.int (nI (tCn tDgt b pl (tRn b n pl - pl)))), some (.int (if tRn b n pl < n then b (tRn b n pl) else 32)), none] [] (wv x I J) (rV x Q) := by
  have r := tRn_le (b := b) (n := n) (p := pl)
  have r2 := r.2 (by omega)
  have sm := tCn_sum (b := b) (pl := pl) (tRn b n pl - pl) (fun i hi => tRn_in (n := n) (p := pl) (by omega) (by omega))
  by_cases z : tRn b n pl = pl
  · rw [z, Nat.sub_self, if_pos (by omega : pl < n)]
    have eE : tkE b n lim pl = pl + 1 := by
      unfold tkE
      rw [if_neg (by omega), if_pos z]
    have eK : tkK b n lim pl = (if b pl = 59 ∨ b pl = 40 ∨ b pl = 41 ∨ (¬ b pl < 60 ∧ ¬ 62 < b pl) then b pl else 0) := by
      unfold tkK
      rw [if_neg (by omega), if_pos z]
    have f : ∀ v, v = tkK b n lim pl → Q (mSet (mSet I 28 5 (I 28 5 + 1)) 28 3 v) J := fun v hv => k _ ((Of5.s (by omega)).tr (Of5.s (by omega))) rfl rfl hv (by show I 28 5 + 1 = _; rw [e5, z, eE, nI_succ])
    have y : (b pl = 59 ∨ b pl = 40 ∨ b pl = 41 ∨ (¬ b pl < 60 ∧ ¬ 62 < b pl)) → wp S d 70 270 [some (.ref 28), some (.int (nI (tCn tAlp b pl 0))), some (.int (nI (tCn tDgt b pl 0))), some (.int (b pl)), none] [] (wv x (mSet I 28 5 (I 28 5 + 1)) J) (rV x Q) := fun y => v70_28_270 ⟨fun q => absurd q (by decide), fun _ => f _ (by rw [eK, if_pos y])⟩
    have w : ¬ (b pl = 59 ∨ b pl = 40 ∨ b pl = 41 ∨ (¬ b pl < 60 ∧ ¬ 62 < b pl)) → Q (mSet (mSet I 28 5 (I 28 5 + 1)) 28 3 0) J := fun y => f _ (by rw [eK, if_neg y])
    refine v70_28_224 ⟨fun _ => ⟨fun h => y (Or.inl h), fun h1 => ⟨fun h => y (Or.inr (Or.inl h)), fun h2 => ⟨fun h => y (Or.inr (Or.inr (Or.inl h))), fun h3 => ⟨fun h => ⟨fun _ => w ?_, fun q => absurd rfl q⟩, fun h4 => ⟨fun h => ⟨fun _ => w ?_, fun q => absurd rfl q⟩, fun h5 => y (Or.inr (Or.inr (Or.inr ⟨h4, h5⟩)))⟩⟩⟩⟩⟩, fun q => absurd rfl q⟩
    · rintro (q | q | q | q)
      · exact h1 q
      · exact h2 q
      · exact h3 q
      · exact q.1 h
    · rintro (q | q | q | q)
      · exact h1 q
      · exact h2 q
      · exact h3 q
      · exact q.2 h
  · have eE : tkE b n lim pl = tRn b n pl := by
      unfold tkE
      rw [if_neg (by omega), if_neg z]
    have f : ∀ v, v = tkK b n lim pl → Q (mSet I 28 3 v) J := fun v hv => k _ (Of5.s (by omega)) rfl rfl hv (by show I 28 5 = _; rw [e5, eE])
    have eK : tkK b n lim pl = (if tCn tDgt b pl (tRn b n pl - pl) = 0 then (if tRn b n pl - pl ≤ 8 then 2 else 0) else if tCn tAlp b pl (tRn b n pl - pl) = 0 ∧ tRn b n pl - pl ≤ 3 then 3 else 0) := by
      unfold tkK
      rw [if_neg (by omega), if_neg z]
    have i0 : ∀ {m : Nat}, m ≤ 940 → nI m = 0 → m = 0 := fun {m} h q => by
      rcases Nat.eq_zero_or_pos m with w | w
      · exact w
      · exact absurd q (nI_ne0 w (by omega))
    refine v70_28_224 ⟨fun q => ?_, fun _ => ⟨fun q => ⟨fun q8 => ?_, fun q8 => ?_⟩, fun q => ⟨fun qa => ⟨fun q3 => ?_, fun q3 => ?_⟩, fun qa => ?_⟩⟩⟩
    · rw [nI_add, sm] at q
      exact absurd (i0 (by omega) q) (by omega)
    · have q := i0 (by omega) q
      refine f _ ?_
      rw [eK, if_pos q, if_neg]
      intro w
      exact absurd q8 (nI_nlt (a := 8) (by omega) (by omega))
    · have q := i0 (by omega) q
      refine f _ ?_
      rw [eK, if_pos q, if_pos]
      rcases Nat.lt_or_ge 8 (tRn b n pl - pl) with w | w
      · exact absurd (nI_lt (a := 8) (by omega) (by omega)) q8
      · exact w
    · have qa := i0 (by omega) qa
      have q : ¬ tCn tDgt b pl (tRn b n pl - pl) = 0 := by omega
      refine f _ ?_
      rw [eK, if_neg q, if_neg]
      intro w
      exact absurd q3 (nI_nlt (a := 3) (by omega) (by omega))
    · have qa := i0 (by omega) qa
      have q : ¬ tCn tDgt b pl (tRn b n pl - pl) = 0 := by omega
      refine f _ ?_
      rw [eK, if_neg q, if_pos]
      refine ⟨qa, ?_⟩
      rcases Nat.lt_or_ge 3 (tRn b n pl - pl) with w | w
      · exact absurd (nI_lt (a := 3) (by omega) (by omega)) q3
      · exact w
    · have q : ¬ tCn tDgt b pl (tRn b n pl - pl) = 0 := fun w => q (by rw [w]; rfl)
      refine f _ ?_
      rw [eK, if_neg q, if_neg]
      intro w
      exact qa (by rw [w.1]; rfl)
theorem rs119 {pl : Nat} {Q : rI0 → rJ0 → Prop} (hn : n ≤ 940) : ∀ (m st : Nat) (I : rI0), st + m = n → pl ≤ st → I 2 = b → I 28 1 = nI n → I 28 5 = nI st → I 28 6 = tVc b pl (st - pl) → (∀ I', Of5 I I' → I' 28 4 = I 28 4 → I' 28 5 = nI (tRn b n st) → I' 28 6 = tVc b pl (tRn b n st - pl) → wp S d 70 224 [some (.ref 28), some (.int (nI (tCn tAlp b pl (tRn b n st - pl)))), some (.int (nI (tCn tDgt b pl (tRn b n st - pl)))), some (.int (if tRn b n st < n then b (tRn b n st) else 32)), none] [] (wv x I' J) (rV x Q)) → wp S d 70 119 [some (.ref 28), some (.int (nI (tCn tAlp b pl (st - pl)))), some (.int (nI (tCn tDgt b pl (st - pl)))), some (.int (if st < n then b st else 32)), none] [] (wv x I J) (rV x Q) := by
  intro m
  induction m with
  | zero =>
    intro st I hm hp e2 e1 e5 e6 k
    have e : tRn b n st = st := tGo_e (fun z => by omega)
    rw [e] at k
    exact v70_28_119 ⟨fun z => absurd z (by rw [e1, e5]; exact nI_nlt (by omega) (by omega)), fun _ => k I Of5.rf rfl e5 e6⟩
  | succ m ih =>
    intro st I hm hp e2 e1 e5 e6 k
    rw [if_pos (by omega : st < n)]
    have hlt : I 28 5 < I 28 1 := by rw [e1, e5]; exact nI_lt (by omega) (by omega)
    by_cases z : tAln (b st) = true
    · have zt := tAln_t.mp z
      have e : tRn b n st = tRn b n (st + 1) := tGo_s (by omega) z
      rw [e] at k
      have g : ∀ I1, Of5 I I1 → I1 28 4 = I 28 4 → I1 28 5 = nI st → I1 28 6 = tVc b pl (st + 1 - pl) → wp S d 70 185 [some (.ref 28), some (.int (nI (tCn tAlp b pl (st + 1 - pl)))), some (.int (nI (tCn tDgt b pl (st + 1 - pl)))), some (.int (b st)), none] [] (wv x I1 J) (rV x Q) := by
        intro I1 o1 f4 f5 f6
        have a2 : I1 2 = b := (o1.1 2 (by decide)).trans e2
        have a1 : I1 28 1 = nI n := (o1.2 1 (by omega)).trans e1
        have w := ih (st + 1) (mSet I1 28 5 (I1 28 5 + 1)) (by omega) (by omega) (by rw [mSet_ne (by decide)]; exact a2) a1 (by show I1 28 5 + 1 = _; rw [f5, nI_succ]) f6 (fun I' o g4 g5 g6 => k I' (o1.tr ((Of5.s (by omega)).tr o)) (g4.trans f4) g5 g6)
        refine v70_28_185 ⟨fun y => ?_, fun y => ?_⟩
        · rw [f5, a1, ← nI_succ] at y
          have y1 : st + 1 < n := by
            rcases Nat.lt_or_ge (st + 1) n with h | h
            · exact h
            · exact absurd y (nI_nlt h (by omega))
          refine ⟨by rw [f5, ← nI_succ]; exact nI_in (by omega) (by omega), ?_⟩
          have l3 : I1 2 ((I1 28 5 + 1).toNatClampNeg) = (if st + 1 < n then b (st + 1) else 32) := by rw [if_pos y1, a2, f5, ← nI_succ, nI_clamp (by omega)]
          rw [l3]
          exact w
        · rw [f5, a1, ← nI_succ] at y
          have y1 : ¬ st + 1 < n := fun h => y (nI_lt h (by omega))
          rw [if_neg y1] at w
          exact w
      have s1 : st + 1 - pl = (st - pl) + 1 := by omega
      have s2 : pl + (st - pl) = st := by omega
      have h154 : wp S d 70 154 [some (.ref 28), some (.int (nI (tCn tAlp b pl (st - pl)))), some (.int (nI (tCn tDgt b pl (st - pl)))), some (.int (b st)), none] [] (wv x I J) (rV x Q) := by
        refine v70_28_154 ⟨fun y => ?_, fun y => ?_⟩
        · rw [c_lt v97] at y
          have dg : tDgt (b st) = true := tDgt_t.mpr (by omega)
          have na : ¬ tAlp (b st) = true := fun q => by have := tAlp_t.mp q; omega
          have ea : tCn tAlp b pl (st + 1 - pl) = tCn tAlp b pl (st - pl) := by
            rw [s1]
            show tCn tAlp b pl (st - pl) + (if tAlp (b (pl + (st - pl))) = true then 1 else 0) = _
            rw [s2, if_neg na]
            rfl
          have ed : tCn tDgt b pl (st + 1 - pl) = tCn tDgt b pl (st - pl) + 1 := by
            rw [s1]
            show tCn tDgt b pl (st - pl) + (if tDgt (b (pl + (st - pl))) = true then 1 else 0) = _
            rw [s2, if_pos dg]
          have w := g (mSet I 28 6 (I 28 6 * 10 + b st - 48)) (Of5.s (by omega)) rfl e5 (by
            show I 28 6 * 10 + b st - 48 = _
            rw [e6, s1]
            show _ = (if tDgt (b (pl + (st - pl))) = true then tVc b pl (st - pl) * 10 + b (pl + (st - pl)) - 48 else _)
            rw [s2, if_pos dg])
          rw [ea, ed, nI_succ] at w
          exact w
        · have y : 97 ≤ (b st).toInt := by
            rw [c_lt v97] at y
            omega
          have al : tAlp (b st) = true := tAlp_t.mpr (by omega)
          have nd : ¬ tDgt (b st) = true := fun q => by have := tDgt_t.mp q; omega
          have ea : tCn tAlp b pl (st + 1 - pl) = tCn tAlp b pl (st - pl) + 1 := by
            rw [s1]
            show tCn tAlp b pl (st - pl) + (if tAlp (b (pl + (st - pl))) = true then 1 else 0) = _
            rw [s2, if_pos al]
          have ed : tCn tDgt b pl (st + 1 - pl) = tCn tDgt b pl (st - pl) := by
            rw [s1]
            show tCn tDgt b pl (st - pl) + (if tDgt (b (pl + (st - pl))) = true then 1 else 0) = _
            rw [s2, if_neg nd]
            rfl
          have w := g I Of5.rf rfl e5 (by
            rw [e6, s1]
            show _ = (if tDgt (b (pl + (st - pl))) = true then tVc b pl (st - pl) * 10 + b (pl + (st - pl)) - 48 else _)
            rw [s2, if_neg nd])
          rw [ea, ed, nI_succ] at w
          exact w
      refine v70_28_119 ⟨fun _ => ⟨fun h1 => ⟨fun h2 => ?_, fun h2 => ⟨fun h3 => ?_, fun _ => h154⟩⟩, fun h1 => ⟨fun h4 => ?_, fun _ => h154⟩⟩, fun q => absurd hlt q⟩
      · rw [c_lt v97] at h1
        rw [c_lt v48] at h2
        omega
      · rw [c_lt v97] at h1
        rw [c_gt v57] at h3
        omega
      · rw [c_gt v122] at h4
        omega
    · have e : tRn b n st = st := tGo_e (fun q => z q.2)
      rw [e, if_pos (by omega : st < n)] at k
      have w := k I Of5.rf rfl e5 e6
      refine v70_28_119 ⟨fun _ => ⟨fun h1 => ⟨fun h2 => w, fun h2 => ⟨fun h3 => w, fun h3 => ?_⟩⟩, fun h1 => ⟨fun h4 => ⟨fun h2 => w, fun h2 => ⟨fun h3 => w, fun h3 => ?_⟩⟩, fun h4 => ?_⟩⟩, fun q => absurd hlt q⟩
      · rw [c_lt v48] at h2
        rw [c_gt v57] at h3
        exact absurd (tAln_t.mpr (by omega)) z
      · rw [c_lt v48] at h2
        rw [c_gt v57] at h3
        exact absurd (tAln_t.mpr (by omega)) z
      · rw [c_lt v97] at h1
        rw [c_gt v122] at h4
        exact absurd (tAln_t.mpr (by omega)) z
theorem rs52 {q : Nat} {Q : rI0 → rJ0 → Prop} (hn : n ≤ 940) (hq : q ≤ n) (e2 : I 2 = b) (e1 : I 28 1 = nI n) (ee : I 28 2 = nI (min n lim)) (e5 : I 28 5 = nI q) (k : ∀ I', Of5 I I' → I' 28 3 = tkK b n lim q → I' 28 4 = nI (tkA n lim q) → I' 28 5 = nI (tkE b n lim q) → (tkK b n lim q = 3 → I' 28 6 = tVc b q (tRn b n q - q)) → Q I' J) : wp S d 70 52 [some (.ref 28), none, none, none, none] [] (wv x I J) (rV x Q) := by
  refine v70_28_52 ⟨fun z => ?_, fun z => ?_⟩
  · rw [e5, ee] at z
    have hs : q < min n lim := by
      rcases Nat.lt_or_ge q (min n lim) with w | w
      · exact w
      · exact absurd z (nI_nlt w (by omega))
    refine ⟨by rw [e5]; exact nI_in (by omega) (by omega), ?_⟩
    have w := rs119 (S := S) (d := d) (x := x) (J := J) (b := b) (pl := q) (Q := Q) hn (n - q) q (mSet (mSet I 28 4 (I 28 5)) 28 6 0) (by omega) (Nat.le_refl _) (by rw [mSet_ne (by decide), mSet_ne (by decide)]; exact e2) e1 e5 (by rw [Nat.sub_self]; rfl) (fun I1 o1 f4 f5 f6 => rs224 hn hs f5 (fun I' o2 g4 g6 g3 g5 => k I' ((Of5.s (by omega)).tr ((Of5.s (by omega)).tr (o1.tr o2))) g3 (by
      rw [g4, f4]
      show I 28 5 = _
      unfold tkA
      rw [if_neg (by omega), e5]) g5 (fun _ => by rw [g6, f6])))
    rw [Nat.sub_self, if_pos (by omega : q < n)] at w
    have l3 : I 2 ((I 28 5).toNatClampNeg) = b q := by rw [e2, e5, nI_clamp (by omega)]
    rw [l3]
    exact w
  · rw [e5, ee] at z
    have hs : min n lim ≤ q := by
      rcases Nat.lt_or_ge q (min n lim) with w | w
      · exact absurd (nI_lt w (by omega)) z
      · exact w
    have f : ∀ v, v = tkK b n lim q → (tkK b n lim q = 3 → False) → Q (mSet (mSet I 28 4 (I 28 2)) 28 3 v) J := fun v hv h3 => k _ ((Of5.s (by omega)).tr (Of5.s (by omega))) hv (by
      show I 28 2 = _
      unfold tkA
      rw [if_pos hs, ee]) (by
      show I 28 5 = _
      unfold tkE
      rw [if_pos hs, e5]) (fun y => (h3 y).elim)
    have eK : tkK b n lim q = (if lim < n then 0 else 1) := by
      unfold tkK
      rw [if_pos hs]
    refine ⟨fun y => ?_, fun y => ?_⟩
    · rw [ee, e1] at y
      have : lim < n := by
        rcases Nat.lt_or_ge (min n lim) n with w | w
        · omega
        · exact absurd y (nI_nlt w (by omega))
      rw [if_pos this] at eK
      exact f _ eK.symm (fun q => by rw [eK] at q; exact absurd q (by decide))
    · rw [ee, e1] at y
      have : ¬ lim < n := fun w => y (nI_lt (by omega) (by omega))
      rw [if_neg this] at eK
      exact f _ eK.symm (fun q => by rw [eK] at q; exact absurd q (by decide))
theorem rs0 {Q : rI0 → rJ0 → Prop} (hn : n ≤ 940) : ∀ (m st : Nat) (I : rI0), st + m = n → I 2 = b → I 28 1 = nI n → I 28 2 = nI (min n lim) → I 28 5 = nI st → (∀ I', Of5 I I' → I' 28 3 = uK b n lim st → I' 28 4 = nI (uA b n lim st) → I' 28 5 = nI (uE b n lim st) → (uK b n lim st = 3 → I' 28 6 = tVc b (tSk b n st) (uL b n st)) → Q I' J) → wp S d 70 0 [some (.ref 28), none, none, none, none] [] (wv x I J) (rV x Q) := by
  intro m
  induction m with
  | zero =>
    intro st I hm e2 e1 ee e5 k
    have e : tSk b n st = st := tGo_e (fun z => by omega)
    unfold uK uA uE uL at k
    rw [e] at k
    exact v70_28_0 ⟨fun z => absurd z (by rw [e1, e5]; exact nI_nlt (by omega) (by omega)), fun _ => rs52 hn (by omega) e2 e1 ee e5 k⟩
  | succ m ih =>
    intro st I hm e2 e1 ee e5 k
    have hin : ¬ mOut (I 28 5) 940 := by rw [e5]; exact nI_in (by omega) (by omega)
    have l3 : I 2 ((I 28 5).toNatClampNeg) = b st := by rw [e2, e5, nI_clamp (by omega)]
    have tr : tBlk (b st) = true → wp S d 70 0 [some (.ref 28), none, none, none, none] [] (wv x (mSet I 28 5 (I 28 5 + 1)) J) (rV x Q) := by
      intro z
      have e : tSk b n st = tSk b n (st + 1) := tGo_s (by omega) z
      unfold uK uA uE uL at k
      rw [e] at k
      exact ih (st + 1) _ (by omega) (by rw [mSet_ne (by decide)]; exact e2) e1 ee (by show I 28 5 + 1 = _; rw [e5, nI_succ]) (fun I' o a3 a4 a5 a6 => k I' ((Of5.s (by omega)).tr o) a3 a4 a5 a6)
    refine v70_28_0 ⟨fun _ => ⟨hin, fun z => tr ?_, fun z1 => ⟨hin, fun z => tr ?_, fun z2 => ?_⟩⟩, fun q => absurd (by rw [e1, e5]; exact nI_lt (by omega) (by omega)) q⟩
    · rw [l3] at z
      unfold tBlk
      rw [z]
      rfl
    · rw [l3] at z
      unfold tBlk
      rw [z]
      rfl
    · rw [l3] at z1 z2
      have nb : ¬ tBlk (b st) = true := by
        unfold tBlk
        rw [Bool.or_eq_true, decide_eq_true_iff, decide_eq_true_iff]
        rintro (q | q)
        · exact z1 q
        · exact z2 q
      have e : tSk b n st = st := tGo_e (fun z => nb z.2)
      unfold uK uA uE uL at k
      rw [e] at k
      exact rs52 hn (by omega) e2 e1 ee e5 k
theorem readS {Q : rI0 → rJ0 → Prop} (h : Tst b n lim p I) (k : ∀ I', Of5 I I' → Tck b n lim p I' → Q I' J) : wcV S d 70 [.ref 28] x I J Q := by
  obtain ⟨hn, hp, e2, e1, ee, e5⟩ := h
  show wp S d 70 0 [some (.ref 28), none, none, none, none] [] (wv x I J) (rV x Q)
  refine rs0 (b := b) (lim := lim) hn (n - p) p I (by omega) e2 e1 ee e5 (fun I' o a3 a4 a5 a6 => k I' o ⟨hp, ⟨hn, (uE_le hp).2, (o.1 2 (by decide)).trans e2, (o.2 1 (by omega)).trans e1, (o.2 2 (by omega)).trans ee, a5⟩, a3, a4, fun z => ?_⟩)
  rw [a6 z]
  exact tVc_d _ (uK_3 z).2.2.2.2.2
theorem openS {l : Int32} {Q : rI0 → rJ0 → Prop} (hn : n ≤ 940) (hl : l = nI lim) (hm : lim ≤ 940) (k : ∀ I', (∀ a, a ≠ 28 → I' a = I a) → I' 28 7 = I 28 7 → I' 28 8 = 0 → Tck (I 2) n lim 0 I' → Q I' J) : wcV S (d + 1) 69 [.ref 28, .int (nI n), .int l] x I J Q := by
  refine c69_28 ?_
  rw [if_neg (show ¬ (940 : Int32) < nI n from nI_nlt (b := n) (a := 940) (by omega) (by omega))]
  have ee : (if l < nI n then l else nI n) = nI (min n lim) := by
    rw [hl]
    by_cases z : nI lim < nI n
    · rw [if_pos z]
      rcases Nat.lt_or_ge lim n with w | w
      · rw [Nat.min_eq_right (by omega)]
      · exact absurd z (nI_nlt w (by omega))
    · rw [if_neg z]
      rcases Nat.lt_or_ge lim n with w | w
      · exact absurd (nI_lt w (by omega)) z
      · rw [Nat.min_eq_left w]
  rw [ee]
  refine readS (b := I 2) (n := n) (lim := lim) (p := 0) ⟨hn, by omega, rfl, rfl, rfl, rfl⟩ (fun I' o t => k I' (fun a ha => ?_) ?_ ?_ t)
  · rw [o.1 a ha, mSet_ne ha, mSet_ne ha, mSet_ne ha, mSet_ne ha]
  · rw [o.2 7 (by omega)]
    rfl
  · rw [o.2 8 (by omega)]
    rfl
end TC0
