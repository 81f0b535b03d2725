/-! the reference's tokens, exactly: next() from a place p on ends at the token that is found from p on -/
section TM0
variable {S : Nat × (Nat → Int32)} {d : Nat} {x : mX} {I : rI0} {J : rJ0} {b : Nat → Int32} {n lim p : Nat}
def Nf5 (I : rI0) (J : rJ0) (I' : rI0) (J' : rJ0) : Prop := (∀ a, a ≠ 43 → I' a = I a) ∧ (∀ k, ¬ (k = 4 ∨ (9 ≤ k ∧ k ≤ 12)) → I' 43 k = I 43 k) ∧ (∀ a, a ≠ 43 → J' a = J a) ∧ ∀ k, k ≠ 15 → J' 43 k = J 43 k
theorem Nf5.rf : Nf5 I J I J := ⟨fun _ _ => rfl, fun _ _ => rfl, fun _ _ => rfl, fun _ _ => rfl⟩
theorem Nf5.tr {I1 I2 : rI0} {J1 J2 : rJ0} (h : Nf5 I J I1 J1) (h2 : Nf5 I1 J1 I2 J2) : Nf5 I J I2 J2 := ⟨fun a ha => (h2.1 a ha).trans (h.1 a ha), fun k hk => (h2.2.1 k hk).trans (h.2.1 k hk), fun a ha => (h2.2.2.1 a ha).trans (h.2.2.1 a ha), fun k hk => (h2.2.2.2 k hk).trans (h.2.2.2 k hk)⟩
theorem Nf5.s {k : Nat} {v : Int32} (hk : k = 4 ∨ (9 ≤ k ∧ k ≤ 12)) : Nf5 I J (mSet I 43 k v) J := ⟨fun a ha => mSet_ne ha, fun j hj => mSet_x (by omega), fun _ _ => rfl, fun _ _ => rfl⟩
theorem Nf5.w {v : Int64} : Nf5 I J I (mSet J 43 15 v) := ⟨fun _ _ => rfl, fun _ _ => rfl, fun a ha => mSet_ne ha, fun j hj => mSet_x (by omega)⟩
def tokOf (K : Int32) : Int32 := if K = 0 then 4 else if K = 1 then 0 else if K = 2 then 1 else if K = 3 then 2 else 3
theorem tokOf_s {c : Int32} (h : c = 59 ∨ c = 40 ∨ c = 41 ∨ (¬ c < 60 ∧ ¬ 62 < c)) : tokOf c = 3 := by
  have g : ¬ c = 0 ∧ ¬ c = 1 ∧ ¬ c = 2 ∧ ¬ c = 3 := by
    rcases h with h | h | h | h
    · rw [h]; decide
    · rw [h]; decide
    · rw [h]; decide
    · refine ⟨fun q => ?_, fun q => ?_, fun q => ?_, fun q => ?_⟩ <;> (rw [q] at h; exact absurd h.1 (by decide))
  unfold tokOf
  rw [if_neg g.1, if_neg g.2.1, if_neg g.2.2.1, if_neg g.2.2.2]
def Nst (b : Nat → Int32) (n lim p : Nat) (I : rI0) : Prop := n ≤ 940 ∧ lim ≤ 940 ∧ p ≤ n ∧ (∀ i, i < 940 → I 44 i &&& 255 = b i) ∧ I 43 3 = nI n ∧ I 43 5 = nI lim ∧ I 43 4 = nI p
def Nck (b : Nat → Int32) (n lim p : Nat) (I : rI0) (J : rJ0) : Prop := p ≤ n ∧ Nst b n lim (uE b n lim p) I ∧ I 43 9 = tokOf (uK b n lim p) ∧ I 43 10 = nI (uA b n lim p) ∧ (uK b n lim p = 2 → I 43 11 = nI (uL b n p) ∧ J 43 15 = tPk b (tSk b n p) (uL b n p)) ∧ (uK b n lim p = 3 → I 43 12 = uV b n p) ∧ (tokOf (uK b n lim p) = 3 → I 43 12 = uK b n lim p)
theorem Nst.mv {I' : rI0} {q : Nat} (h : Nst b n lim p I) (hq : q ≤ n) (a : I' 44 = I 44) (e3 : I' 43 3 = I 43 3) (e5 : I' 43 5 = I 43 5) (e4 : I' 43 4 = nI q) : Nst b n lim q I' := ⟨h.1, h.2.1, hq, fun i hi => by rw [a]; exact h.2.2.2.1 i hi, e3.trans h.2.2.2.2.1, e5.trans h.2.2.2.2.2.1, e4⟩
def chr (b : Nat → Int32) (n p : Nat) : Int32 := if p < n then b p else -1
theorem peekS {Q : Int32 → rI0 → rJ0 → Prop} (h : Nst b n lim p I) (k : Q (chr b n p) I J) : wcI S d 158 [.ref 43] x I J Q := by
  obtain ⟨hn, hl, hp, hb, e3, e5, e4⟩ := h
  refine c158_43 ⟨fun z => ?_, fun z => ?_⟩
  · rw [e4, e3] at z
    have y : p < n := by
      rcases Nat.lt_or_ge p n with w | w
      · exact w
      · exact absurd z (nI_nlt w (by omega))
    refine ⟨by rw [e4]; exact nI_in (by omega) (by omega), ?_⟩
    rw [e4, nI_clamp (by omega), hb p (by omega)]
    unfold chr at k
    rw [if_pos y] at k
    exact k
  · rw [e4, e3] at z
    have y : ¬ p < n := fun w => z (nI_lt w (by omega))
    unfold chr at k
    rw [if_neg y] at k
    exact k
theorem tAlp_f {c : Int32} : tAlp c = false ↔ c < 97 ∨ (¬ c < 97 ∧ 122 < c) := by
  unfold tAlp
  by_cases h : c < 97
  · simp [h]
  · by_cases g : 122 < c
    · simp [h, g]
    · simp [h, g]
theorem smallS {c : Int32} {Q : Int32 → rI0 → rJ0 → Prop} (k1 : tAlp c = true → Q 1 I J) (k0 : tAlp c = false → Q 0 I J) : wcI S d 159 [.int c] x I J Q :=
  c159 ⟨fun z => k0 (tAlp_f.mpr (Or.inl z)), fun z => ⟨fun y => k0 (tAlp_f.mpr (Or.inr ⟨z, y⟩)), fun y => k1 (by unfold tAlp; simp [z, y])⟩⟩
theorem digitS {c : Int32} {Q : Int32 → rI0 → rJ0 → Prop} (k1 : tDgt c = true → Q 1 I J) (k0 : tDgt c = false → Q 0 I J) : wcI S d 160 [.int c] x I J Q :=
  c160 ⟨fun z => k0 (by unfold tDgt; simp [z]), fun z => ⟨fun y => k0 (by unfold tDgt; simp [z, y]), fun y => k1 (by unfold tDgt; simp [z, y])⟩⟩
/-- the kind of a run of letters and digits -/
theorem tkK_run {q : Nat} (hq : q < min n lim) (hr : q < tRn b n q) : tkK b n lim q = (if tCn tDgt b q (tRn b n q - q) = 0 then (if tRn b n q - q ≤ 8 then 2 else 0) else if tCn tAlp b q (tRn b n q - q) = 0 ∧ tRn b n q - q ≤ 3 then 3 else 0) := by
  unfold tkK
  rw [if_neg (by omega), if_neg (by omega)]
theorem tCn_pos {P : Int32 → Bool} {q k : Nat} (hk : 0 < k) (h : P (b q) = true) : ¬ tCn P b q k = 0 := by
  intro e
  have := (tCn_0 k).mp e 0 hk
  rw [Nat.add_zero, h] at this
  cases this
theorem tkK_a {q : Nat} (hq : q < min n lim) (hr : q < tRn b n q) (ha : tAlp (b q) = true) : (tSame b q (tRn b n q - q) → tkK b n lim q = (if tRn b n q - q ≤ 8 then 2 else 0)) ∧ (¬ tSame b q (tRn b n q - q) → tkK b n lim q = 0) := by
  have al : ∀ i, i < tRn b n q - q → tAln (b (q + i)) = true := fun i hi => tRn_in (n := n) (p := q) (by omega) (by omega)
  have s := tSame_w (b := b) (p := q) al (by omega) ha
  refine ⟨fun h => ?_, fun h => ?_⟩
  · rw [tkK_run hq hr, if_pos (s.mp h)]
  · rw [tkK_run hq hr, if_neg (fun z => h (s.mpr z)), if_neg (fun z => tCn_pos (by omega) ha z.1)]
theorem tkK_d {q : Nat} (hq : q < min n lim) (hr : q < tRn b n q) (ha : tAlp (b q) = false) : (tSame b q (tRn b n q - q) → tkK b n lim q = (if tRn b n q - q ≤ 3 then 3 else 0)) ∧ (¬ tSame b q (tRn b n q - q) → tkK b n lim q = 0) := by
  have al : ∀ i, i < tRn b n q - q → tAln (b (q + i)) = true := fun i hi => tRn_in (n := n) (p := q) (by omega) (by omega)
  have s := tSame_n (b := b) (p := q) al (by omega) ha
  have dg : tDgt (b q) = true := by
    have := tAln_x (al 0 (by omega))
    rw [Nat.add_zero, ha] at this
    exact this
  refine ⟨fun h => ?_, fun h => ?_⟩
  · rw [tkK_run hq hr, if_neg (tCn_pos (by omega) dg)]
    by_cases z : tRn b n q - q ≤ 3
    · rw [if_pos ⟨s.mp h, z⟩, if_pos z]
    · rw [if_neg (fun y => z y.2), if_neg z]
  · rw [tkK_run hq hr, if_neg (tCn_pos (by omega) dg), if_neg (fun z => h (s.mpr z.1))]
theorem tSame_s {q k : Nat} : tSame b q (k + 1) ↔ tSame b q k ∧ tAlp (b (q + k)) = tAlp (b q) := by
  constructor
  · intro h
    exact ⟨fun i hi => h i (by omega), h k (by omega)⟩
  · intro h i hi
    rcases (show i = k ∨ i < k by omega) with z | z
    · subst z
      exact h.2
    · exact h.1 i z
/-- the end of a run, at 181 -/
def NxE (b : Nat → Int32) (n lim pl R : Nat) (I0 : rI0) (J0 : rJ0) (I' : rI0) (J' : rJ0) : Prop := Nf5 I0 J0 I' J' ∧ I' 43 4 = nI R ∧ I' 43 10 = I0 43 10 ∧ I' 43 9 = tokOf (tkK b n lim pl) ∧ I' 43 11 = nI (R - pl) ∧ I' 43 12 = tVl b pl (min 3 (R - pl)) ∧ J' 43 15 = tPk b pl (min 8 (R - pl))
theorem nx181 {pl : Nat} {l1 l2 : Int32} {Q : rI0 → rJ0 → Prop} (hpl : pl < min n lim) (hr : pl < tRn b n pl) (h2 : (l2 = 1 ∧ tAlp (b pl) = true) ∨ (l2 = 0 ∧ tAlp (b pl) = false)) : ∀ (m st : Nat) (A : Int32) (I : rI0) (J : rJ0), st + m = n → pl ≤ st → tRn b n st = tRn b n pl → Nst b n lim st I → I 43 11 = nI (st - pl) → I 43 12 = tVl b pl (min 3 (st - pl)) → J 43 15 = tPk b pl (min 8 (st - pl)) → ((A = 1 ∧ tSame b pl (st - pl)) ∨ (A = 0 ∧ ¬ tSame b pl (st - pl))) → (∀ I' J', NxE b n lim pl (tRn b n pl) I J I' J' → Q I' J') → wp S (d + 1) 161 181 [some (.ref 43), some (.int l1), some (.int l2), some (.int A)] [] (wv x I J) (rV x Q) := by
  intro m
  induction m with
  | zero =>
    intro st A I J hm hp hR hs e11 e12 e15 hA k
    have e : tRn b n st = st := tGo_e (fun z => by omega)
    have ec : chr b n st = -1 := if_neg (by omega)
    have f : ∀ v, v = tokOf (tkK b n lim pl) → Q (mSet I 43 9 v) J := fun v hv => k _ _ ⟨Nf5.s (by omega), by show I 43 4 = _; rw [hs.2.2.2.2.2.2, ← hR, e], rfl, hv, by show I 43 11 = _; rw [e11, ← hR, e], by show I 43 12 = _; rw [e12, ← hR, e], by rw [e15, ← hR, e]⟩
    rw [← hR, e] at hr
    refine v161_43_181 (peekS hs (smallS (fun q => absurd q (by rw [ec]; decide)) (fun _ => ⟨fun _ => peekS hs (digitS (fun q => absurd q (by rw [ec]; decide)) (fun _ => ⟨fun _ => ?_, fun q => absurd rfl q⟩)), fun q => absurd rfl q⟩)))
    have hk : tRn b n pl - pl = st - pl := by rw [← hR, e]
    have hr' : pl < tRn b n pl := by rw [← hR, e]; exact hr
    refine ⟨fun z => f _ ?_, fun z => ⟨fun y => ⟨fun w => f _ ?_, fun w => ⟨fun _ => f _ ?_, fun q => absurd y q⟩⟩, fun y => ⟨fun w => f _ ?_, fun w => ⟨fun q => absurd q y, fun _ => f _ ?_⟩⟩⟩⟩
    · rcases hA with hA | hA
      · rw [hA.1] at z; exact absurd z (by decide)
      · rcases h2 with h2 | h2
        · rw [(tkK_a hpl hr' h2.2).2 (by rw [hk]; exact hA.2)]; rfl
        · rw [(tkK_d hpl hr' h2.2).2 (by rw [hk]; exact hA.2)]; rfl
    · rcases hA with hA | hA
      · rcases h2 with h2 | h2
        · rw [h2.1] at y; exact absurd y (by decide)
        · rw [e11] at w
          have w : 3 < st - pl := by
            rcases Nat.lt_or_ge 3 (st - pl) with q | q
            · exact q
            · exact absurd w (nI_nlt (a := 3) q (by omega))
          rw [(tkK_d hpl hr' h2.2).1 (by rw [hk]; exact hA.2), hk, if_neg (by omega)]; rfl
      · exact absurd hA.1 z
    · rcases hA with hA | hA
      · rcases h2 with h2 | h2
        · rw [h2.1] at y; exact absurd y (by decide)
        · rw [e11] at w
          have w : st - pl ≤ 3 := by
            rcases Nat.lt_or_ge 3 (st - pl) with q | q
            · exact absurd (nI_lt (a := 3) q (by have := hs.1; omega)) w
            · exact q
          rw [(tkK_d hpl hr' h2.2).1 (by rw [hk]; exact hA.2), hk, if_pos (by omega)]; rfl
      · exact absurd hA.1 z
    · rcases hA with hA | hA
      · rcases h2 with h2 | h2
        · rw [e11] at w
          have w : 8 < st - pl := by
            rcases Nat.lt_or_ge 8 (st - pl) with q | q
            · exact q
            · exact absurd w (nI_nlt (a := 8) q (by omega))
          rw [(tkK_a hpl hr' h2.2).1 (by rw [hk]; exact hA.2), hk, if_neg (by omega)]; rfl
        · exact absurd h2.1 y
      · exact absurd hA.1 z
    · rcases hA with hA | hA
      · rcases h2 with h2 | h2
        · rw [e11] at w
          have w : st - pl ≤ 8 := by
            rcases Nat.lt_or_ge 8 (st - pl) with q | q
            · exact absurd (nI_lt (a := 8) q (by have := hs.1; omega)) w
            · exact q
          rw [(tkK_a hpl hr' h2.2).1 (by rw [hk]; exact hA.2), hk, if_pos (by omega)]; rfl
        · exact absurd h2.1 y
      · exact absurd hA.1 z
  | succ m ih =>
    intro st A I J hm hp hR hs e11 e12 e15 hA k
    have ec : chr b n st = b st := if_pos (by omega)
    have hn := hs.1
    by_cases z : tAln (b st) = true
    · have e : tRn b n st = tRn b n (st + 1) := tGo_s (by omega) z
      have s1 : st + 1 - pl = (st - pl) + 1 := by omega
      have s2 : pl + (st - pl) = st := by omega
      -- behind 'all'
      have g221 : ∀ A' : Int32, ((A' = 1 ∧ tSame b pl (st + 1 - pl)) ∨ (A' = 0 ∧ ¬ tSame b pl (st + 1 - pl))) → wp S (d + 1) 161 221 [some (.ref 43), some (.int l1), some (.int l2), some (.int A)] [.int A'] (wv x I J) (rV x Q) := by
        intro A' hA'
        have g248 : ∀ J1, Nf5 I J I J1 → J1 43 15 = tPk b pl (min 8 (st + 1 - pl)) → wp S (d + 1) 161 248 [some (.ref 43), some (.int l1), some (.int l2), some (.int A')] [] (wv x I J1) (rV x Q) := by
          intro J1 o1 f15
          have go : ∀ I1, Nf5 I J1 I1 J1 → I1 43 10 = I 43 10 → I1 43 12 = tVl b pl (min 3 (st + 1 - pl)) → I1 43 11 = I 43 11 → I1 43 4 = I 43 4 → wp S (d + 1) 161 181 [some (.ref 43), some (.int l1), some (.int l2), some (.int A')] [] (wv x (mSet (mSet I1 43 11 (I1 43 11 + 1)) 43 4 (I1 43 4 + 1)) J1) (rV x Q) := by
            intro I1 o2 f10 f12 f11 f4
            have oo : Nf5 I J (mSet (mSet I1 43 11 (I1 43 11 + 1)) 43 4 (I1 43 4 + 1)) J1 := o1.tr (o2.tr ((Nf5.s (by omega)).tr (Nf5.s (by omega))))
            refine ih (st + 1) A' _ _ (by omega) (by omega) (by rw [← e]; exact hR) (hs.mv (by omega) (oo.1 44 (by decide)) (oo.2.1 3 (by omega)) (oo.2.1 5 (by omega)) (by show I1 43 4 + 1 = _; rw [f4, hs.2.2.2.2.2.2, nI_succ])) (by show I1 43 11 + 1 = _; rw [f11, e11, s1, nI_succ]) f12 f15 hA' (fun I' J' h => k I' J' ⟨oo.tr h.1, h.2.1, h.2.2.1.trans f10, h.2.2.2⟩)
          refine v161_43_248 ⟨fun y => peekS hs ?_, fun y => ?_⟩
          · rw [e11] at y
            have y : st - pl < 3 := by
              rcases Nat.lt_or_ge (st - pl) 3 with q | q
              · exact q
              · exact absurd y (nI_nlt (b := 3) q (by omega))
            have w := go (mSet I 43 12 (10 * I 43 12 + chr b n st - 48)) (Nf5.s (by omega)) rfl (by
              show 10 * I 43 12 + chr b n st - 48 = _
              rw [ec, e12, show min 3 (st + 1 - pl) = min 3 (st - pl) + 1 by omega, show min 3 (st - pl) = st - pl by omega]
              show _ = tVl b pl (st - pl) * 10 + b (pl + (st - pl)) - 48
              rw [s2, Int32.mul_comm]) rfl rfl
            exact w
          · rw [e11] at y
            have y : 3 ≤ st - pl := by
              rcases Nat.lt_or_ge (st - pl) 3 with q | q
              · exact absurd (nI_lt (b := 3) q (by omega)) y
              · exact q
            exact go I Nf5.rf rfl (by rw [e12, show min 3 (st + 1 - pl) = min 3 (st - pl) by omega]) rfl rfl
        refine v161_43_221 ⟨fun y => peekS hs (g248 _ Nf5.w ?_), fun y => g248 J Nf5.rf ?_⟩
        · rw [e11] at y
          have y : st - pl < 8 := by
            rcases Nat.lt_or_ge (st - pl) 8 with q | q
            · exact q
            · exact absurd y (nI_nlt (b := 8) q (by omega))
          show (J 43 15 <<< ((8 : Int32).toInt64 &&& 63)) ||| (chr b n st).toInt64 = _
          rw [ec, e15, show min 8 (st + 1 - pl) = min 8 (st - pl) + 1 by omega, show min 8 (st - pl) = st - pl by omega]
          show _ = (tPk b pl (st - pl) <<< ((8 : Int32).toInt64 &&& 63)) ||| (b (pl + (st - pl))).toInt64
          rw [s2]
        · rw [e11] at y
          have y : 8 ≤ st - pl := by
            rcases Nat.lt_or_ge (st - pl) 8 with q | q
            · exact absurd (nI_lt (b := 8) q (by omega)) y
            · exact q
          rw [e15, show min 8 (st + 1 - pl) = min 8 (st - pl) by omega]
      have an : ∀ r : Int32, ((r = 1 ∧ tAlp (b st) = true) ∨ (r = 0 ∧ tAlp (b st) = false)) → ¬ A = 0 → (r = l2 → wp S (d + 1) 161 221 [some (.ref 43), some (.int l1), some (.int l2), some (.int A)] [.int 1] (wv x I J) (rV x Q)) ∧ (¬ r = l2 → wp S (d + 1) 161 221 [some (.ref 43), some (.int l1), some (.int l2), some (.int A)] [.int 0] (wv x I J) (rV x Q)) := by
        intro r hr1 hA0
        have hS : tSame b pl (st - pl) := by
          rcases hA with hA | hA
          · exact hA.2
          · exact absurd hA.1 hA0
        have q : r = l2 ↔ tAlp (b st) = tAlp (b pl) := by
          rcases hr1 with ⟨q1, q2⟩ | ⟨q1, q2⟩ <;> rcases h2 with ⟨q3, q4⟩ | ⟨q3, q4⟩ <;> rw [q1, q2, q3, q4] <;> decide
        refine ⟨fun y => g221 1 (Or.inl ⟨rfl, ?_⟩), fun y => g221 0 (Or.inr ⟨rfl, ?_⟩)⟩
        · rw [s1, tSame_s, s2]
          exact ⟨hS, q.mp y⟩
        · rw [s1, tSame_s, s2]
          exact fun w => y (q.mpr w.2)
      have a0 : A = 0 → wp S (d + 1) 161 221 [some (.ref 43), some (.int l1), some (.int l2), some (.int A)] [.int 0] (wv x I J) (rV x Q) := by
        intro y
        refine g221 0 (Or.inr ⟨rfl, ?_⟩)
        rw [s1, tSame_s]
        rcases hA with hA | hA
        · rw [hA.1] at y; exact absurd y (by decide)
        · exact fun w => hA.2 w.1
      refine v161_43_181 (peekS hs (smallS (fun y => ⟨fun q => absurd q (by decide), fun _ => ⟨a0, fun w => peekS hs (smallS (fun _ => an 1 (Or.inl ⟨rfl, by rw [ec] at y; exact y⟩) w) (fun q => absurd (y.symm.trans q) (by decide)))⟩⟩) (fun y => ⟨fun _ => peekS hs (digitS (fun _ => ⟨fun q => absurd q (by decide), fun _ => ⟨a0, fun w => peekS hs (smallS (fun q => absurd (q.symm.trans y) (by decide)) (fun _ => an 0 (Or.inr ⟨rfl, by rw [ec] at y; exact y⟩) w))⟩⟩) (fun q => ?_)), fun q => absurd rfl q⟩)))
      rw [ec] at y q
      have := tAln_x z
      rw [y, q] at this
      cases this
    · have e : tRn b n st = st := tGo_e (fun q => z q.2)
      have na : tAlp (b st) = false ∧ tDgt (b st) = false := by
        unfold tAln at z
        cases q1 : tAlp (b st)
        · cases q2 : tDgt (b st)
          · exact ⟨rfl, rfl⟩
          · rw [q1, q2] at z; exact absurd rfl z
        · rw [q1] at z; exact absurd rfl z
      have f : ∀ v, v = tokOf (tkK b n lim pl) → Q (mSet I 43 9 v) J := fun v hv => k _ _ ⟨Nf5.s (by omega), by show I 43 4 = _; rw [hs.2.2.2.2.2.2, ← hR, e], rfl, hv, by show I 43 11 = _; rw [e11, ← hR, e], by show I 43 12 = _; rw [e12, ← hR, e], by rw [e15, ← hR, e]⟩
      refine v161_43_181 (peekS hs (smallS (fun q => absurd q (by rw [ec, na.1]; decide)) (fun _ => ⟨fun _ => peekS hs (digitS (fun q => absurd q (by rw [ec, na.2]; decide)) (fun _ => ⟨fun _ => ?_, fun q => absurd rfl q⟩)), fun q => absurd rfl q⟩)))
      have hk : tRn b n pl - pl = st - pl := by rw [← hR, e]
      have hr' : pl < tRn b n pl := hr
      refine ⟨fun z => f _ ?_, fun z => ⟨fun y => ⟨fun w => f _ ?_, fun w => ⟨fun _ => f _ ?_, fun q => absurd y q⟩⟩, fun y => ⟨fun w => f _ ?_, fun w => ⟨fun q => absurd q y, fun _ => f _ ?_⟩⟩⟩⟩
      · rcases hA with hA | hA
        · rw [hA.1] at z; exact absurd z (by decide)
        · rcases h2 with h2 | h2
          · rw [(tkK_a hpl hr' h2.2).2 (by rw [hk]; exact hA.2)]; rfl
          · rw [(tkK_d hpl hr' h2.2).2 (by rw [hk]; exact hA.2)]; rfl
      · rcases hA with hA | hA
        · rcases h2 with h2 | h2
          · rw [h2.1] at y; exact absurd y (by decide)
          · rw [e11] at w
            have w : 3 < st - pl := by
              rcases Nat.lt_or_ge 3 (st - pl) with q | q
              · exact q
              · exact absurd w (nI_nlt (a := 3) q (by omega))
            rw [(tkK_d hpl hr' h2.2).1 (by rw [hk]; exact hA.2), hk, if_neg (by omega)]; rfl
        · exact absurd hA.1 z
      · rcases hA with hA | hA
        · rcases h2 with h2 | h2
          · rw [h2.1] at y; exact absurd y (by decide)
          · rw [e11] at w
            have w : st - pl ≤ 3 := by
              rcases Nat.lt_or_ge 3 (st - pl) with q | q
              · exact absurd (nI_lt (a := 3) q (by omega)) w
              · exact q
            rw [(tkK_d hpl hr' h2.2).1 (by rw [hk]; exact hA.2), hk, if_pos (by omega)]; rfl
        · exact absurd hA.1 z
      · rcases hA with hA | hA
        · rcases h2 with h2 | h2
          · rw [e11] at w
            have w : 8 < st - pl := by
              rcases Nat.lt_or_ge 8 (st - pl) with q | q
              · exact q
              · exact absurd w (nI_nlt (a := 8) q (by omega))
            rw [(tkK_a hpl hr' h2.2).1 (by rw [hk]; exact hA.2), hk, if_neg (by omega)]; rfl
          · exact absurd h2.1 y
        · exact absurd hA.1 z
      · rcases hA with hA | hA
        · rcases h2 with h2 | h2
          · rw [e11] at w
            have w : st - pl ≤ 8 := by
              rcases Nat.lt_or_ge 8 (st - pl) with q | q
              · exact absurd (nI_lt (a := 8) q (by omega)) w
              · exact q
            rw [(tkK_a hpl hr' h2.2).1 (by rw [hk]; exact hA.2), hk, if_pos (by omega)]; rfl
          · exact absurd h2.1 y
        · exact absurd hA.1 z
end TM0
