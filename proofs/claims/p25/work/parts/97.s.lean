section
/-! laws, as the class's nights ask them -/
section NS0
/-- LEVELS and HELD of a night -/
def NP (n : Nat) (J : rJ0) (N hd : Nat → Nat) : Prop := ∀ s, s < 64 → bits5 (J n 8) s = decide (1 ≤ N s) ∧ bits5 (J n 9) s = decide (2 ≤ N s) ∧ bits5 (J n 10) s = decide (hd s % 2 = 1) ∧ bits5 (J n 11) s = decide (2 ≤ hd s)
/-- the areas -/
def AM (g : Nat → Int32) (J : rJ0) : Prop := ∀ a, a < 6 → ∀ s, seB g s = true → ∀ u, u < 64 → bits5 (J 11 (64 * a + s)) u = arB g a s u
section PZ
variable {z j w lev sg num : Nat}
theorem pz_l (hz : z ≤ 20) (hj : j ≤ 1) (hw : w ≤ 15) (h1 : lev ≤ 3) (h2 : sg ≤ 3) (h3 : num ≤ 1023) : pz z j w lev sg num < 2 ^ 32 := by
  unfold pz
  omega
theorem d_w (hz : z ≤ 20) (hj : j ≤ 1) (hw : w ≤ 15) (h1 : lev ≤ 3) (h2 : sg ≤ 3) (h3 : num ≤ 1023) : ((((nI (pz z j w lev sg num)).toUInt32 >>> ((14 : Int32).toUInt32 &&& Int32.toUInt32 31)).toInt32) &&& (15 : Int32)) = nI w := by
  have hl := pz_l hz hj hw h1 h2 h3
  rw [pk_ushrN hl _ 14 (by decide), pk_andN (Nat.lt_of_le_of_lt (Nat.div_le_self _ _) hl) 4 (by decide)]
  congr 1
  unfold pz
  omega
theorem d_s (hz : z ≤ 20) (hj : j ≤ 1) (hw : w ≤ 15) (h1 : lev ≤ 3) (h2 : sg ≤ 3) (h3 : num ≤ 1023) : ((((nI (pz z j w lev sg num)).toUInt32 >>> ((10 : Int32).toUInt32 &&& Int32.toUInt32 31)).toInt32) &&& (3 : Int32)) = nI sg := by
  have hl := pz_l hz hj hw h1 h2 h3
  rw [pk_ushrN hl _ 10 (by decide), pk_andN (Nat.lt_of_le_of_lt (Nat.div_le_self _ _) hl) 2 (by decide)]
  congr 1
  unfold pz
  omega
theorem d_l (hz : z ≤ 20) (hj : j ≤ 1) (hw : w ≤ 15) (h1 : lev ≤ 3) (h2 : sg ≤ 3) (h3 : num ≤ 1023) : ((((nI (pz z j w lev sg num)).toUInt32 >>> ((12 : Int32).toUInt32 &&& Int32.toUInt32 31)).toInt32) &&& (3 : Int32)) = nI lev := by
  have hl := pz_l hz hj hw h1 h2 h3
  rw [pk_ushrN hl _ 12 (by decide), pk_andN (Nat.lt_of_le_of_lt (Nat.div_le_self _ _) hl) 2 (by decide)]
  congr 1
  unfold pz
  omega
theorem d_n (hz : z ≤ 20) (hj : j ≤ 1) (hw : w ≤ 15) (h1 : lev ≤ 3) (h2 : sg ≤ 3) (h3 : num ≤ 1023) : (nI (pz z j w lev sg num)) &&& (1023 : Int32) = nI num := by
  have hl := pz_l hz hj hw h1 h2 h3
  rw [pk_andN hl 10 (by decide)]
  congr 1
  unfold pz
  omega
theorem d_z (hz : z ≤ 20) (hj : j ≤ 1) (hw : w ≤ 15) (h1 : lev ≤ 3) (h2 : sg ≤ 3) (h3 : num ≤ 1023) : (((nI (pz z j w lev sg num)).toUInt32 >>> ((19 : Int32).toUInt32 &&& Int32.toUInt32 31)).toInt32) = nI z := by
  have hl := pz_l hz hj hw h1 h2 h3
  rw [pk_ushrN hl _ 19 (by decide)]
  congr 1
  unfold pz
  omega
theorem d_j (hz : z ≤ 20) (hj : j ≤ 1) (hw : w ≤ 15) (h1 : lev ≤ 3) (h2 : sg ≤ 3) (h3 : num ≤ 1023) : ((((nI (pz z j w lev sg num)).toUInt32 >>> ((18 : Int32).toUInt32 &&& Int32.toUInt32 31)).toInt32) &&& (1 : Int32)) = nI j := by
  have hl := pz_l hz hj hw h1 h2 h3
  rw [pk_ushrN hl _ 18 (by decide), pk_andN (Nat.lt_of_le_of_lt (Nat.div_le_self _ _) hl) 1 (by decide)]
  congr 1
  unfold pz
  omega
end PZ
/-- a ONE's place tells its length and its join -/
theorem lO_w {A : Nat → Int32} {m i len j : Nat} {V : lV} (h : lO A m i len j V) : ∃ w lev sg num, w ≤ 9 ∧ lev ≤ 2 ∧ sg ≤ 2 ∧ num ≤ 999 ∧ A i = nI (pz len j w lev sg num) := by
  cases m with
  | zero => exact absurd h id
  | succ m =>
    rcases h with ⟨e, a, lev, sg, num, h1, h2, h3, h4, h5, h6⟩ | ⟨W, h1, h2, h3⟩ | ⟨h1, h2, h3⟩
    · subst e
      exact ⟨a, lev, sg, num, by omega, h2, h3, h4, h5⟩
    · exact ⟨8, 0, 0, 0, by omega, by omega, by omega, by omega, h2⟩
    · exact ⟨9, 0, 0, 0, by omega, by omega, by omega, by omega, h2⟩
def loI (sg num : Nat) : Int := if sg = 0 then 0 else (num : Int) + sg - 1
def hiI (sg num : Nat) : Int := if sg = 0 then (num : Int) - 1 else if sg = 1 then (num : Int) else 1023
theorem cmp_i {sg num v : Nat} (hs : sg ≤ 2) (hv : v ≤ 1023) : decide (loI sg num ≤ (v : Int) ∧ (v : Int) ≤ hiI sg num) = cmpB sg v num := by
  unfold loI hiI cmpB
  rcases (show sg = 0 ∨ sg = 1 ∨ sg = 2 by omega) with z | z | z <;> subst z
  · simp only [if_true]
    exact decide_eq_decide.mpr (by omega)
  · simp only [if_true, show ¬ (1 = 0) by omega, if_false]
    exact decide_eq_decide.mpr (by omega)
  · simp only [show ¬ (2 = 0) by omega, show ¬ (2 = 1) by omega, if_false]
    exact decide_eq_decide.mpr (by omega)
theorem sh_u {p : Int64} {s : Nat} (hs : s < 64) : bits5 ((p.toUInt64 >>> ((1 : Int32).toInt64.toUInt64 &&& Int64.toUInt64 63)).toInt64) s = (decide (s + 1 < 64) && bits5 p (s + 1)) := by
  have e : un ((p.toUInt64 >>> ((1 : Int32).toInt64.toUInt64 &&& Int64.toUInt64 63)).toInt64) = un p / 2 ^ 1 := un_shr 1 (by decide)
  show (un ((p.toUInt64 >>> ((1 : Int32).toInt64.toUInt64 &&& Int64.toUInt64 63)).toInt64)).testBit s = _
  rw [e, Nat.testBit_div_two_pow]
  by_cases z : s + 1 < 64
  · rw [decide_eq_true z]
    rfl
  · rw [decide_eq_false z]
    have h := un_l p
    refine Nat.testBit_lt_two_pow (Nat.lt_of_lt_of_le h ?_)
    rw [show s + 1 = 64 by omega]
    exact Nat.le_refl _
theorem b5_lo {p : Int64} : lg_cmp (p &&& (1 : Int64)) 0 = 0 ↔ bits5 p 0 = false := by
  rw [lg_z, b5_z]
  constructor
  · intro h
    have := h 0 (by omega)
    rw [b5_and] at this
    cases z : bits5 p 0 with
    | false => rfl
    | true =>
      rw [z] at this
      exact absurd this (by decide)
  · intro h s hs
    rw [b5_and]
    have k : ∀ s, s < 64 → s ≠ 0 → bits5 1 s = false := by decide +kernel
    by_cases z : s = 0
    · rw [z, h]
      rfl
    · rw [k s hs z, Bool.and_false]
end NS0
section NS36
variable {S : Nat × (Nat → Int32)} {d : Nat} {x : mX} {I : rI0} {J : rJ0} {g : Nat → Int32} {N hd : Nat → Nat}
theorem lwi_36 {p1 p2 : Int32} {lo hi : Int} {Q : Int64 → rI0 → rJ0 → Prop} (hN : NP 36 J N hd) (ho : okN g N) (e1 : p1.toInt = lo) (e2 : p2.toInt = hi) (k : ∀ v, (∀ s, s < 64 → bits5 v s = decide (lo ≤ (N s : Int) ∧ (N s : Int) ≤ hi)) → Q v I J) : wcJ S d 63 [.ref 36, .int p1, .int p2] x I J Q := by
  subst e1 e2
  have l0 : (0 : Int32).toInt = 0 := by decide
  have l1 : (1 : Int32).toInt = 1 := by decide
  have l2 : (2 : Int32).toInt = 2 := by decide
  have B : ∀ v v3 w : Int64, (∀ s, s < 64 → bits5 v s = decide (p1.toInt ≤ (N s : Int) ∧ (N s : Int) ≤ p2.toInt ∧ N s < 1)) → (∀ s, s < 64 → bits5 w s = decide (p1.toInt ≤ (N s : Int) ∧ (N s : Int) ≤ p2.toInt ∧ N s = 1)) → wp S d 63 49 [some (.ref 36), some (.int p1), some (.int p2), some (.long v3), none] [.long w, .long v] (wv x I J) (rJ x Q) := by
    intro v v3 w hv hw
    refine v63_36_49 ⟨fun h => k _ (fun s hs => ?_), fun h => ⟨fun h2 => k _ (fun s hs => ?_), fun h2 => k _ (fun s hs => ?_)⟩⟩
    · have h := i_lt h
      have hn := (ho s).1
      rw [b5_or, b5_or, hv s hs, hw s hs, b5_0, Bool.or_false, ← Bool.decide_or]
      exact decide_eq_decide.mpr (by omega)
    · have h2 := i_lt h2
      have hn := (ho s).1
      rw [b5_or, b5_or, hv s hs, hw s hs, b5_0, Bool.or_false, ← Bool.decide_or]
      exact decide_eq_decide.mpr (by omega)
    · have h := i_nlt h
      have h2 := i_nlt h2
      have hn := (ho s).1
      rw [b5_or, b5_or, hv s hs, hw s hs, (hN s hs).2.1, ← Bool.decide_or, ← Bool.decide_or]
      exact decide_eq_decide.mpr (by omega)
  have A : ∀ v : Int64, (∀ s, s < 64 → bits5 v s = decide (p1.toInt ≤ (N s : Int) ∧ (N s : Int) ≤ p2.toInt ∧ N s < 1)) → wp S d 63 20 [some (.ref 36), some (.int p1), some (.int p2), none, none] [.long v] (wv x I J) (rJ x Q) := by
    intro v hv
    refine v63_36_20 ⟨fun h => B _ _ _ hv (fun s hs => ?_), fun h => ⟨fun h2 => B _ _ _ hv (fun s hs => ?_), fun h2 => B _ _ _ hv (fun s hs => ?_)⟩⟩
    · have h := i_lt h
      rw [b5_0]
      exact (decide_eq_false (by omega)).symm
    · have h2 := i_lt h2
      rw [b5_0]
      exact (decide_eq_false (by omega)).symm
    · have h := i_nlt h
      have h2 := i_nlt h2
      have hn := (ho s).1
      rw [b5_and, b5_not hs, (hN s hs).1, (hN s hs).2.1, ← decide_not, ← Bool.decide_and]
      exact decide_eq_decide.mpr (by omega)
  refine c63_36 ⟨fun h => A _ (fun s hs => ?_), fun h => ⟨fun h2 => A _ (fun s hs => ?_), fun h2 => A _ (fun s hs => ?_)⟩⟩
  · have h := i_lt h
    rw [b5_0]
    exact (decide_eq_false (by omega)).symm
  · have h2 := i_lt h2
    rw [b5_0]
    exact (decide_eq_false (by omega)).symm
  · have h := i_nlt h
    have h2 := i_nlt h2
    rw [b5_not hs, (hN s hs).1, ← decide_not]
    exact decide_eq_decide.mpr (by omega)
theorem hwi_36 {p1 p2 : Int32} {lo hi : Int} {Q : Int64 → rI0 → rJ0 → Prop} (hN : NP 36 J N hd) (ho : okH g hd) (e1 : p1.toInt = lo) (e2 : p2.toInt = hi) (k : ∀ v, (∀ s, s < 64 → bits5 v s = decide (lo ≤ (hd s : Int) ∧ (hd s : Int) ≤ hi)) → Q v I J) : wcJ S d 64 [.ref 36, .int p1, .int p2] x I J Q := by
  subst e1 e2
  have l0 : (0 : Int32).toInt = 0 := by decide
  have l1 : (1 : Int32).toInt = 1 := by decide
  have l2 : (2 : Int32).toInt = 2 := by decide
  have l3 : (3 : Int32).toInt = 3 := by decide
  have C : ∀ v v3 w : Int64, (∀ s, s < 64 → bits5 v s = decide (p1.toInt ≤ (hd s : Int) ∧ (hd s : Int) ≤ p2.toInt ∧ hd s < 2)) → (∀ s, s < 64 → bits5 w s = decide (p1.toInt ≤ (hd s : Int) ∧ (hd s : Int) ≤ p2.toInt ∧ hd s = 2)) → wp S d 64 88 [some (.ref 36), some (.int p1), some (.int p2), some (.long v3), none] [.long w, .long v] (wv x I J) (rJ x Q) := by
    intro v v3 w hv hw
    refine v64_36_88 ⟨fun h => k _ (fun s hs => ?_), fun h => ⟨fun h2 => k _ (fun s hs => ?_), fun h2 => k _ (fun s hs => ?_)⟩⟩
    · have h := i_lt h
      have hn := (ho s).1
      rw [b5_or, b5_or, hv s hs, hw s hs, b5_0, Bool.or_false, ← Bool.decide_or]
      exact decide_eq_decide.mpr (by omega)
    · have h2 := i_lt h2
      have hn := (ho s).1
      rw [b5_or, b5_or, hv s hs, hw s hs, b5_0, Bool.or_false, ← Bool.decide_or]
      exact decide_eq_decide.mpr (by omega)
    · have h := i_nlt h
      have h2 := i_nlt h2
      have hn := (ho s).1
      rw [b5_or, b5_or, hv s hs, hw s hs, b5_and, (hN s hs).2.2.1, (hN s hs).2.2.2, ← Bool.decide_or, ← Bool.decide_and, ← Bool.decide_or]
      exact decide_eq_decide.mpr (by omega)
  have B : ∀ v v3 w : Int64, (∀ s, s < 64 → bits5 v s = decide (p1.toInt ≤ (hd s : Int) ∧ (hd s : Int) ≤ p2.toInt ∧ hd s < 1)) → (∀ s, s < 64 → bits5 w s = decide (p1.toInt ≤ (hd s : Int) ∧ (hd s : Int) ≤ p2.toInt ∧ hd s = 1)) → wp S d 64 58 [some (.ref 36), some (.int p1), some (.int p2), some (.long v3), none] [.long w, .long v] (wv x I J) (rJ x Q) := by
    intro v v3 w hv hw
    have hvw : ∀ s, s < 64 → bits5 (v ||| w) s = decide (p1.toInt ≤ (hd s : Int) ∧ (hd s : Int) ≤ p2.toInt ∧ hd s < 2) := by
      intro s hs
      rw [b5_or, hv s hs, hw s hs, ← Bool.decide_or]
      exact decide_eq_decide.mpr (by omega)
    refine v64_36_58 ⟨fun h => C _ _ _ hvw (fun s hs => ?_), fun h => ⟨fun h2 => C _ _ _ hvw (fun s hs => ?_), fun h2 => C _ _ _ hvw (fun s hs => ?_)⟩⟩
    · have h := i_lt h
      rw [b5_0]
      exact (decide_eq_false (by omega)).symm
    · have h2 := i_lt h2
      rw [b5_0]
      exact (decide_eq_false (by omega)).symm
    · have h := i_nlt h
      have h2 := i_nlt h2
      have hn := (ho s).1
      rw [b5_and, b5_not hs, (hN s hs).2.2.1, (hN s hs).2.2.2, ← decide_not, ← Bool.decide_and]
      exact decide_eq_decide.mpr (by omega)
  have A : ∀ v : Int64, (∀ s, s < 64 → bits5 v s = decide (p1.toInt ≤ (hd s : Int) ∧ (hd s : Int) ≤ p2.toInt ∧ hd s < 1)) → wp S d 64 29 [some (.ref 36), some (.int p1), some (.int p2), none, none] [.long v] (wv x I J) (rJ x Q) := by
    intro v hv
    refine v64_36_29 ⟨fun h => B _ _ _ hv (fun s hs => ?_), fun h => ⟨fun h2 => B _ _ _ hv (fun s hs => ?_), fun h2 => B _ _ _ hv (fun s hs => ?_)⟩⟩
    · have h := i_lt h
      rw [b5_0]
      exact (decide_eq_false (by omega)).symm
    · have h2 := i_lt h2
      rw [b5_0]
      exact (decide_eq_false (by omega)).symm
    · have h := i_nlt h
      have h2 := i_nlt h2
      have hn := (ho s).1
      rw [b5_and, b5_not hs, (hN s hs).2.2.1, (hN s hs).2.2.2, ← decide_not, ← Bool.decide_and]
      exact decide_eq_decide.mpr (by omega)
  refine c64_36 ⟨fun h => A _ (fun s hs => ?_), fun h => ⟨fun h2 => A _ (fun s hs => ?_), fun h2 => A _ (fun s hs => ?_)⟩⟩
  · have h := i_lt h
    rw [b5_0]
    exact (decide_eq_false (by omega)).symm
  · have h2 := i_lt h2
    rw [b5_0]
    exact (decide_eq_false (by omega)).symm
  · have h := i_nlt h
    have h2 := i_nlt h2
    have hn := (ho s).1
    rw [b5_and, b5_not hs, b5_not hs, (hN s hs).2.2.1, (hN s hs).2.2.2, ← decide_not, ← decide_not, ← Bool.decide_and]
    exact decide_eq_decide.mpr (by omega)
/-- the SEATS whose area counts so -/
theorem hlp_36 {a : Nat} {L : Nat} {who lev : Int64} {l1 l4 l5 l7 l8 l9 l10 : Int32} {lo hi : Int} {Q : Int64 → rI0 → rJ0 → Prop} (ha : a < 6) (hM : AM g J) (hL : ∀ u, u < 64 → bits5 lev u = decide (L ≤ N u)) (hw : ∀ s, s < 64 → bits5 who s = true → seB g s = true) (e1 : l9.toInt = lo) (e2 : l10.toInt = hi) (k : ∀ v, (∀ s, s < 64 → bits5 v s = (bits5 who s && decide (lo ≤ (nb (fun u => arB g a s u && decide (L ≤ N u)) 64 : Int) ∧ (nb (fun u => arB g a s u && decide (L ≤ N u)) 64 : Int) ≤ hi))) → Q v I J) : ∀ (m s : Nat) (holds rest : Int64), s + m = 64 → (∀ u, u < 64 → bits5 holds u = (decide (u < s) && (bits5 who u && decide (lo ≤ (nb (fun v => arB g a u v && decide (L ≤ N v)) 64 : Int) ∧ (nb (fun v => arB g a u v && decide (L ≤ N v)) 64 : Int) ≤ hi)))) → (∀ u, u < 64 → bits5 rest u = (decide (s + u < 64) && bits5 who (s + u))) → wp S (d + 1) 62 237 [some (.ref 36), some (.int l1), some (.long who), none, some (.int l4), some (.int l5), some (.int (nI a)), some (.int l7), some (.int l8), some (.int l9), some (.int l10), some (.long lev), none, some (.long holds), none, some (.long rest), none, some (.int (nI s)), none] [] (wv x I J) (rJ x Q) := by
  intro m
  induction m with
  | zero =>
    intro s holds rest hs hh hr
    refine v62_36_237 ⟨fun q => absurd q (nI_nlt (b := 64) (by omega) (by omega)), fun _ => k _ (fun u hu => ?_)⟩
    rw [hh u hu, decide_eq_true (by omega)]
    rfl
  | succ m ih =>
    intro s holds rest hs hh hr
    have h64 : s < 64 := by omega
    have b0 : bits5 rest 0 = bits5 who s := by
      rw [hr 0 (by omega), decide_eq_true (by omega)]
      rfl
    have hr' : ∀ u, u < 64 → bits5 ((rest.toUInt64 >>> ((1 : Int32).toInt64.toUInt64 &&& Int64.toUInt64 63)).toInt64) u = (decide (s + 1 + u < 64) && bits5 who (s + 1 + u)) := by
      intro u hu
      rw [sh_u hu]
      by_cases z : u + 1 < 64
      · rw [decide_eq_true z, hr (u + 1) z, show s + (u + 1) = s + 1 + u by omega]
        rfl
      · rw [decide_eq_false z, decide_eq_false (by omega)]
        rfl
    have skip : (bits5 who s && decide (lo ≤ (nb (fun v => arB g a s v && decide (L ≤ N v)) 64 : Int) ∧ (nb (fun v => arB g a s v && decide (L ≤ N v)) 64 : Int) ≤ hi)) = false → ∀ u, u < 64 → bits5 holds u = (decide (u < s + 1) && (bits5 who u && decide (lo ≤ (nb (fun v => arB g a u v && decide (L ≤ N v)) 64 : Int) ∧ (nb (fun v => arB g a u v && decide (L ≤ N v)) 64 : Int) ≤ hi))) := by
      intro z u hu
      rw [hh u hu]
      by_cases y : u = s
      · rw [y, z, Bool.and_false, Bool.and_false]
      · congr 1
        exact decide_eq_decide.mpr (by omega)
    refine v62_36_237 ⟨fun _ => ⟨fun _ => ⟨fun z => k _ (fun u hu => ?_), fun _ => ⟨fun z => ?_, fun z => ⟨?_, ?_⟩⟩⟩, fun q => absurd (nI_lt (b := 6) ha (by omega)) q⟩, fun q => absurd (nI_lt (b := 64) h64 (by omega)) q⟩
    · have z := b5_z.mp (lg_z.mp z)
      rw [hh u hu]
      by_cases y : u < s
      · rw [decide_eq_true y]
        rfl
      · have := z (u - s) (by omega)
        rw [hr (u - s) (by omega), show s + (u - s) = u by omega, decide_eq_true hu, Bool.true_and] at this
        rw [this, Bool.false_and, Bool.and_false]
    · have z := b5_lo.mp z
      rw [b0] at z
      rw [← nI_succ]
      exact ih (s + 1) _ _ (by omega) (skip (by rw [z]; rfl)) hr'
    · show ¬ mOut (nI a * nI 64 + nI s) 384
      rw [nI_mu, nI_add]
      exact nI_in (by omega) (by omega)
    · have w : bits5 who s = true := by
        cases y : bits5 who s with
        | true => rfl
        | false => exact absurd (b5_lo.mpr (b0.trans y)) z
      have ix : (nI a * (64 : Int32) + nI s).toNatClampNeg = 64 * a + s := by
        show (nI a * nI 64 + nI s).toNatClampNeg = _
        rw [nI_mu, nI_add, nI_clamp (by omega)]
        omega
      have ep : pc (J 11 ((nI a * (64 : Int32) + nI s).toNatClampNeg) &&& lev) = nb (fun v => arB g a s v && decide (L ≤ N v)) 64 := by
        refine nb_cg 64 (fun u hu => ?_)
        rw [b5_and, ix, hM a ha s (hw s h64 w) u hu, hL u hu]
      have hp := pc_l (J 11 ((nI a * (64 : Int32) + nI s).toNatClampNeg) &&& lev)
      refine bcX ?_
      rw [ep] at hp ⊢
      refine ⟨fun q => ?_, fun q => ⟨fun q2 => ?_, fun q2 => ?_⟩⟩
      · have q := i_lt q
        rw [nI_toInt (by omega)] at q
        rw [← nI_succ]
        exact ih (s + 1) _ _ (by omega) (skip (by rw [w, decide_eq_false (by omega)]; rfl)) hr'
      · have q2 := i_lt q2
        rw [nI_toInt (by omega)] at q2
        rw [← nI_succ]
        exact ih (s + 1) _ _ (by omega) (skip (by rw [w, decide_eq_false (by omega)]; rfl)) hr'
      · have q := i_nlt q
        have q2 := i_nlt q2
        rw [nI_toInt (by omega)] at q q2
        rw [← nI_succ]
        refine ih (s + 1) _ _ (by omega) (fun u hu => ?_) hr'
        rw [b5_or, b5_1 h64, hh u hu]
        by_cases y : u = s
        · rw [y, decide_eq_false (show ¬ s < s by omega), decide_eq_true (show s = s from rfl), decide_eq_true (show s < s + 1 by omega), w, decide_eq_true (by omega)]
          rfl
        · rw [decide_eq_false y, Bool.or_false]
          congr 1
          exact decide_eq_decide.mpr (by omega)
/-- a comparison -/
theorem hat_36 {z j a lev sg num : Nat} {who : Int64} {l1 l4 l5 l7 l8 l9 s0 : Int32} {Q : Int64 → rI0 → rJ0 → Prop} (hN : NP 36 J N hd) (oN : okN g N) (oH : okH g hd) (hM : AM g J) (ha : a < 8) (hz : z ≤ 20) (hj : j ≤ 1) (h1 : lev ≤ 2) (h2 : sg ≤ 2) (h3 : num ≤ 999) (hw : ∀ s, s < 64 → bits5 who s = true → seB g s = true) (e5 : l5 = nI (pz z j a lev sg num)) (e1 : l9.toInt = loI sg num) (e2 : s0.toInt = hiI sg num) (k : ∀ v, (∀ s, s < 64 → bits5 v s = (bits5 who s && atB g N hd s a lev sg num)) → Q v I J) : wp S (d + 1) 62 166 [some (.ref 36), some (.int l1), some (.long who), none, some (.int l4), some (.int l5), some (.int (nI a)), some (.int l7), some (.int l8), some (.int l9), none, none, none, none, none, none, none, none, none] [.int s0] (wv x I J) (rJ x Q) := by
  subst e5
  refine v62_36_166 ⟨fun q => ?_, fun q6 => ⟨fun q => ?_, fun q7 => ?_⟩⟩
  · have q : a = 6 := nI_ij (by omega) (by omega) q
    subst q
    refine lwi_36 hN oN e1 e2 (fun v hv => k _ (fun s hs => ?_))
    rw [b5_and, hv s hs, cmp_i h2 (by have := (oN s).1; omega)]
    rfl
  · have q : a = 7 := nI_ij (by omega) (by omega) q
    subst q
    refine hwi_36 hN oH e1 e2 (fun v hv => k _ (fun s hs => ?_))
    rw [b5_and, hv s hs, cmp_i h2 (by have := (oH s).1; omega)]
    rfl
  · have a6 : a < 6 := by
      have y6 : a ≠ 6 := fun y => q6 (by rw [y]; rfl)
      have y7 : a ≠ 7 := fun y => q7 (by rw [y]; rfl)
      omega
    rw [d_l hz hj (by omega) (by omega) (by omega) (by omega)]
    have go : ∀ (L : Nat) (w : Int64), (if lev = 1 then 1 else 2) = L → (∀ u, u < 64 → bits5 w u = decide (L ≤ N u)) → wp S (d + 1) 62 237 [some (.ref 36), some (.int l1), some (.long who), none, some (.int l4), some (.int (nI (pz z j a lev sg num))), some (.int (nI a)), some (.int l7), some (.int l8), some (.int l9), some (.int s0), some (.long w), none, some (.long (0 : Int64)), none, some (.long who), none, some (.int (0 : Int32)), none] [] (wv x I J) (rJ x Q) := by
      intro L w eL hL
      refine hlp_36 a6 hM hL hw e1 e2 (fun v hv => k _ (fun s hs => ?_)) 64 0 0 who rfl (fun u hu => ?_) (fun u hu => ?_)
      · rw [hv s hs, cmp_i h2 (by have := nb_le (p := fun u => arB g a s u && decide (L ≤ N u)) 64; omega)]
        unfold atB
        rw [if_neg (by omega), if_neg (by omega), eL]
      · rw [b5_0, decide_eq_false (show ¬ u < 0 by omega)]
        rfl
      · rw [Nat.zero_add, decide_eq_true hu, Bool.true_and]
    refine ⟨fun q => ?_, fun q => ?_⟩
    · have q : lev = 1 := nI_ij (by omega) (by omega) q
      exact go 1 _ (if_pos q) (fun u hu => (hN u hu).1)
    · have q : lev ≠ 1 := fun y => q (by rw [y]; rfl)
      exact go 2 _ (if_neg q) (fun u hu => (hN u hu).2.1)
/-- a ONE -/
def HO_36 (S : Nat × (Nat → Int32)) (x : mX) (I : rI0) (J : rJ0) (g : Nat → Int32) (N hd : Nat → Nat) (m : Nat) : Prop := ∀ (d i len j dep : Nat) (V : lV) (who : Int64) (Q : Int64 → rI0 → rJ0 → Prop), lO (I 10) m i len j V → m + dep = 9 → i + len ≤ 240 → len ≤ 20 → j ≤ 1 → (∀ s, s < 64 → bits5 who s = true → seB g s = true) → (∀ v, (∀ s, s < 64 → bits5 v s = (bits5 who s && V (atB g N hd s))) → Q v I J) → wcJ S (d + 2 * m + 2) 62 [.ref 36, .int (nI i), .long who, .int (nI dep)] x I J Q
theorem jlp_36 {m : Nat} (HH : HO_36 S x I J g N hd m) {first size dep : Nat} {who : Int64} {Q : Int64 → rI0 → rJ0 → Prop} {V : lV} (hd9 : m + dep = 9) (h240 : first + size ≤ 240) (h20 : size ≤ 20) (hw : ∀ s, s < 64 → bits5 who s = true → seB g s = true) (k : ∀ v, (∀ s, s < 64 → bits5 v s = (bits5 who s && V (atB g N hd s))) → Q v I J) : ∀ (c i tried : Nat) (any all : Int64) (anyV allV : lV), lL (lO (I 10) m) c i (first + size) anyV allV V → first ≤ i → tried ≤ i - first → (∀ s, s < 64 → bits5 any s = (bits5 who s && anyV (atB g N hd s))) → (∀ s, s < 64 → bits5 all s = (bits5 who s && (allV (atB g N hd s) && !anyV (atB g N hd s)))) → wp S (d + 2 * m + 3) 61 31 [some (.ref 36), some (.int (nI first)), some (.int (nI size)), some (.long who), none, some (.int (nI dep)), some (.long any), none, some (.long all), none, some (.int (nI i)), some (.int (nI tried))] [] (wv x I J) (rJ x Q) := by
  intro c
  induction c with
  | zero => intro i tried any all anyV allV h; exact absurd h id
  | succ c ih =>
    intro i tried any all anyV allV h hi ht ha hl
    have hle := lL_le _ _ _ _ _ _ h
    have ebit : ∀ s, s < 64 → bits5 (any ||| all) s = (bits5 who s && (anyV (atB g N hd s) || allV (atB g N hd s))) := by
      intro s hs
      rw [b5_or, ha s hs, hl s hs]
      cases bits5 who s <;> cases anyV (atB g N hd s) <;> cases allV (atB g N hd s) <;> rfl
    have esum : nI first + nI size = nI (first + size) := nI_add first size
    by_cases z : i = first + size
    · have fin : Q (any ||| all) I J := by
        rcases h with ⟨_, hV⟩ | ⟨len, j, W, h1, _, h⟩
        · refine k _ (fun s hs => ?_)
          rw [ebit s hs, hV]
        · exfalso
          rcases h with ⟨_, h⟩ | ⟨_, h⟩
          · have := lL_le _ _ _ _ _ _ h
            omega
          · have := lL_le _ _ _ _ _ _ h
            omega
      refine v61_36_31 ⟨fun _ => ⟨fun q => absurd q ?_, fun _ => fin⟩, fun _ => fin⟩
      rw [esum, z]
      exact nI_nlt (Nat.le_refl _) (by omega)
    · rcases h with ⟨y, _⟩ | ⟨len, j, W, h1, hp, h⟩
      · exact absurd y z
      · have hle2 : i + len ≤ first + size := by
          rcases h with ⟨_, h⟩ | ⟨_, h⟩
          · exact lL_le _ _ _ _ _ _ h
          · exact lL_le _ _ _ _ _ _ h
        obtain ⟨w, lev, sg, num, b1, b2, b3, b4, hA⟩ := lO_w hp
        have hj : j ≤ 1 := by
          rcases h with ⟨y, _⟩ | ⟨y, _⟩ <;> omega
        have e1 : nI i + nI len = nI (i + len) := nI_add i len
        have step : ∀ (any1 all1 : Int64) (anyV1 allV1 allV2 : lV), lL (lO (I 10) m) c (i + len) (first + size) anyV1 allV2 V → (∀ s, s < 64 → bits5 any1 s = (bits5 who s && anyV1 (atB g N hd s))) → (∀ s, s < 64 → bits5 all1 s = (bits5 who s && (allV1 (atB g N hd s) && !anyV1 (atB g N hd s)))) → (∀ at_, allV2 at_ = (allV1 at_ && W at_)) → wp S (d + 2 * m + 3) 61 94 [some (.ref 36), some (.int (nI first)), some (.int (nI size)), some (.long who), none, some (.int (nI dep)), some (.long any1), none, some (.long all1), none, some (.int (nI i)), some (.int (nI tried))] [] (wv x I J) (rJ x Q) := by
          intro any1 all1 anyV1 allV1 allV2 hL g1 g2 g3
          refine v61_36_94 (HH d i len j dep W all1 _ hp hd9 (by omega) (by omega) hj (fun s hs y => hw s hs (by
            rw [g2 s hs] at y
            cases q : bits5 who s with
            | true => rfl
            | false =>
              rw [q] at y
              cases y)) (fun v hv => ⟨nI_in (by omega) (by omega), ?_⟩))
          rw [nI_clamp (by omega), hA, d_z (by omega) hj (by omega) (by omega) (by omega) (by omega), e1, ← nI_succ]
          refine ih (i + len) (tried + 1) any1 v anyV1 allV2 hL (by omega) (by omega) g1 (fun s hs => ?_)
          rw [hv s hs, g2 s hs, g3]
          cases bits5 who s <;> cases anyV1 (atB g N hd s) <;> cases allV1 (atB g N hd s) <;> cases W (atB g N hd s) <;> rfl
        refine v61_36_31 ⟨fun _ => ⟨fun _ => ⟨fun _ => ⟨nI_in (by omega) (by omega), ?_⟩, fun q => absurd (nI_lt (b := 240) (by omega) (by omega)) q⟩, fun q => absurd (by rw [esum]; exact nI_lt (by omega) (by omega)) q⟩, fun q => absurd (nI_lt (b := 20) (by omega) (by omega)) q⟩
        rw [nI_clamp (by omega), hA, d_j (by omega) hj (by omega) (by omega) (by omega) (by omega)]
        refine ⟨fun q => ?_, fun q => ?_⟩
        · have q : j = 0 := nI_ij (by omega) (by omega) q
          rcases h with ⟨_, h⟩ | ⟨y, _⟩
          · exact step any all anyV allV _ h ha hl (fun _ => rfl)
          · omega
        · have q : j ≠ 0 := fun y => q (by rw [y]; rfl)
          rcases h with ⟨y, _⟩ | ⟨_, h⟩
          · omega
          · refine step _ _ _ (fun _ => true) _ h ebit (fun s hs => ?_) (fun _ => rfl)
            rw [b5_and, b5_not hs, ebit s hs]
            cases bits5 who s <;> cases anyV (atB g N hd s) <;> cases allV (atB g N hd s) <;> rfl
theorem jnd_36 {m : Nat} (HH : HO_36 S x I J g N hd m) {first size dep : Nat} {who : Int64} {Q : Int64 → rI0 → rJ0 → Prop} {V : lV} (h : lJ (lO (I 10) m) first size V) (hd9 : m + dep = 9) (h1 : 1 ≤ size) (h240 : first + size ≤ 240) (h20 : size ≤ 20) (hw : ∀ s, s < 64 → bits5 who s = true → seB g s = true) (k : ∀ v, (∀ s, s < 64 → bits5 v s = (bits5 who s && V (atB g N hd s))) → Q v I J) : wcJ S (d + 2 * m + 3) 61 [.ref 36, .int (nI first), .int (nI size), .long who, .int (nI dep)] x I J Q := by
  obtain ⟨l1, W, g1, g2, g3⟩ := h
  have hm : 1 ≤ m := by
    cases m with
    | zero => exact absurd g2 id
    | succ m => omega
  refine c61_36 ⟨fun z => k _ (fun s hs => ?_), fun _ => ⟨fun _ => ⟨fun q => absurd q (nI_nlt (a := 8) (by omega) (by omega)), fun _ => ?_⟩, fun q => absurd (nI_lt (a := 0) h1 (by omega)) q⟩⟩
  · rw [lg_z.mp z, b5_0]
    rfl
  · refine jlp_36 HH hd9 h240 h20 hw k 22 first 0 0 who (fun _ => false) (fun _ => true) (Or.inr ⟨l1, 0, W, g1, g2, Or.inl ⟨rfl, g3⟩⟩) (Nat.le_refl _) (Nat.zero_le _) (fun s hs => ?_) (fun s hs => ?_)
    · rw [b5_0, Bool.and_false]
    · cases bits5 who s <;> rfl
theorem hnd_36 (hN : NP 36 J N hd) (oN : okN g N) (oH : okH g hd) (hM : AM g J) : ∀ m, HO_36 S x I J g N hd m := by
  intro m
  induction m with
  | zero => intro d i len j dep V who Q h; exact absurd h id
  | succ m ih =>
    intro d i len j dep V who Q h h9 h240 h20 hj hw k
    have hlen := lO_1 h
    show wcJ S (d + 2 * m + 3 + 1) 62 [.ref 36, .int (nI i), .long who, .int (nI dep)] x I J Q
    refine c62_36 ⟨fun z => k _ (fun s hs => ?_), fun _ => ⟨fun q => absurd q (nI_nlt (a := 8) (by omega) (by omega)), fun _ => ⟨fun q => absurd q (nI_nlt (b := 0) (by omega) (by omega)), fun _ => ⟨fun _ => ⟨nI_in (by omega) (by omega), ?_⟩, fun q => absurd (nI_lt (b := 240) (by omega) (by omega)) q⟩⟩⟩⟩
    · rw [lg_z.mp z, b5_0]
      rfl
    · rw [nI_clamp (by omega)]
      rcases h with ⟨hl, a, lev, sg, num, g1, g2, g3, g4, g5, g6⟩ | ⟨W, g1, g2, g3, g4⟩ | ⟨g1, g2, g3⟩
      · subst g6
        rw [g5, d_w (by omega) hj (by omega) (by omega) (by omega) (by omega), d_s (by omega) hj (by omega) (by omega) (by omega) (by omega), d_n (by omega) hj (by omega) (by omega) (by omega) (by omega)]
        have tn := nI_toInt (n := num) (by omega)
        have m1 : (nI num - (1 : Int32)).toInt = (num : Int) - 1 := i_sub tn (by decide : (1 : Int32).toInt = 1) (by omega)
        have w0 : (0 : Int32).toInt = 0 := by decide
        have w1023 : (1023 : Int32).toInt = 1023 := by decide
        refine ⟨fun q => absurd (nI_ij (b := 8) (by omega) (by omega) q) (by omega), fun _ => ⟨fun q => absurd (nI_ij (b := 9) (by omega) (by omega) q) (by omega), fun _ => ⟨fun q => ?_, fun q => ?_⟩⟩⟩
        · have q0 : sg = 0 := nI_ij (by omega) (by omega) q
          subst q0
          refine ⟨fun _ => ?_, fun y => absurd rfl y⟩
          exact hat_36 hN oN oH hM g1 (by omega) hj g2 g3 g4 hw rfl w0 m1 k
        · have q0 : sg ≠ 0 := fun y => q (by rw [y]; rfl)
          have lo : (nI num + nI sg - (1 : Int32)).toInt = loI sg num := by
            rw [nI_add]
            refine (i_sub (nI_toInt (by omega)) (by decide : (1 : Int32).toInt = 1) (by omega)).trans ?_
            unfold loI
            rw [if_neg q0]
            omega
          refine ⟨fun y => absurd y q, fun _ => ⟨fun y => ?_, fun y => ?_⟩⟩
          · have y1 : sg = 1 := nI_ij (by omega) (by omega) y
            subst y1
            exact hat_36 hN oN oH hM g1 (by omega) hj g2 g3 g4 hw rfl lo tn k
          · have y1 : sg ≠ 1 := fun y2 => y (by rw [y2]; rfl)
            have y2 : sg = 2 := by omega
            subst y2
            exact hat_36 hN oN oH hM g1 (by omega) hj g2 g3 g4 hw rfl lo w1023 k
      · subst g4
        rw [g2, d_w (by omega) hj (by omega) (by omega) (by omega) (by omega)]
        refine ⟨fun _ => ?_, fun q => absurd rfl q⟩
        rw [← nI_succ, ← nI_succ, show d + 2 * m + 3 = d + 1 + 2 * m + 2 by omega]
        refine ih (d + 1) (i + 1) (len - 1) 0 (dep + 1) W who _ g3 (by omega) (by omega) (by omega) (by omega) hw (fun v hv => k _ (fun s hs => ?_))
        rw [b5_and, b5_not hs, hv s hs]
        show (bits5 who s && !(bits5 who s && W (atB g N hd s))) = (bits5 who s && !W (atB g N hd s))
        cases bits5 who s <;> cases W (atB g N hd s) <;> rfl
      · have e1 : nI len - (1 : Int32) = nI (len - 1) := by
          have := nI_pr (len - 1)
          rw [show len - 1 + 1 = len by omega] at this
          exact this
        rw [g2, d_w (by omega) hj (by omega) (by omega) (by omega) (by omega), d_z (by omega) hj (by omega) (by omega) (by omega) (by omega), e1]
        refine ⟨fun q => absurd (nI_ij (b := 8) (by omega) (by omega) q) (by omega), fun _ => ⟨fun _ => ?_, fun q => absurd rfl q⟩⟩
        rw [← nI_succ, ← nI_succ]
        exact jnd_36 ih g3 (by omega) (by omega) (by omega) (by omega) hw k
end NS36
end
section
section NS41
variable {S : Nat × (Nat → Int32)} {d : Nat} {x : mX} {I : rI0} {J : rJ0} {g : Nat → Int32} {N hd : Nat → Nat}
theorem lwi_41 {p1 p2 : Int32} {lo hi : Int} {Q : Int64 → rI0 → rJ0 → Prop} (hN : NP 41 J N hd) (ho : okN g N) (e1 : p1.toInt = lo) (e2 : p2.toInt = hi) (k : ∀ v, (∀ s, s < 64 → bits5 v s = decide (lo ≤ (N s : Int) ∧ (N s : Int) ≤ hi)) → Q v I J) : wcJ S d 63 [.ref 41, .int p1, .int p2] x I J Q := by
  subst e1 e2
  have l0 : (0 : Int32).toInt = 0 := by decide
  have l1 : (1 : Int32).toInt = 1 := by decide
  have l2 : (2 : Int32).toInt = 2 := by decide
  have B : ∀ v v3 w : Int64, (∀ s, s < 64 → bits5 v s = decide (p1.toInt ≤ (N s : Int) ∧ (N s : Int) ≤ p2.toInt ∧ N s < 1)) → (∀ s, s < 64 → bits5 w s = decide (p1.toInt ≤ (N s : Int) ∧ (N s : Int) ≤ p2.toInt ∧ N s = 1)) → wp S d 63 49 [some (.ref 41), some (.int p1), some (.int p2), some (.long v3), none] [.long w, .long v] (wv x I J) (rJ x Q) := by
    intro v v3 w hv hw
    refine v63_41_49 ⟨fun h => k _ (fun s hs => ?_), fun h => ⟨fun h2 => k _ (fun s hs => ?_), fun h2 => k _ (fun s hs => ?_)⟩⟩
    · have h := i_lt h
      have hn := (ho s).1
      rw [b5_or, b5_or, hv s hs, hw s hs, b5_0, Bool.or_false, ← Bool.decide_or]
      exact decide_eq_decide.mpr (by omega)
    · have h2 := i_lt h2
      have hn := (ho s).1
      rw [b5_or, b5_or, hv s hs, hw s hs, b5_0, Bool.or_false, ← Bool.decide_or]
      exact decide_eq_decide.mpr (by omega)
    · have h := i_nlt h
      have h2 := i_nlt h2
      have hn := (ho s).1
      rw [b5_or, b5_or, hv s hs, hw s hs, (hN s hs).2.1, ← Bool.decide_or, ← Bool.decide_or]
      exact decide_eq_decide.mpr (by omega)
  have A : ∀ v : Int64, (∀ s, s < 64 → bits5 v s = decide (p1.toInt ≤ (N s : Int) ∧ (N s : Int) ≤ p2.toInt ∧ N s < 1)) → wp S d 63 20 [some (.ref 41), some (.int p1), some (.int p2), none, none] [.long v] (wv x I J) (rJ x Q) := by
    intro v hv
    refine v63_41_20 ⟨fun h => B _ _ _ hv (fun s hs => ?_), fun h => ⟨fun h2 => B _ _ _ hv (fun s hs => ?_), fun h2 => B _ _ _ hv (fun s hs => ?_)⟩⟩
    · have h := i_lt h
      rw [b5_0]
      exact (decide_eq_false (by omega)).symm
    · have h2 := i_lt h2
      rw [b5_0]
      exact (decide_eq_false (by omega)).symm
    · have h := i_nlt h
      have h2 := i_nlt h2
      have hn := (ho s).1
      rw [b5_and, b5_not hs, (hN s hs).1, (hN s hs).2.1, ← decide_not, ← Bool.decide_and]
      exact decide_eq_decide.mpr (by omega)
  refine c63_41 ⟨fun h => A _ (fun s hs => ?_), fun h => ⟨fun h2 => A _ (fun s hs => ?_), fun h2 => A _ (fun s hs => ?_)⟩⟩
  · have h := i_lt h
    rw [b5_0]
    exact (decide_eq_false (by omega)).symm
  · have h2 := i_lt h2
    rw [b5_0]
    exact (decide_eq_false (by omega)).symm
  · have h := i_nlt h
    have h2 := i_nlt h2
    rw [b5_not hs, (hN s hs).1, ← decide_not]
    exact decide_eq_decide.mpr (by omega)
theorem hwi_41 {p1 p2 : Int32} {lo hi : Int} {Q : Int64 → rI0 → rJ0 → Prop} (hN : NP 41 J N hd) (ho : okH g hd) (e1 : p1.toInt = lo) (e2 : p2.toInt = hi) (k : ∀ v, (∀ s, s < 64 → bits5 v s = decide (lo ≤ (hd s : Int) ∧ (hd s : Int) ≤ hi)) → Q v I J) : wcJ S d 64 [.ref 41, .int p1, .int p2] x I J Q := by
  subst e1 e2
  have l0 : (0 : Int32).toInt = 0 := by decide
  have l1 : (1 : Int32).toInt = 1 := by decide
  have l2 : (2 : Int32).toInt = 2 := by decide
  have l3 : (3 : Int32).toInt = 3 := by decide
  have C : ∀ v v3 w : Int64, (∀ s, s < 64 → bits5 v s = decide (p1.toInt ≤ (hd s : Int) ∧ (hd s : Int) ≤ p2.toInt ∧ hd s < 2)) → (∀ s, s < 64 → bits5 w s = decide (p1.toInt ≤ (hd s : Int) ∧ (hd s : Int) ≤ p2.toInt ∧ hd s = 2)) → wp S d 64 88 [some (.ref 41), some (.int p1), some (.int p2), some (.long v3), none] [.long w, .long v] (wv x I J) (rJ x Q) := by
    intro v v3 w hv hw
    refine v64_41_88 ⟨fun h => k _ (fun s hs => ?_), fun h => ⟨fun h2 => k _ (fun s hs => ?_), fun h2 => k _ (fun s hs => ?_)⟩⟩
    · have h := i_lt h
      have hn := (ho s).1
      rw [b5_or, b5_or, hv s hs, hw s hs, b5_0, Bool.or_false, ← Bool.decide_or]
      exact decide_eq_decide.mpr (by omega)
    · have h2 := i_lt h2
      have hn := (ho s).1
      rw [b5_or, b5_or, hv s hs, hw s hs, b5_0, Bool.or_false, ← Bool.decide_or]
      exact decide_eq_decide.mpr (by omega)
    · have h := i_nlt h
      have h2 := i_nlt h2
      have hn := (ho s).1
      rw [b5_or, b5_or, hv s hs, hw s hs, b5_and, (hN s hs).2.2.1, (hN s hs).2.2.2, ← Bool.decide_or, ← Bool.decide_and, ← Bool.decide_or]
      exact decide_eq_decide.mpr (by omega)
  have B : ∀ v v3 w : Int64, (∀ s, s < 64 → bits5 v s = decide (p1.toInt ≤ (hd s : Int) ∧ (hd s : Int) ≤ p2.toInt ∧ hd s < 1)) → (∀ s, s < 64 → bits5 w s = decide (p1.toInt ≤ (hd s : Int) ∧ (hd s : Int) ≤ p2.toInt ∧ hd s = 1)) → wp S d 64 58 [some (.ref 41), some (.int p1), some (.int p2), some (.long v3), none] [.long w, .long v] (wv x I J) (rJ x Q) := by
    intro v v3 w hv hw
    have hvw : ∀ s, s < 64 → bits5 (v ||| w) s = decide (p1.toInt ≤ (hd s : Int) ∧ (hd s : Int) ≤ p2.toInt ∧ hd s < 2) := by
      intro s hs
      rw [b5_or, hv s hs, hw s hs, ← Bool.decide_or]
      exact decide_eq_decide.mpr (by omega)
    refine v64_41_58 ⟨fun h => C _ _ _ hvw (fun s hs => ?_), fun h => ⟨fun h2 => C _ _ _ hvw (fun s hs => ?_), fun h2 => C _ _ _ hvw (fun s hs => ?_)⟩⟩
    · have h := i_lt h
      rw [b5_0]
      exact (decide_eq_false (by omega)).symm
    · have h2 := i_lt h2
      rw [b5_0]
      exact (decide_eq_false (by omega)).symm
    · have h := i_nlt h
      have h2 := i_nlt h2
      have hn := (ho s).1
      rw [b5_and, b5_not hs, (hN s hs).2.2.1, (hN s hs).2.2.2, ← decide_not, ← Bool.decide_and]
      exact decide_eq_decide.mpr (by omega)
  have A : ∀ v : Int64, (∀ s, s < 64 → bits5 v s = decide (p1.toInt ≤ (hd s : Int) ∧ (hd s : Int) ≤ p2.toInt ∧ hd s < 1)) → wp S d 64 29 [some (.ref 41), some (.int p1), some (.int p2), none, none] [.long v] (wv x I J) (rJ x Q) := by
    intro v hv
    refine v64_41_29 ⟨fun h => B _ _ _ hv (fun s hs => ?_), fun h => ⟨fun h2 => B _ _ _ hv (fun s hs => ?_), fun h2 => B _ _ _ hv (fun s hs => ?_)⟩⟩
    · have h := i_lt h
      rw [b5_0]
      exact (decide_eq_false (by omega)).symm
    · have h2 := i_lt h2
      rw [b5_0]
      exact (decide_eq_false (by omega)).symm
    · have h := i_nlt h
      have h2 := i_nlt h2
      have hn := (ho s).1
      rw [b5_and, b5_not hs, (hN s hs).2.2.1, (hN s hs).2.2.2, ← decide_not, ← Bool.decide_and]
      exact decide_eq_decide.mpr (by omega)
  refine c64_41 ⟨fun h => A _ (fun s hs => ?_), fun h => ⟨fun h2 => A _ (fun s hs => ?_), fun h2 => A _ (fun s hs => ?_)⟩⟩
  · have h := i_lt h
    rw [b5_0]
    exact (decide_eq_false (by omega)).symm
  · have h2 := i_lt h2
    rw [b5_0]
    exact (decide_eq_false (by omega)).symm
  · have h := i_nlt h
    have h2 := i_nlt h2
    have hn := (ho s).1
    rw [b5_and, b5_not hs, b5_not hs, (hN s hs).2.2.1, (hN s hs).2.2.2, ← decide_not, ← decide_not, ← Bool.decide_and]
    exact decide_eq_decide.mpr (by omega)
/-- the SEATS whose area counts so -/
theorem hlp_41 {a : Nat} {L : Nat} {who lev : Int64} {l1 l4 l5 l7 l8 l9 l10 : Int32} {lo hi : Int} {Q : Int64 → rI0 → rJ0 → Prop} (ha : a < 6) (hM : AM g J) (hL : ∀ u, u < 64 → bits5 lev u = decide (L ≤ N u)) (hw : ∀ s, s < 64 → bits5 who s = true → seB g s = true) (e1 : l9.toInt = lo) (e2 : l10.toInt = hi) (k : ∀ v, (∀ s, s < 64 → bits5 v s = (bits5 who s && decide (lo ≤ (nb (fun u => arB g a s u && decide (L ≤ N u)) 64 : Int) ∧ (nb (fun u => arB g a s u && decide (L ≤ N u)) 64 : Int) ≤ hi))) → Q v I J) : ∀ (m s : Nat) (holds rest : Int64), s + m = 64 → (∀ u, u < 64 → bits5 holds u = (decide (u < s) && (bits5 who u && decide (lo ≤ (nb (fun v => arB g a u v && decide (L ≤ N v)) 64 : Int) ∧ (nb (fun v => arB g a u v && decide (L ≤ N v)) 64 : Int) ≤ hi)))) → (∀ u, u < 64 → bits5 rest u = (decide (s + u < 64) && bits5 who (s + u))) → wp S (d + 1) 62 237 [some (.ref 41), some (.int l1), some (.long who), none, some (.int l4), some (.int l5), some (.int (nI a)), some (.int l7), some (.int l8), some (.int l9), some (.int l10), some (.long lev), none, some (.long holds), none, some (.long rest), none, some (.int (nI s)), none] [] (wv x I J) (rJ x Q) := by
  intro m
  induction m with
  | zero =>
    intro s holds rest hs hh hr
    refine v62_41_237 ⟨fun q => absurd q (nI_nlt (b := 64) (by omega) (by omega)), fun _ => k _ (fun u hu => ?_)⟩
    rw [hh u hu, decide_eq_true (by omega)]
    rfl
  | succ m ih =>
    intro s holds rest hs hh hr
    have h64 : s < 64 := by omega
    have b0 : bits5 rest 0 = bits5 who s := by
      rw [hr 0 (by omega), decide_eq_true (by omega)]
      rfl
    have hr' : ∀ u, u < 64 → bits5 ((rest.toUInt64 >>> ((1 : Int32).toInt64.toUInt64 &&& Int64.toUInt64 63)).toInt64) u = (decide (s + 1 + u < 64) && bits5 who (s + 1 + u)) := by
      intro u hu
      rw [sh_u hu]
      by_cases z : u + 1 < 64
      · rw [decide_eq_true z, hr (u + 1) z, show s + (u + 1) = s + 1 + u by omega]
        rfl
      · rw [decide_eq_false z, decide_eq_false (by omega)]
        rfl
    have skip : (bits5 who s && decide (lo ≤ (nb (fun v => arB g a s v && decide (L ≤ N v)) 64 : Int) ∧ (nb (fun v => arB g a s v && decide (L ≤ N v)) 64 : Int) ≤ hi)) = false → ∀ u, u < 64 → bits5 holds u = (decide (u < s + 1) && (bits5 who u && decide (lo ≤ (nb (fun v => arB g a u v && decide (L ≤ N v)) 64 : Int) ∧ (nb (fun v => arB g a u v && decide (L ≤ N v)) 64 : Int) ≤ hi))) := by
      intro z u hu
      rw [hh u hu]
      by_cases y : u = s
      · rw [y, z, Bool.and_false, Bool.and_false]
      · congr 1
        exact decide_eq_decide.mpr (by omega)
    refine v62_41_237 ⟨fun _ => ⟨fun _ => ⟨fun z => k _ (fun u hu => ?_), fun _ => ⟨fun z => ?_, fun z => ⟨?_, ?_⟩⟩⟩, fun q => absurd (nI_lt (b := 6) ha (by omega)) q⟩, fun q => absurd (nI_lt (b := 64) h64 (by omega)) q⟩
    · have z := b5_z.mp (lg_z.mp z)
      rw [hh u hu]
      by_cases y : u < s
      · rw [decide_eq_true y]
        rfl
      · have := z (u - s) (by omega)
        rw [hr (u - s) (by omega), show s + (u - s) = u by omega, decide_eq_true hu, Bool.true_and] at this
        rw [this, Bool.false_and, Bool.and_false]
    · have z := b5_lo.mp z
      rw [b0] at z
      rw [← nI_succ]
      exact ih (s + 1) _ _ (by omega) (skip (by rw [z]; rfl)) hr'
    · show ¬ mOut (nI a * nI 64 + nI s) 384
      rw [nI_mu, nI_add]
      exact nI_in (by omega) (by omega)
    · have w : bits5 who s = true := by
        cases y : bits5 who s with
        | true => rfl
        | false => exact absurd (b5_lo.mpr (b0.trans y)) z
      have ix : (nI a * (64 : Int32) + nI s).toNatClampNeg = 64 * a + s := by
        show (nI a * nI 64 + nI s).toNatClampNeg = _
        rw [nI_mu, nI_add, nI_clamp (by omega)]
        omega
      have ep : pc (J 11 ((nI a * (64 : Int32) + nI s).toNatClampNeg) &&& lev) = nb (fun v => arB g a s v && decide (L ≤ N v)) 64 := by
        refine nb_cg 64 (fun u hu => ?_)
        rw [b5_and, ix, hM a ha s (hw s h64 w) u hu, hL u hu]
      have hp := pc_l (J 11 ((nI a * (64 : Int32) + nI s).toNatClampNeg) &&& lev)
      refine bcX ?_
      rw [ep] at hp ⊢
      refine ⟨fun q => ?_, fun q => ⟨fun q2 => ?_, fun q2 => ?_⟩⟩
      · have q := i_lt q
        rw [nI_toInt (by omega)] at q
        rw [← nI_succ]
        exact ih (s + 1) _ _ (by omega) (skip (by rw [w, decide_eq_false (by omega)]; rfl)) hr'
      · have q2 := i_lt q2
        rw [nI_toInt (by omega)] at q2
        rw [← nI_succ]
        exact ih (s + 1) _ _ (by omega) (skip (by rw [w, decide_eq_false (by omega)]; rfl)) hr'
      · have q := i_nlt q
        have q2 := i_nlt q2
        rw [nI_toInt (by omega)] at q q2
        rw [← nI_succ]
        refine ih (s + 1) _ _ (by omega) (fun u hu => ?_) hr'
        rw [b5_or, b5_1 h64, hh u hu]
        by_cases y : u = s
        · rw [y, decide_eq_false (show ¬ s < s by omega), decide_eq_true (show s = s from rfl), decide_eq_true (show s < s + 1 by omega), w, decide_eq_true (by omega)]
          rfl
        · rw [decide_eq_false y, Bool.or_false]
          congr 1
          exact decide_eq_decide.mpr (by omega)
/-- a comparison -/
theorem hat_41 {z j a lev sg num : Nat} {who : Int64} {l1 l4 l5 l7 l8 l9 s0 : Int32} {Q : Int64 → rI0 → rJ0 → Prop} (hN : NP 41 J N hd) (oN : okN g N) (oH : okH g hd) (hM : AM g J) (ha : a < 8) (hz : z ≤ 20) (hj : j ≤ 1) (h1 : lev ≤ 2) (h2 : sg ≤ 2) (h3 : num ≤ 999) (hw : ∀ s, s < 64 → bits5 who s = true → seB g s = true) (e5 : l5 = nI (pz z j a lev sg num)) (e1 : l9.toInt = loI sg num) (e2 : s0.toInt = hiI sg num) (k : ∀ v, (∀ s, s < 64 → bits5 v s = (bits5 who s && atB g N hd s a lev sg num)) → Q v I J) : wp S (d + 1) 62 166 [some (.ref 41), some (.int l1), some (.long who), none, some (.int l4), some (.int l5), some (.int (nI a)), some (.int l7), some (.int l8), some (.int l9), none, none, none, none, none, none, none, none, none] [.int s0] (wv x I J) (rJ x Q) := by
  subst e5
  refine v62_41_166 ⟨fun q => ?_, fun q6 => ⟨fun q => ?_, fun q7 => ?_⟩⟩
  · have q : a = 6 := nI_ij (by omega) (by omega) q
    subst q
    refine lwi_41 hN oN e1 e2 (fun v hv => k _ (fun s hs => ?_))
    rw [b5_and, hv s hs, cmp_i h2 (by have := (oN s).1; omega)]
    rfl
  · have q : a = 7 := nI_ij (by omega) (by omega) q
    subst q
    refine hwi_41 hN oH e1 e2 (fun v hv => k _ (fun s hs => ?_))
    rw [b5_and, hv s hs, cmp_i h2 (by have := (oH s).1; omega)]
    rfl
  · have a6 : a < 6 := by
      have y6 : a ≠ 6 := fun y => q6 (by rw [y]; rfl)
      have y7 : a ≠ 7 := fun y => q7 (by rw [y]; rfl)
      omega
    rw [d_l hz hj (by omega) (by omega) (by omega) (by omega)]
    have go : ∀ (L : Nat) (w : Int64), (if lev = 1 then 1 else 2) = L → (∀ u, u < 64 → bits5 w u = decide (L ≤ N u)) → wp S (d + 1) 62 237 [some (.ref 41), some (.int l1), some (.long who), none, some (.int l4), some (.int (nI (pz z j a lev sg num))), some (.int (nI a)), some (.int l7), some (.int l8), some (.int l9), some (.int s0), some (.long w), none, some (.long (0 : Int64)), none, some (.long who), none, some (.int (0 : Int32)), none] [] (wv x I J) (rJ x Q) := by
      intro L w eL hL
      refine hlp_41 a6 hM hL hw e1 e2 (fun v hv => k _ (fun s hs => ?_)) 64 0 0 who rfl (fun u hu => ?_) (fun u hu => ?_)
      · rw [hv s hs, cmp_i h2 (by have := nb_le (p := fun u => arB g a s u && decide (L ≤ N u)) 64; omega)]
        unfold atB
        rw [if_neg (by omega), if_neg (by omega), eL]
      · rw [b5_0, decide_eq_false (show ¬ u < 0 by omega)]
        rfl
      · rw [Nat.zero_add, decide_eq_true hu, Bool.true_and]
    refine ⟨fun q => ?_, fun q => ?_⟩
    · have q : lev = 1 := nI_ij (by omega) (by omega) q
      exact go 1 _ (if_pos q) (fun u hu => (hN u hu).1)
    · have q : lev ≠ 1 := fun y => q (by rw [y]; rfl)
      exact go 2 _ (if_neg q) (fun u hu => (hN u hu).2.1)
/-- a ONE -/
def HO_41 (S : Nat × (Nat → Int32)) (x : mX) (I : rI0) (J : rJ0) (g : Nat → Int32) (N hd : Nat → Nat) (m : Nat) : Prop := ∀ (d i len j dep : Nat) (V : lV) (who : Int64) (Q : Int64 → rI0 → rJ0 → Prop), lO (I 10) m i len j V → m + dep = 9 → i + len ≤ 240 → len ≤ 20 → j ≤ 1 → (∀ s, s < 64 → bits5 who s = true → seB g s = true) → (∀ v, (∀ s, s < 64 → bits5 v s = (bits5 who s && V (atB g N hd s))) → Q v I J) → wcJ S (d + 2 * m + 2) 62 [.ref 41, .int (nI i), .long who, .int (nI dep)] x I J Q
theorem jlp_41 {m : Nat} (HH : HO_41 S x I J g N hd m) {first size dep : Nat} {who : Int64} {Q : Int64 → rI0 → rJ0 → Prop} {V : lV} (hd9 : m + dep = 9) (h240 : first + size ≤ 240) (h20 : size ≤ 20) (hw : ∀ s, s < 64 → bits5 who s = true → seB g s = true) (k : ∀ v, (∀ s, s < 64 → bits5 v s = (bits5 who s && V (atB g N hd s))) → Q v I J) : ∀ (c i tried : Nat) (any all : Int64) (anyV allV : lV), lL (lO (I 10) m) c i (first + size) anyV allV V → first ≤ i → tried ≤ i - first → (∀ s, s < 64 → bits5 any s = (bits5 who s && anyV (atB g N hd s))) → (∀ s, s < 64 → bits5 all s = (bits5 who s && (allV (atB g N hd s) && !anyV (atB g N hd s)))) → wp S (d + 2 * m + 3) 61 31 [some (.ref 41), some (.int (nI first)), some (.int (nI size)), some (.long who), none, some (.int (nI dep)), some (.long any), none, some (.long all), none, some (.int (nI i)), some (.int (nI tried))] [] (wv x I J) (rJ x Q) := by
  intro c
  induction c with
  | zero => intro i tried any all anyV allV h; exact absurd h id
  | succ c ih =>
    intro i tried any all anyV allV h hi ht ha hl
    have hle := lL_le _ _ _ _ _ _ h
    have ebit : ∀ s, s < 64 → bits5 (any ||| all) s = (bits5 who s && (anyV (atB g N hd s) || allV (atB g N hd s))) := by
      intro s hs
      rw [b5_or, ha s hs, hl s hs]
      cases bits5 who s <;> cases anyV (atB g N hd s) <;> cases allV (atB g N hd s) <;> rfl
    have esum : nI first + nI size = nI (first + size) := nI_add first size
    by_cases z : i = first + size
    · have fin : Q (any ||| all) I J := by
        rcases h with ⟨_, hV⟩ | ⟨len, j, W, h1, _, h⟩
        · refine k _ (fun s hs => ?_)
          rw [ebit s hs, hV]
        · exfalso
          rcases h with ⟨_, h⟩ | ⟨_, h⟩
          · have := lL_le _ _ _ _ _ _ h
            omega
          · have := lL_le _ _ _ _ _ _ h
            omega
      refine v61_41_31 ⟨fun _ => ⟨fun q => absurd q ?_, fun _ => fin⟩, fun _ => fin⟩
      rw [esum, z]
      exact nI_nlt (Nat.le_refl _) (by omega)
    · rcases h with ⟨y, _⟩ | ⟨len, j, W, h1, hp, h⟩
      · exact absurd y z
      · have hle2 : i + len ≤ first + size := by
          rcases h with ⟨_, h⟩ | ⟨_, h⟩
          · exact lL_le _ _ _ _ _ _ h
          · exact lL_le _ _ _ _ _ _ h
        obtain ⟨w, lev, sg, num, b1, b2, b3, b4, hA⟩ := lO_w hp
        have hj : j ≤ 1 := by
          rcases h with ⟨y, _⟩ | ⟨y, _⟩ <;> omega
        have e1 : nI i + nI len = nI (i + len) := nI_add i len
        have step : ∀ (any1 all1 : Int64) (anyV1 allV1 allV2 : lV), lL (lO (I 10) m) c (i + len) (first + size) anyV1 allV2 V → (∀ s, s < 64 → bits5 any1 s = (bits5 who s && anyV1 (atB g N hd s))) → (∀ s, s < 64 → bits5 all1 s = (bits5 who s && (allV1 (atB g N hd s) && !anyV1 (atB g N hd s)))) → (∀ at_, allV2 at_ = (allV1 at_ && W at_)) → wp S (d + 2 * m + 3) 61 94 [some (.ref 41), some (.int (nI first)), some (.int (nI size)), some (.long who), none, some (.int (nI dep)), some (.long any1), none, some (.long all1), none, some (.int (nI i)), some (.int (nI tried))] [] (wv x I J) (rJ x Q) := by
          intro any1 all1 anyV1 allV1 allV2 hL g1 g2 g3
          refine v61_41_94 (HH d i len j dep W all1 _ hp hd9 (by omega) (by omega) hj (fun s hs y => hw s hs (by
            rw [g2 s hs] at y
            cases q : bits5 who s with
            | true => rfl
            | false =>
              rw [q] at y
              cases y)) (fun v hv => ⟨nI_in (by omega) (by omega), ?_⟩))
          rw [nI_clamp (by omega), hA, d_z (by omega) hj (by omega) (by omega) (by omega) (by omega), e1, ← nI_succ]
          refine ih (i + len) (tried + 1) any1 v anyV1 allV2 hL (by omega) (by omega) g1 (fun s hs => ?_)
          rw [hv s hs, g2 s hs, g3]
          cases bits5 who s <;> cases anyV1 (atB g N hd s) <;> cases allV1 (atB g N hd s) <;> cases W (atB g N hd s) <;> rfl
        refine v61_41_31 ⟨fun _ => ⟨fun _ => ⟨fun _ => ⟨nI_in (by omega) (by omega), ?_⟩, fun q => absurd (nI_lt (b := 240) (by omega) (by omega)) q⟩, fun q => absurd (by rw [esum]; exact nI_lt (by omega) (by omega)) q⟩, fun q => absurd (nI_lt (b := 20) (by omega) (by omega)) q⟩
        rw [nI_clamp (by omega), hA, d_j (by omega) hj (by omega) (by omega) (by omega) (by omega)]
        refine ⟨fun q => ?_, fun q => ?_⟩
        · have q : j = 0 := nI_ij (by omega) (by omega) q
          rcases h with ⟨_, h⟩ | ⟨y, _⟩
          · exact step any all anyV allV _ h ha hl (fun _ => rfl)
          · omega
        · have q : j ≠ 0 := fun y => q (by rw [y]; rfl)
          rcases h with ⟨y, _⟩ | ⟨_, h⟩
          · omega
          · refine step _ _ _ (fun _ => true) _ h ebit (fun s hs => ?_) (fun _ => rfl)
            rw [b5_and, b5_not hs, ebit s hs]
            cases bits5 who s <;> cases anyV (atB g N hd s) <;> cases allV (atB g N hd s) <;> rfl
theorem jnd_41 {m : Nat} (HH : HO_41 S x I J g N hd m) {first size dep : Nat} {who : Int64} {Q : Int64 → rI0 → rJ0 → Prop} {V : lV} (h : lJ (lO (I 10) m) first size V) (hd9 : m + dep = 9) (h1 : 1 ≤ size) (h240 : first + size ≤ 240) (h20 : size ≤ 20) (hw : ∀ s, s < 64 → bits5 who s = true → seB g s = true) (k : ∀ v, (∀ s, s < 64 → bits5 v s = (bits5 who s && V (atB g N hd s))) → Q v I J) : wcJ S (d + 2 * m + 3) 61 [.ref 41, .int (nI first), .int (nI size), .long who, .int (nI dep)] x I J Q := by
  obtain ⟨l1, W, g1, g2, g3⟩ := h
  have hm : 1 ≤ m := by
    cases m with
    | zero => exact absurd g2 id
    | succ m => omega
  refine c61_41 ⟨fun z => k _ (fun s hs => ?_), fun _ => ⟨fun _ => ⟨fun q => absurd q (nI_nlt (a := 8) (by omega) (by omega)), fun _ => ?_⟩, fun q => absurd (nI_lt (a := 0) h1 (by omega)) q⟩⟩
  · rw [lg_z.mp z, b5_0]
    rfl
  · refine jlp_41 HH hd9 h240 h20 hw k 22 first 0 0 who (fun _ => false) (fun _ => true) (Or.inr ⟨l1, 0, W, g1, g2, Or.inl ⟨rfl, g3⟩⟩) (Nat.le_refl _) (Nat.zero_le _) (fun s hs => ?_) (fun s hs => ?_)
    · rw [b5_0, Bool.and_false]
    · cases bits5 who s <;> rfl
theorem hnd_41 (hN : NP 41 J N hd) (oN : okN g N) (oH : okH g hd) (hM : AM g J) : ∀ m, HO_41 S x I J g N hd m := by
  intro m
  induction m with
  | zero => intro d i len j dep V who Q h; exact absurd h id
  | succ m ih =>
    intro d i len j dep V who Q h h9 h240 h20 hj hw k
    have hlen := lO_1 h
    show wcJ S (d + 2 * m + 3 + 1) 62 [.ref 41, .int (nI i), .long who, .int (nI dep)] x I J Q
    refine c62_41 ⟨fun z => k _ (fun s hs => ?_), fun _ => ⟨fun q => absurd q (nI_nlt (a := 8) (by omega) (by omega)), fun _ => ⟨fun q => absurd q (nI_nlt (b := 0) (by omega) (by omega)), fun _ => ⟨fun _ => ⟨nI_in (by omega) (by omega), ?_⟩, fun q => absurd (nI_lt (b := 240) (by omega) (by omega)) q⟩⟩⟩⟩
    · rw [lg_z.mp z, b5_0]
      rfl
    · rw [nI_clamp (by omega)]
      rcases h with ⟨hl, a, lev, sg, num, g1, g2, g3, g4, g5, g6⟩ | ⟨W, g1, g2, g3, g4⟩ | ⟨g1, g2, g3⟩
      · subst g6
        rw [g5, d_w (by omega) hj (by omega) (by omega) (by omega) (by omega), d_s (by omega) hj (by omega) (by omega) (by omega) (by omega), d_n (by omega) hj (by omega) (by omega) (by omega) (by omega)]
        have tn := nI_toInt (n := num) (by omega)
        have m1 : (nI num - (1 : Int32)).toInt = (num : Int) - 1 := i_sub tn (by decide : (1 : Int32).toInt = 1) (by omega)
        have w0 : (0 : Int32).toInt = 0 := by decide
        have w1023 : (1023 : Int32).toInt = 1023 := by decide
        refine ⟨fun q => absurd (nI_ij (b := 8) (by omega) (by omega) q) (by omega), fun _ => ⟨fun q => absurd (nI_ij (b := 9) (by omega) (by omega) q) (by omega), fun _ => ⟨fun q => ?_, fun q => ?_⟩⟩⟩
        · have q0 : sg = 0 := nI_ij (by omega) (by omega) q
          subst q0
          refine ⟨fun _ => ?_, fun y => absurd rfl y⟩
          exact hat_41 hN oN oH hM g1 (by omega) hj g2 g3 g4 hw rfl w0 m1 k
        · have q0 : sg ≠ 0 := fun y => q (by rw [y]; rfl)
          have lo : (nI num + nI sg - (1 : Int32)).toInt = loI sg num := by
            rw [nI_add]
            refine (i_sub (nI_toInt (by omega)) (by decide : (1 : Int32).toInt = 1) (by omega)).trans ?_
            unfold loI
            rw [if_neg q0]
            omega
          refine ⟨fun y => absurd y q, fun _ => ⟨fun y => ?_, fun y => ?_⟩⟩
          · have y1 : sg = 1 := nI_ij (by omega) (by omega) y
            subst y1
            exact hat_41 hN oN oH hM g1 (by omega) hj g2 g3 g4 hw rfl lo tn k
          · have y1 : sg ≠ 1 := fun y2 => y (by rw [y2]; rfl)
            have y2 : sg = 2 := by omega
            subst y2
            exact hat_41 hN oN oH hM g1 (by omega) hj g2 g3 g4 hw rfl lo w1023 k
      · subst g4
        rw [g2, d_w (by omega) hj (by omega) (by omega) (by omega) (by omega)]
        refine ⟨fun _ => ?_, fun q => absurd rfl q⟩
        rw [← nI_succ, ← nI_succ, show d + 2 * m + 3 = d + 1 + 2 * m + 2 by omega]
        refine ih (d + 1) (i + 1) (len - 1) 0 (dep + 1) W who _ g3 (by omega) (by omega) (by omega) (by omega) hw (fun v hv => k _ (fun s hs => ?_))
        rw [b5_and, b5_not hs, hv s hs]
        show (bits5 who s && !(bits5 who s && W (atB g N hd s))) = (bits5 who s && !W (atB g N hd s))
        cases bits5 who s <;> cases W (atB g N hd s) <;> rfl
      · have e1 : nI len - (1 : Int32) = nI (len - 1) := by
          have := nI_pr (len - 1)
          rw [show len - 1 + 1 = len by omega] at this
          exact this
        rw [g2, d_w (by omega) hj (by omega) (by omega) (by omega) (by omega), d_z (by omega) hj (by omega) (by omega) (by omega) (by omega), e1]
        refine ⟨fun q => absurd (nI_ij (b := 8) (by omega) (by omega) q) (by omega), fun _ => ⟨fun _ => ?_, fun q => absurd rfl q⟩⟩
        rw [← nI_succ, ← nI_succ]
        exact jnd_41 ih g3 (by omega) (by omega) (by omega) (by omega) hw k
end NS41
end
