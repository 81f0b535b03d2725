section
section NS42
variable {S : Nat × (Nat → Int32)} {d : Nat} {x : mX} {I : rI0} {J : rJ0} {g : Nat → Int32} {N hd : Nat → Nat}
theorem lwi_42 {p1 p2 : Int32} {lo hi : Int} {Q : Int64 → rI0 → rJ0 → Prop} (hN : NP 42 J N hd) (ho : okN g N) (e1 : p1.toInt = lo) (e2 : p2.toInt = hi) (k : ∀ v, (∀ s, s < 64 → bits5 v s = decide (lo ≤ (N s : Int) ∧ (N s : Int) ≤ hi)) → Q v I J) : wcJ S d 63 [.ref 42, .int p1, .int p2] x I J Q := by
  subst e1 e2
  have l0 : (0 : Int32).toInt = 0 := by decide
  have l1 : (1 : Int32).toInt = 1 := by decide
  have l2 : (2 : Int32).toInt = 2 := by decide
  have B : ∀ v v3 w : Int64, (∀ s, s < 64 → bits5 v s = decide (p1.toInt ≤ (N s : Int) ∧ (N s : Int) ≤ p2.toInt ∧ N s < 1)) → (∀ s, s < 64 → bits5 w s = decide (p1.toInt ≤ (N s : Int) ∧ (N s : Int) ≤ p2.toInt ∧ N s = 1)) → wp S d 63 49 [some (.ref 42), some (.int p1), some (.int p2), some (.long v3), none] [.long w, .long v] (wv x I J) (rJ x Q) := by
    intro v v3 w hv hw
    refine v63_42_49 ⟨fun h => k _ (fun s hs => ?_), fun h => ⟨fun h2 => k _ (fun s hs => ?_), fun h2 => k _ (fun s hs => ?_)⟩⟩
    · have h := i_lt h
      have hn := (ho s).1
      rw [b5_or, b5_or, hv s hs, hw s hs, b5_0, Bool.or_false, ← Bool.decide_or]
      exact decide_eq_decide.mpr (by omega)
    · have h2 := i_lt h2
      have hn := (ho s).1
      rw [b5_or, b5_or, hv s hs, hw s hs, b5_0, Bool.or_false, ← Bool.decide_or]
      exact decide_eq_decide.mpr (by omega)
    · have h := i_nlt h
      have h2 := i_nlt h2
      have hn := (ho s).1
      rw [b5_or, b5_or, hv s hs, hw s hs, (hN s hs).2.1, ← Bool.decide_or, ← Bool.decide_or]
      exact decide_eq_decide.mpr (by omega)
  have A : ∀ v : Int64, (∀ s, s < 64 → bits5 v s = decide (p1.toInt ≤ (N s : Int) ∧ (N s : Int) ≤ p2.toInt ∧ N s < 1)) → wp S d 63 20 [some (.ref 42), some (.int p1), some (.int p2), none, none] [.long v] (wv x I J) (rJ x Q) := by
    intro v hv
    refine v63_42_20 ⟨fun h => B _ _ _ hv (fun s hs => ?_), fun h => ⟨fun h2 => B _ _ _ hv (fun s hs => ?_), fun h2 => B _ _ _ hv (fun s hs => ?_)⟩⟩
    · have h := i_lt h
      rw [b5_0]
      exact (decide_eq_false (by omega)).symm
    · have h2 := i_lt h2
      rw [b5_0]
      exact (decide_eq_false (by omega)).symm
    · have h := i_nlt h
      have h2 := i_nlt h2
      have hn := (ho s).1
      rw [b5_and, b5_not hs, (hN s hs).1, (hN s hs).2.1, ← decide_not, ← Bool.decide_and]
      exact decide_eq_decide.mpr (by omega)
  refine c63_42 ⟨fun h => A _ (fun s hs => ?_), fun h => ⟨fun h2 => A _ (fun s hs => ?_), fun h2 => A _ (fun s hs => ?_)⟩⟩
  · have h := i_lt h
    rw [b5_0]
    exact (decide_eq_false (by omega)).symm
  · have h2 := i_lt h2
    rw [b5_0]
    exact (decide_eq_false (by omega)).symm
  · have h := i_nlt h
    have h2 := i_nlt h2
    rw [b5_not hs, (hN s hs).1, ← decide_not]
    exact decide_eq_decide.mpr (by omega)
theorem hwi_42 {p1 p2 : Int32} {lo hi : Int} {Q : Int64 → rI0 → rJ0 → Prop} (hN : NP 42 J N hd) (ho : okH g hd) (e1 : p1.toInt = lo) (e2 : p2.toInt = hi) (k : ∀ v, (∀ s, s < 64 → bits5 v s = decide (lo ≤ (hd s : Int) ∧ (hd s : Int) ≤ hi)) → Q v I J) : wcJ S d 64 [.ref 42, .int p1, .int p2] x I J Q := by
  subst e1 e2
  have l0 : (0 : Int32).toInt = 0 := by decide
  have l1 : (1 : Int32).toInt = 1 := by decide
  have l2 : (2 : Int32).toInt = 2 := by decide
  have l3 : (3 : Int32).toInt = 3 := by decide
  have C : ∀ v v3 w : Int64, (∀ s, s < 64 → bits5 v s = decide (p1.toInt ≤ (hd s : Int) ∧ (hd s : Int) ≤ p2.toInt ∧ hd s < 2)) → (∀ s, s < 64 → bits5 w s = decide (p1.toInt ≤ (hd s : Int) ∧ (hd s : Int) ≤ p2.toInt ∧ hd s = 2)) → wp S d 64 88 [some (.ref 42), some (.int p1), some (.int p2), some (.long v3), none] [.long w, .long v] (wv x I J) (rJ x Q) := by
    intro v v3 w hv hw
    refine v64_42_88 ⟨fun h => k _ (fun s hs => ?_), fun h => ⟨fun h2 => k _ (fun s hs => ?_), fun h2 => k _ (fun s hs => ?_)⟩⟩
    · have h := i_lt h
      have hn := (ho s).1
      rw [b5_or, b5_or, hv s hs, hw s hs, b5_0, Bool.or_false, ← Bool.decide_or]
      exact decide_eq_decide.mpr (by omega)
    · have h2 := i_lt h2
      have hn := (ho s).1
      rw [b5_or, b5_or, hv s hs, hw s hs, b5_0, Bool.or_false, ← Bool.decide_or]
      exact decide_eq_decide.mpr (by omega)
    · have h := i_nlt h
      have h2 := i_nlt h2
      have hn := (ho s).1
      rw [b5_or, b5_or, hv s hs, hw s hs, b5_and, (hN s hs).2.2.1, (hN s hs).2.2.2, ← Bool.decide_or, ← Bool.decide_and, ← Bool.decide_or]
      exact decide_eq_decide.mpr (by omega)
  have B : ∀ v v3 w : Int64, (∀ s, s < 64 → bits5 v s = decide (p1.toInt ≤ (hd s : Int) ∧ (hd s : Int) ≤ p2.toInt ∧ hd s < 1)) → (∀ s, s < 64 → bits5 w s = decide (p1.toInt ≤ (hd s : Int) ∧ (hd s : Int) ≤ p2.toInt ∧ hd s = 1)) → wp S d 64 58 [some (.ref 42), some (.int p1), some (.int p2), some (.long v3), none] [.long w, .long v] (wv x I J) (rJ x Q) := by
    intro v v3 w hv hw
    have hvw : ∀ s, s < 64 → bits5 (v ||| w) s = decide (p1.toInt ≤ (hd s : Int) ∧ (hd s : Int) ≤ p2.toInt ∧ hd s < 2) := by
      intro s hs
      rw [b5_or, hv s hs, hw s hs, ← Bool.decide_or]
      exact decide_eq_decide.mpr (by omega)
    refine v64_42_58 ⟨fun h => C _ _ _ hvw (fun s hs => ?_), fun h => ⟨fun h2 => C _ _ _ hvw (fun s hs => ?_), fun h2 => C _ _ _ hvw (fun s hs => ?_)⟩⟩
    · have h := i_lt h
      rw [b5_0]
      exact (decide_eq_false (by omega)).symm
    · have h2 := i_lt h2
      rw [b5_0]
      exact (decide_eq_false (by omega)).symm
    · have h := i_nlt h
      have h2 := i_nlt h2
      have hn := (ho s).1
      rw [b5_and, b5_not hs, (hN s hs).2.2.1, (hN s hs).2.2.2, ← decide_not, ← Bool.decide_and]
      exact decide_eq_decide.mpr (by omega)
  have A : ∀ v : Int64, (∀ s, s < 64 → bits5 v s = decide (p1.toInt ≤ (hd s : Int) ∧ (hd s : Int) ≤ p2.toInt ∧ hd s < 1)) → wp S d 64 29 [some (.ref 42), some (.int p1), some (.int p2), none, none] [.long v] (wv x I J) (rJ x Q) := by
    intro v hv
    refine v64_42_29 ⟨fun h => B _ _ _ hv (fun s hs => ?_), fun h => ⟨fun h2 => B _ _ _ hv (fun s hs => ?_), fun h2 => B _ _ _ hv (fun s hs => ?_)⟩⟩
    · have h := i_lt h
      rw [b5_0]
      exact (decide_eq_false (by omega)).symm
    · have h2 := i_lt h2
      rw [b5_0]
      exact (decide_eq_false (by omega)).symm
    · have h := i_nlt h
      have h2 := i_nlt h2
      have hn := (ho s).1
      rw [b5_and, b5_not hs, (hN s hs).2.2.1, (hN s hs).2.2.2, ← decide_not, ← Bool.decide_and]
      exact decide_eq_decide.mpr (by omega)
  refine c64_42 ⟨fun h => A _ (fun s hs => ?_), fun h => ⟨fun h2 => A _ (fun s hs => ?_), fun h2 => A _ (fun s hs => ?_)⟩⟩
  · have h := i_lt h
    rw [b5_0]
    exact (decide_eq_false (by omega)).symm
  · have h2 := i_lt h2
    rw [b5_0]
    exact (decide_eq_false (by omega)).symm
  · have h := i_nlt h
    have h2 := i_nlt h2
    have hn := (ho s).1
    rw [b5_and, b5_not hs, b5_not hs, (hN s hs).2.2.1, (hN s hs).2.2.2, ← decide_not, ← decide_not, ← Bool.decide_and]
    exact decide_eq_decide.mpr (by omega)
/-- the SEATS whose area counts so -/
theorem hlp_42 {a : Nat} {L : Nat} {who lev : Int64} {l1 l4 l5 l7 l8 l9 l10 : Int32} {lo hi : Int} {Q : Int64 → rI0 → rJ0 → Prop} (ha : a < 6) (hM : AM g J) (hL : ∀ u, u < 64 → bits5 lev u = decide (L ≤ N u)) (hw : ∀ s, s < 64 → bits5 who s = true → seB g s = true) (e1 : l9.toInt = lo) (e2 : l10.toInt = hi) (k : ∀ v, (∀ s, s < 64 → bits5 v s = (bits5 who s && decide (lo ≤ (nb (fun u => arB g a s u && decide (L ≤ N u)) 64 : Int) ∧ (nb (fun u => arB g a s u && decide (L ≤ N u)) 64 : Int) ≤ hi))) → Q v I J) : ∀ (m s : Nat) (holds rest : Int64), s + m = 64 → (∀ u, u < 64 → bits5 holds u = (decide (u < s) && (bits5 who u && decide (lo ≤ (nb (fun v => arB g a u v && decide (L ≤ N v)) 64 : Int) ∧ (nb (fun v => arB g a u v && decide (L ≤ N v)) 64 : Int) ≤ hi)))) → (∀ u, u < 64 → bits5 rest u = (decide (s + u < 64) && bits5 who (s + u))) → wp S (d + 1) 62 237 [some (.ref 42), some (.int l1), some (.long who), none, some (.int l4), some (.int l5), some (.int (nI a)), some (.int l7), some (.int l8), some (.int l9), some (.int l10), some (.long lev), none, some (.long holds), none, some (.long rest), none, some (.int (nI s)), none] [] (wv x I J) (rJ x Q) := by
  intro m
  induction m with
  | zero =>
    intro s holds rest hs hh hr
    refine v62_42_237 ⟨fun q => absurd q (nI_nlt (b := 64) (by omega) (by omega)), fun _ => k _ (fun u hu => ?_)⟩
    rw [hh u hu, decide_eq_true (by omega)]
    rfl
  | succ m ih =>
    intro s holds rest hs hh hr
    have h64 : s < 64 := by omega
    have b0 : bits5 rest 0 = bits5 who s := by
      rw [hr 0 (by omega), decide_eq_true (by omega)]
      rfl
    have hr' : ∀ u, u < 64 → bits5 ((rest.toUInt64 >>> ((1 : Int32).toInt64.toUInt64 &&& Int64.toUInt64 63)).toInt64) u = (decide (s + 1 + u < 64) && bits5 who (s + 1 + u)) := by
      intro u hu
      rw [sh_u hu]
      by_cases z : u + 1 < 64
      · rw [decide_eq_true z, hr (u + 1) z, show s + (u + 1) = s + 1 + u by omega]
        rfl
      · rw [decide_eq_false z, decide_eq_false (by omega)]
        rfl
    have skip : (bits5 who s && decide (lo ≤ (nb (fun v => arB g a s v && decide (L ≤ N v)) 64 : Int) ∧ (nb (fun v => arB g a s v && decide (L ≤ N v)) 64 : Int) ≤ hi)) = false → ∀ u, u < 64 → bits5 holds u = (decide (u < s + 1) && (bits5 who u && decide (lo ≤ (nb (fun v => arB g a u v && decide (L ≤ N v)) 64 : Int) ∧ (nb (fun v => arB g a u v && decide (L ≤ N v)) 64 : Int) ≤ hi))) := by
      intro z u hu
      rw [hh u hu]
      by_cases y : u = s
      · rw [y, z, Bool.and_false, Bool.and_false]
      · congr 1
        exact decide_eq_decide.mpr (by omega)
    refine v62_42_237 ⟨fun _ => ⟨fun _ => ⟨fun z => k _ (fun u hu => ?_), fun _ => ⟨fun z => ?_, fun z => ⟨?_, ?_⟩⟩⟩, fun q => absurd (nI_lt (b := 6) ha (by omega)) q⟩, fun q => absurd (nI_lt (b := 64) h64 (by omega)) q⟩
    · have z := b5_z.mp (lg_z.mp z)
      rw [hh u hu]
      by_cases y : u < s
      · rw [decide_eq_true y]
        rfl
      · have := z (u - s) (by omega)
        rw [hr (u - s) (by omega), show s + (u - s) = u by omega, decide_eq_true hu, Bool.true_and] at this
        rw [this, Bool.false_and, Bool.and_false]
    · have z := b5_lo.mp z
      rw [b0] at z
      rw [← nI_succ]
      exact ih (s + 1) _ _ (by omega) (skip (by rw [z]; rfl)) hr'
    · show ¬ mOut (nI a * nI 64 + nI s) 384
      rw [nI_mu, nI_add]
      exact nI_in (by omega) (by omega)
    · have w : bits5 who s = true := by
        cases y : bits5 who s with
        | true => rfl
        | false => exact absurd (b5_lo.mpr (b0.trans y)) z
      have ix : (nI a * (64 : Int32) + nI s).toNatClampNeg = 64 * a + s := by
        show (nI a * nI 64 + nI s).toNatClampNeg = _
        rw [nI_mu, nI_add, nI_clamp (by omega)]
        omega
      have ep : pc (J 11 ((nI a * (64 : Int32) + nI s).toNatClampNeg) &&& lev) = nb (fun v => arB g a s v && decide (L ≤ N v)) 64 := by
        refine nb_cg 64 (fun u hu => ?_)
        rw [b5_and, ix, hM a ha s (hw s h64 w) u hu, hL u hu]
      have hp := pc_l (J 11 ((nI a * (64 : Int32) + nI s).toNatClampNeg) &&& lev)
      refine bcX ?_
      rw [ep] at hp ⊢
      refine ⟨fun q => ?_, fun q => ⟨fun q2 => ?_, fun q2 => ?_⟩⟩
      · have q := i_lt q
        rw [nI_toInt (by omega)] at q
        rw [← nI_succ]
        exact ih (s + 1) _ _ (by omega) (skip (by rw [w, decide_eq_false (by omega)]; rfl)) hr'
      · have q2 := i_lt q2
        rw [nI_toInt (by omega)] at q2
        rw [← nI_succ]
        exact ih (s + 1) _ _ (by omega) (skip (by rw [w, decide_eq_false (by omega)]; rfl)) hr'
      · have q := i_nlt q
        have q2 := i_nlt q2
        rw [nI_toInt (by omega)] at q q2
        rw [← nI_succ]
        refine ih (s + 1) _ _ (by omega) (fun u hu => ?_) hr'
        rw [b5_or, b5_1 h64, hh u hu]
        by_cases y : u = s
        · rw [y, decide_eq_false (show ¬ s < s by omega), decide_eq_true (show s = s from rfl), decide_eq_true (show s < s + 1 by omega), w, decide_eq_true (by omega)]
          rfl
        · rw [decide_eq_false y, Bool.or_false]
          congr 1
          exact decide_eq_decide.mpr (by omega)
/-- a comparison -/
theorem hat_42 {z j a lev sg num : Nat} {who : Int64} {l1 l4 l5 l7 l8 l9 s0 : Int32} {Q : Int64 → rI0 → rJ0 → Prop} (hN : NP 42 J N hd) (oN : okN g N) (oH : okH g hd) (hM : AM g J) (ha : a < 8) (hz : z ≤ 20) (hj : j ≤ 1) (h1 : lev ≤ 2) (h2 : sg ≤ 2) (h3 : num ≤ 999) (hw : ∀ s, s < 64 → bits5 who s = true → seB g s = true) (e5 : l5 = nI (pz z j a lev sg num)) (e1 : l9.toInt = loI sg num) (e2 : s0.toInt = hiI sg num) (k : ∀ v, (∀ s, s < 64 → bits5 v s = (bits5 who s && atB g N hd s a lev sg num)) → Q v I J) : wp S (d + 1) 62 166 [some (.ref 42), some (.int l1), some (.long who), none, some (.int l4), some (.int l5), some (.int (nI a)), some (.int l7), some (.int l8), some (.int l9), none, none, none, none, none, none, none, none, none] [.int s0] (wv x I J) (rJ x Q) := by
  subst e5
  refine v62_42_166 ⟨fun q => ?_, fun q6 => ⟨fun q => ?_, fun q7 => ?_⟩⟩
  · have q : a = 6 := nI_ij (by omega) (by omega) q
    subst q
    refine lwi_42 hN oN e1 e2 (fun v hv => k _ (fun s hs => ?_))
    rw [b5_and, hv s hs, cmp_i h2 (by have := (oN s).1; omega)]
    rfl
  · have q : a = 7 := nI_ij (by omega) (by omega) q
    subst q
    refine hwi_42 hN oH e1 e2 (fun v hv => k _ (fun s hs => ?_))
    rw [b5_and, hv s hs, cmp_i h2 (by have := (oH s).1; omega)]
    rfl
  · have a6 : a < 6 := by
      have y6 : a ≠ 6 := fun y => q6 (by rw [y]; rfl)
      have y7 : a ≠ 7 := fun y => q7 (by rw [y]; rfl)
      omega
    rw [d_l hz hj (by omega) (by omega) (by omega) (by omega)]
    have go : ∀ (L : Nat) (w : Int64), (if lev = 1 then 1 else 2) = L → (∀ u, u < 64 → bits5 w u = decide (L ≤ N u)) → wp S (d + 1) 62 237 [some (.ref 42), some (.int l1), some (.long who), none, some (.int l4), some (.int (nI (pz z j a lev sg num))), some (.int (nI a)), some (.int l7), some (.int l8), some (.int l9), some (.int s0), some (.long w), none, some (.long (0 : Int64)), none, some (.long who), none, some (.int (0 : Int32)), none] [] (wv x I J) (rJ x Q) := by
      intro L w eL hL
      refine hlp_42 a6 hM hL hw e1 e2 (fun v hv => k _ (fun s hs => ?_)) 64 0 0 who rfl (fun u hu => ?_) (fun u hu => ?_)
      · rw [hv s hs, cmp_i h2 (by have := nb_le (p := fun u => arB g a s u && decide (L ≤ N u)) 64; omega)]
        unfold atB
        rw [if_neg (by omega), if_neg (by omega), eL]
      · rw [b5_0, decide_eq_false (show ¬ u < 0 by omega)]
        rfl
      · rw [Nat.zero_add, decide_eq_true hu, Bool.true_and]
    refine ⟨fun q => ?_, fun q => ?_⟩
    · have q : lev = 1 := nI_ij (by omega) (by omega) q
      exact go 1 _ (if_pos q) (fun u hu => (hN u hu).1)
    · have q : lev ≠ 1 := fun y => q (by rw [y]; rfl)
      exact go 2 _ (if_neg q) (fun u hu => (hN u hu).2.1)
/-- a ONE -/
def HO_42 (S : Nat × (Nat → Int32)) (x : mX) (I : rI0) (J : rJ0) (g : Nat → Int32) (N hd : Nat → Nat) (m : Nat) : Prop := ∀ (d i len j dep : Nat) (V : lV) (who : Int64) (Q : Int64 → rI0 → rJ0 → Prop), lO (I 10) m i len j V → m + dep = 9 → i + len ≤ 240 → len ≤ 20 → j ≤ 1 → (∀ s, s < 64 → bits5 who s = true → seB g s = true) → (∀ v, (∀ s, s < 64 → bits5 v s = (bits5 who s && V (atB g N hd s))) → Q v I J) → wcJ S (d + 2 * m + 2) 62 [.ref 42, .int (nI i), .long who, .int (nI dep)] x I J Q
theorem jlp_42 {m : Nat} (HH : HO_42 S x I J g N hd m) {first size dep : Nat} {who : Int64} {Q : Int64 → rI0 → rJ0 → Prop} {V : lV} (hd9 : m + dep = 9) (h240 : first + size ≤ 240) (h20 : size ≤ 20) (hw : ∀ s, s < 64 → bits5 who s = true → seB g s = true) (k : ∀ v, (∀ s, s < 64 → bits5 v s = (bits5 who s && V (atB g N hd s))) → Q v I J) : ∀ (c i tried : Nat) (any all : Int64) (anyV allV : lV), lL (lO (I 10) m) c i (first + size) anyV allV V → first ≤ i → tried ≤ i - first → (∀ s, s < 64 → bits5 any s = (bits5 who s && anyV (atB g N hd s))) → (∀ s, s < 64 → bits5 all s = (bits5 who s && (allV (atB g N hd s) && !anyV (atB g N hd s)))) → wp S (d + 2 * m + 3) 61 31 [some (.ref 42), some (.int (nI first)), some (.int (nI size)), some (.long who), none, some (.int (nI dep)), some (.long any), none, some (.long all), none, some (.int (nI i)), some (.int (nI tried))] [] (wv x I J) (rJ x Q) := by
  intro c
  induction c with
  | zero => intro i tried any all anyV allV h; exact absurd h id
  | succ c ih =>
    intro i tried any all anyV allV h hi ht ha hl
    have hle := lL_le _ _ _ _ _ _ h
    have ebit : ∀ s, s < 64 → bits5 (any ||| all) s = (bits5 who s && (anyV (atB g N hd s) || allV (atB g N hd s))) := by
      intro s hs
      rw [b5_or, ha s hs, hl s hs]
      cases bits5 who s <;> cases anyV (atB g N hd s) <;> cases allV (atB g N hd s) <;> rfl
    have esum : nI first + nI size = nI (first + size) := nI_add first size
    by_cases z : i = first + size
    · have fin : Q (any ||| all) I J := by
        rcases h with ⟨_, hV⟩ | ⟨len, j, W, h1, _, h⟩
        · refine k _ (fun s hs => ?_)
          rw [ebit s hs, hV]
        · exfalso
          rcases h with ⟨_, h⟩ | ⟨_, h⟩
          · have := lL_le _ _ _ _ _ _ h
            omega
          · have := lL_le _ _ _ _ _ _ h
            omega
      refine v61_42_31 ⟨fun _ => ⟨fun q => absurd q ?_, fun _ => fin⟩, fun _ => fin⟩
      rw [esum, z]
      exact nI_nlt (Nat.le_refl _) (by omega)
    · rcases h with ⟨y, _⟩ | ⟨len, j, W, h1, hp, h⟩
      · exact absurd y z
      · have hle2 : i + len ≤ first + size := by
          rcases h with ⟨_, h⟩ | ⟨_, h⟩
          · exact lL_le _ _ _ _ _ _ h
          · exact lL_le _ _ _ _ _ _ h
        obtain ⟨w, lev, sg, num, b1, b2, b3, b4, hA⟩ := lO_w hp
        have hj : j ≤ 1 := by
          rcases h with ⟨y, _⟩ | ⟨y, _⟩ <;> omega
        have e1 : nI i + nI len = nI (i + len) := nI_add i len
        have step : ∀ (any1 all1 : Int64) (anyV1 allV1 allV2 : lV), lL (lO (I 10) m) c (i + len) (first + size) anyV1 allV2 V → (∀ s, s < 64 → bits5 any1 s = (bits5 who s && anyV1 (atB g N hd s))) → (∀ s, s < 64 → bits5 all1 s = (bits5 who s && (allV1 (atB g N hd s) && !anyV1 (atB g N hd s)))) → (∀ at_, allV2 at_ = (allV1 at_ && W at_)) → wp S (d + 2 * m + 3) 61 94 [some (.ref 42), some (.int (nI first)), some (.int (nI size)), some (.long who), none, some (.int (nI dep)), some (.long any1), none, some (.long all1), none, some (.int (nI i)), some (.int (nI tried))] [] (wv x I J) (rJ x Q) := by
          intro any1 all1 anyV1 allV1 allV2 hL g1 g2 g3
          refine v61_42_94 (HH d i len j dep W all1 _ hp hd9 (by omega) (by omega) hj (fun s hs y => hw s hs (by
            rw [g2 s hs] at y
            cases q : bits5 who s with
            | true => rfl
            | false =>
              rw [q] at y
              cases y)) (fun v hv => ⟨nI_in (by omega) (by omega), ?_⟩))
          rw [nI_clamp (by omega), hA, d_z (by omega) hj (by omega) (by omega) (by omega) (by omega), e1, ← nI_succ]
          refine ih (i + len) (tried + 1) any1 v anyV1 allV2 hL (by omega) (by omega) g1 (fun s hs => ?_)
          rw [hv s hs, g2 s hs, g3]
          cases bits5 who s <;> cases anyV1 (atB g N hd s) <;> cases allV1 (atB g N hd s) <;> cases W (atB g N hd s) <;> rfl
        refine v61_42_31 ⟨fun _ => ⟨fun _ => ⟨fun _ => ⟨nI_in (by omega) (by omega), ?_⟩, fun q => absurd (nI_lt (b := 240) (by omega) (by omega)) q⟩, fun q => absurd (by rw [esum]; exact nI_lt (by omega) (by omega)) q⟩, fun q => absurd (nI_lt (b := 20) (by omega) (by omega)) q⟩
        rw [nI_clamp (by omega), hA, d_j (by omega) hj (by omega) (by omega) (by omega) (by omega)]
        refine ⟨fun q => ?_, fun q => ?_⟩
        · have q : j = 0 := nI_ij (by omega) (by omega) q
          rcases h with ⟨_, h⟩ | ⟨y, _⟩
          · exact step any all anyV allV _ h ha hl (fun _ => rfl)
          · omega
        · have q : j ≠ 0 := fun y => q (by rw [y]; rfl)
          rcases h with ⟨y, _⟩ | ⟨_, h⟩
          · omega
          · refine step _ _ _ (fun _ => true) _ h ebit (fun s hs => ?_) (fun _ => rfl)
            rw [b5_and, b5_not hs, ebit s hs]
            cases bits5 who s <;> cases anyV (atB g N hd s) <;> cases allV (atB g N hd s) <;> rfl
theorem jnd_42 {m : Nat} (HH : HO_42 S x I J g N hd m) {first size dep : Nat} {who : Int64} {Q : Int64 → rI0 → rJ0 → Prop} {V : lV} (h : lJ (lO (I 10) m) first size V) (hd9 : m + dep = 9) (h1 : 1 ≤ size) (h240 : first + size ≤ 240) (h20 : size ≤ 20) (hw : ∀ s, s < 64 → bits5 who s = true → seB g s = true) (k : ∀ v, (∀ s, s < 64 → bits5 v s = (bits5 who s && V (atB g N hd s))) → Q v I J) : wcJ S (d + 2 * m + 3) 61 [.ref 42, .int (nI first), .int (nI size), .long who, .int (nI dep)] x I J Q := by
  obtain ⟨l1, W, g1, g2, g3⟩ := h
  have hm : 1 ≤ m := by
    cases m with
    | zero => exact absurd g2 id
    | succ m => omega
  refine c61_42 ⟨fun z => k _ (fun s hs => ?_), fun _ => ⟨fun _ => ⟨fun q => absurd q (nI_nlt (a := 8) (by omega) (by omega)), fun _ => ?_⟩, fun q => absurd (nI_lt (a := 0) h1 (by omega)) q⟩⟩
  · rw [lg_z.mp z, b5_0]
    rfl
  · refine jlp_42 HH hd9 h240 h20 hw k 22 first 0 0 who (fun _ => false) (fun _ => true) (Or.inr ⟨l1, 0, W, g1, g2, Or.inl ⟨rfl, g3⟩⟩) (Nat.le_refl _) (Nat.zero_le _) (fun s hs => ?_) (fun s hs => ?_)
    · rw [b5_0, Bool.and_false]
    · cases bits5 who s <;> rfl
theorem hnd_42 (hN : NP 42 J N hd) (oN : okN g N) (oH : okH g hd) (hM : AM g J) : ∀ m, HO_42 S x I J g N hd m := by
  intro m
  induction m with
  | zero => intro d i len j dep V who Q h; exact absurd h id
  | succ m ih =>
    intro d i len j dep V who Q h h9 h240 h20 hj hw k
    have hlen := lO_1 h
    show wcJ S (d + 2 * m + 3 + 1) 62 [.ref 42, .int (nI i), .long who, .int (nI dep)] x I J Q
    refine c62_42 ⟨fun z => k _ (fun s hs => ?_), fun _ => ⟨fun q => absurd q (nI_nlt (a := 8) (by omega) (by omega)), fun _ => ⟨fun q => absurd q (nI_nlt (b := 0) (by omega) (by omega)), fun _ => ⟨fun _ => ⟨nI_in (by omega) (by omega), ?_⟩, fun q => absurd (nI_lt (b := 240) (by omega) (by omega)) q⟩⟩⟩⟩
    · rw [lg_z.mp z, b5_0]
      rfl
    · rw [nI_clamp (by omega)]
      rcases h with ⟨hl, a, lev, sg, num, g1, g2, g3, g4, g5, g6⟩ | ⟨W, g1, g2, g3, g4⟩ | ⟨g1, g2, g3⟩
      · subst g6
        rw [g5, d_w (by omega) hj (by omega) (by omega) (by omega) (by omega), d_s (by omega) hj (by omega) (by omega) (by omega) (by omega), d_n (by omega) hj (by omega) (by omega) (by omega) (by omega)]
        have tn := nI_toInt (n := num) (by omega)
        have m1 : (nI num - (1 : Int32)).toInt = (num : Int) - 1 := i_sub tn (by decide : (1 : Int32).toInt = 1) (by omega)
        have w0 : (0 : Int32).toInt = 0 := by decide
        have w1023 : (1023 : Int32).toInt = 1023 := by decide
        refine ⟨fun q => absurd (nI_ij (b := 8) (by omega) (by omega) q) (by omega), fun _ => ⟨fun q => absurd (nI_ij (b := 9) (by omega) (by omega) q) (by omega), fun _ => ⟨fun q => ?_, fun q => ?_⟩⟩⟩
        · have q0 : sg = 0 := nI_ij (by omega) (by omega) q
          subst q0
          refine ⟨fun _ => ?_, fun y => absurd rfl y⟩
          exact hat_42 hN oN oH hM g1 (by omega) hj g2 g3 g4 hw rfl w0 m1 k
        · have q0 : sg ≠ 0 := fun y => q (by rw [y]; rfl)
          have lo : (nI num + nI sg - (1 : Int32)).toInt = loI sg num := by
            rw [nI_add]
            refine (i_sub (nI_toInt (by omega)) (by decide : (1 : Int32).toInt = 1) (by omega)).trans ?_
            unfold loI
            rw [if_neg q0]
            omega
          refine ⟨fun y => absurd y q, fun _ => ⟨fun y => ?_, fun y => ?_⟩⟩
          · have y1 : sg = 1 := nI_ij (by omega) (by omega) y
            subst y1
            exact hat_42 hN oN oH hM g1 (by omega) hj g2 g3 g4 hw rfl lo tn k
          · have y1 : sg ≠ 1 := fun y2 => y (by rw [y2]; rfl)
            have y2 : sg = 2 := by omega
            subst y2
            exact hat_42 hN oN oH hM g1 (by omega) hj g2 g3 g4 hw rfl lo w1023 k
      · subst g4
        rw [g2, d_w (by omega) hj (by omega) (by omega) (by omega) (by omega)]
        refine ⟨fun _ => ?_, fun q => absurd rfl q⟩
        rw [← nI_succ, ← nI_succ, show d + 2 * m + 3 = d + 1 + 2 * m + 2 by omega]
        refine ih (d + 1) (i + 1) (len - 1) 0 (dep + 1) W who _ g3 (by omega) (by omega) (by omega) (by omega) hw (fun v hv => k _ (fun s hs => ?_))
        rw [b5_and, b5_not hs, hv s hs]
        show (bits5 who s && !(bits5 who s && W (atB g N hd s))) = (bits5 who s && !W (atB g N hd s))
        cases bits5 who s <;> cases W (atB g N hd s) <;> rfl
      · have e1 : nI len - (1 : Int32) = nI (len - 1) := by
          have := nI_pr (len - 1)
          rw [show len - 1 + 1 = len by omega] at this
          exact this
        rw [g2, d_w (by omega) hj (by omega) (by omega) (by omega) (by omega), d_z (by omega) hj (by omega) (by omega) (by omega) (by omega), e1]
        refine ⟨fun q => absurd (nI_ij (b := 8) (by omega) (by omega) q) (by omega), fun _ => ⟨fun _ => ?_, fun q => absurd rfl q⟩⟩
        rw [← nI_succ, ← nI_succ]
        exact jnd_42 ih g3 (by omega) (by omega) (by omega) (by omega) hw k
end NS42
end
section
/-! the class's nights -/
section NC0
/-- what every row of a house keeps to -/
def GA (g : Nat → Int32) : Prop := gN g 0 ≤ 8 ∧ gN g 1 ≤ 8 ∧ gN g 4 ≤ 600 ∧ gN g 5 ≤ 1 ∧ (∀ s, seB g s = true → s < gN g 0 * gN g 1 ∧ kdN g s < 6) ∧ gN g 590 ≤ 30 ∧ (∀ i, i < gN g 590 → gN g (591 + 3 * i) ≤ 600 ∧ gN g (592 + 3 * i) ≤ 3 ∧ (gN g (592 + 3 * i) ≠ 3 → seB g (gN g (593 + 3 * i)) = true)) ∧ (∀ i j, i ≤ j → j < gN g 590 → gN g (591 + 3 * i) ≤ gN g (591 + 3 * j))
/-- the class's house and cues are those of g -/
def HM (g : Nat → Int32) (W : Nat → lV) (I : rI0) (J : rJ0) : Prop := I 4 0 = nI (gN g 0) ∧ I 4 1 = nI (gN g 1) ∧ I 4 3 = nI (gN g 4) ∧ I 4 4 = nI (gN g 5) ∧ (∀ s, s < 64 → bits5 (J 4 5) s = seB g s) ∧ (∀ k, k < 6 → ∀ s, s < 64 → bits5 (J 6 k) s = (seB g s && decide (kdN g s = k))) ∧ (∀ r, r < 8 → (I 8 r = -1 ∧ gN g (78 + r) = 0) ∨ ∃ m, m ≤ 600 ∧ I 8 r = nI m ∧ gN g (78 + r) = m + 1) ∧ (∀ l, l < 12 → (I 9 l = -1 ∧ tlB g l = false) ∨ ∃ sz, 1 ≤ sz ∧ sz ≤ 20 ∧ I 9 l = nI sz ∧ tlB g l = true ∧ lJ (lO (I 10) 8) (20 * l) sz (W l)) ∧ AM g J ∧ I 3 4 = nI (gN g 590) ∧ ∀ i, i < gN g 590 → I 12 i = nI (gN g (591 + 3 * i)) ∧ I 13 i = nI (gN g (592 + 3 * i)) ∧ (gN g (592 + 3 * i) ≠ 3 → I 14 i = nI (gN g (593 + 3 * i)))
variable {g : Nat → Int32} {W : Nat → lV} {I I' : rI0} {J J' : rJ0} {P H : Nat → Bool}
theorem HM.mv (h : HM g W I J) (hi : ∀ b, b < 15 → I' b = I b) (hj : ∀ b, b < 15 → J' b = J b) : HM g W I' J' := by
  unfold HM AM at *
  rw [hi 4 (by omega), hi 8 (by omega), hi 9 (by omega), hi 10 (by omega), hi 3 (by omega), hi 12 (by omega), hi 13 (by omega), hi 14 (by omega), hj 4 (by omega), hj 6 (by omega), hj 11 (by omega)]
  exact h
/-- the CUES ahead of t -/
def prN (g : Nat → Int32) : Nat → Nat
  | 0 => 0
  | t + 1 => cuN g t
theorem cuN_i (h : GA g) {t i : Nat} (hi : i < gN g 590) : gN g (591 + 3 * i) ≤ t ↔ i < cuN g t := by
  have e := nb_pre (p := fun i => decide (gN g (591 + 3 * i) ≤ t)) (gN g 590) (fun a b hab hb z => decide_eq_true (Nat.le_trans (h.2.2.2.2.2.2.2 a b hab hb) (of_decide_eq_true z))) i hi
  rw [decide_eq_true_iff] at e
  exact e
theorem cuN_l {t : Nat} : cuN g t ≤ gN g 590 := nb_le _
theorem prN_i (h : GA g) {t i : Nat} (hi : i < gN g 590) : gN g (591 + 3 * i) < t ↔ i < prN g t := by
  cases t with
  | zero => exact iff_of_false (by omega) (by show ¬ i < 0; omega)
  | succ t => exact Iff.trans (by omega) (cuN_i h hi)
theorem prN_l {t : Nat} : prN g t ≤ gN g 590 := by
  cases t with
  | zero => exact Nat.zero_le _
  | succ t => exact cuN_l
theorem prN_c (h : GA g) {t : Nat} : prN g t ≤ cuN g t := by
  rcases Nat.lt_or_ge (cuN g t) (prN g t) with z | z
  · have l := prN_l (g := g) (t := t)
    have a := (prN_i h (t := t) (i := cuN g t) (by omega)).mpr z
    have b := (cuN_i h (t := t) (i := cuN g t) (by omega)).mp (by omega)
    omega
  · exact z
/-- whether one of those from a on, ahead of i, says still -/
def stB (g : Nat → Int32) (a i : Nat) : Bool := decide (0 < nb (fun j => decide (a ≤ j) && decide (gN g (592 + 3 * j) = 3)) i)
theorem stB_c (h : GA g) {t : Nat} : stB g (prN g t) (cuN g t) = cuS g t := by
  unfold stB cuS
  refine decide_eq_decide.mpr ?_
  rw [nb_pos, nb_pos]
  have l := cuN_l (g := g) (t := t)
  constructor
  · rintro ⟨i, hi, e⟩
    rw [Bool.and_eq_true] at e
    have e1 := of_decide_eq_true e.1
    have hn : i < gN g 590 := by omega
    have c1 := (cuN_i h (t := t) hn).mpr hi
    have c2 : ¬ gN g (591 + 3 * i) < t := fun z => absurd ((prN_i h hn).mp z) (by omega)
    refine ⟨i, hn, ?_⟩
    rw [Bool.and_eq_true]
    exact ⟨decide_eq_true (by omega), e.2⟩
  · rintro ⟨i, hn, e⟩
    rw [Bool.and_eq_true] at e
    have e1 := of_decide_eq_true e.1
    refine ⟨i, (cuN_i h (t := t) hn).mp (by omega), ?_⟩
    rw [Bool.and_eq_true]
    refine ⟨decide_eq_true ?_, e.2⟩
    have : ¬ i < prN g t := fun z => absurd ((prN_i h hn).mpr z) (by omega)
    omega
theorem stB_s {a i : Nat} (hi : a ≤ i) : stB g a (i + 1) = (stB g a i || decide (gN g (592 + 3 * i) = 3)) := by
  unfold stB
  rw [nb_s, decide_eq_true hi, Bool.true_and]
  by_cases z : gN g (592 + 3 * i) = 3
  · rw [decide_eq_true z, Bool.or_true, if_pos rfl]
    exact decide_eq_true (by omega)
  · rw [decide_eq_false z, Bool.or_false, if_neg (by decide)]
    rfl
theorem stB_0 {a : Nat} : stB g a a = false := by
  unfold stB
  rw [nb_none a (fun i hi => by rw [decide_eq_false (by omega)]; rfl)]
  rfl
/-- who has left ahead of t -/
def lfP (g : Nat → Int32) : Nat → Nat → Bool
  | 0 => fun _ => false
  | t + 1 => lfB g t
theorem lfB_s {t s : Nat} : lfB g t s = (lfP g t s || (decide (s < gN g 0 * gN g 1) && decide (gN g (78 + s / gN g 1) = t + 1))) := by
  cases t with
  | zero =>
    show lfB g 0 s = (false || _)
    unfold lfB
    rw [Bool.false_or]
    congr 1
    rw [← Bool.decide_and]
    exact decide_eq_decide.mpr (by omega)
  | succ t =>
    show lfB g (t + 1) s = (lfB g t s || _)
    unfold lfB
    by_cases z : s < gN g 0 * gN g 1
    · rw [decide_eq_true z, Bool.true_and, Bool.true_and, Bool.true_and, ← Bool.decide_and, ← Bool.decide_and, ← Bool.decide_or]
      exact decide_eq_decide.mpr (by omega)
    · rw [decide_eq_false z]
      rfl
theorem cuP_s {q k s : Nat} : cuP g q P (k + 1) s = if gN g (592 + 3 * k) = 3 then cuP g q P k s else if s = gN g (593 + 3 * k) then decide (gN g (592 + 3 * k) = q) else cuP g q P k s := rfl
/-- who is PAID sits in a SEAT -/
theorem cuP_se (h : GA g) {q : Nat} (hp : ∀ s, P s = true → seB g s = true) : ∀ k, k ≤ gN g 590 → ∀ s, cuP g q P k s = true → seB g s = true := by
  intro k
  induction k with
  | zero => intro _ s; exact hp s
  | succ k ih =>
    intro hk s e
    rw [cuP_s] at e
    split at e
    · exact ih (by omega) s e
    · rename_i z
      split at e
      · rename_i y
        rw [y]
        exact (h.2.2.2.2.2.2.1 k (by omega)).2.2 z
      · exact ih (by omega) s e
/-- one SEAT's move -/
theorem mv_bits : ∀ n, n < 3 → ∀ T se L H P py st up dn : Bool, (P = true → se = true) →
    (((decide (1 ≤ n) && !T) || (((decide (1 ≤ n) || (((T && !(if st = true then se else (((py && ((P && !H) && !L)) || H) || L))) && se) && up)) && !((((T && !(if st = true then se else (((py && ((P && !H) && !L)) || H) || L))) && se) && ((!up && decide (1 ≤ n)) && dn)) && !decide (2 ≤ n))) && ((T && !(if st = true then se else (((py && ((P && !H) && !L)) || H) || L))) && se))) || ((py && ((P && !H) && !L)) && T)) = decide (1 ≤ (if T = true then (if se = true then (if (L || H) = true then 0 else if (P && py) = true then 2 else if st = true then 0 else if up = true then (if n < 2 then n + 1 else 2) else if dn = true then n - 1 else n) else 0) else n))
    ∧ (((decide (2 ≤ n) && !T) || (((decide (2 ≤ n) || ((((T && !(if st = true then se else (((py && ((P && !H) && !L)) || H) || L))) && se) && up) && decide (1 ≤ n))) && !(((T && !(if st = true then se else (((py && ((P && !H) && !L)) || H) || L))) && se) && ((!up && decide (1 ≤ n)) && dn))) && ((T && !(if st = true then se else (((py && ((P && !H) && !L)) || H) || L))) && se))) || ((py && ((P && !H) && !L)) && T)) = decide (2 ≤ (if T = true then (if se = true then (if (L || H) = true then 0 else if (P && py) = true then 2 else if st = true then 0 else if up = true then (if n < 2 then n + 1 else 2) else if dn = true then n - 1 else n) else 0) else n)) := by decide +kernel
/-- one SEAT's HELD -/
theorem hd_bits : ∀ h, h < 4 → ∀ t : Bool, ((!decide (h % 2 = 1) || decide (2 ≤ h)) && t) = decide ((if t = true then (if h < 3 then h + 1 else 3) else 0) % 2 = 1) ∧ ((decide (2 ≤ h) || decide (h % 2 = 1)) && t) = decide (2 ≤ (if t = true then (if h < 3 then h + 1 else 3) else 0)) := by decide +kernel
theorem lv_eq : ∀ n, n < 3 → ∀ m, m < 3 → (!(decide (1 ≤ m) ^^ decide (1 ≤ n)) && !(decide (2 ≤ m) ^^ decide (2 ≤ n))) = decide (m = n) := by decide +kernel
theorem hd_inj : ∀ h, h < 4 → ∀ k, k < 4 → decide (h % 2 = 1) = decide (k % 2 = 1) → decide (2 ≤ h) = decide (2 ≤ k) → h = k := by decide +kernel
/-- the height: the most who stand, up to t -/
def stP (g : Nat → Int32) (W : Nat → lV) (P H : Nat → Bool) (t : Nat) : Nat := nb (fun s => decide (2 ≤ (nt g W P H t).1 s)) 64
def hgt (g : Nat → Int32) (W : Nat → lV) (P H : Nat → Bool) : Nat → Nat
  | 0 => stP g W P H 0
  | t + 1 => if hgt g W P H t < stP g W P H (t + 1) then stP g W P H (t + 1) else hgt g W P H t
theorem hgt_l {t : Nat} : hgt g W P H t ≤ 64 := by
  induction t with
  | zero => exact nb_le 64
  | succ t ih =>
    show (if hgt g W P H t < stP g W P H (t + 1) then stP g W P H (t + 1) else hgt g W P H t) ≤ 64
    split
    · exact nb_le 64
    · exact ih
theorem hgt_m {t : Nat} : ∀ u, t ≤ u → hgt g W P H t ≤ hgt g W P H u := by
  intro u hu
  induction u with
  | zero => rw [show t = 0 by omega]; exact Nat.le_refl _
  | succ u ih =>
    by_cases z : t = u + 1
    · rw [z]
      exact Nat.le_refl _
    · refine Nat.le_trans (ih (by omega)) ?_
      show _ ≤ (if hgt g W P H u < stP g W P H (u + 1) then stP g W P H (u + 1) else hgt g W P H u)
      split <;> omega
theorem hgt_p {t : Nat} : stP g W P H t ≤ hgt g W P H t := by
  cases t with
  | zero => exact Nat.le_refl _
  | succ t =>
    show _ ≤ (if hgt g W P H t < stP g W P H (t + 1) then stP g W P H (t + 1) else hgt g W P H t)
    split <;> omega
theorem hgt_c {t : Nat} (h : ∀ u, t ≤ u → u ≤ 600 → nt g W P H u = nt g W P H t) : ∀ u, t ≤ u → u ≤ 600 → hgt g W P H u = hgt g W P H t := by
  intro u hu
  induction u with
  | zero => intro _; rw [show t = 0 by omega]
  | succ u ih =>
    intro h6
    by_cases z : t = u + 1
    · rw [z]
    · have e := ih (by omega) (by omega)
      have es : stP g W P H (u + 1) = stP g W P H t := by
        unfold stP
        rw [h (u + 1) (by omega) h6]
      have := hgt_p (g := g) (W := W) (P := P) (H := H) (t := t)
      show (if hgt g W P H u < stP g W P H (u + 1) then stP g W P H (u + 1) else hgt g W P H u) = _
      rw [e, es, if_neg (by omega)]
end NC0
section NC36
variable {S : Nat × (Nat → Int32)} {d : Nat} {x : mX} {I : rI0} {J : rJ0} {g : Nat → Int32} {W : Nat → lV} {N hd : Nat → Nat} {P H L : Nat → Bool}
def F36 (I : rI0) (J : rJ0) (I' : rI0) (J' : rJ0) : Prop := (∀ b, b ≠ 36 → I' b = I b) ∧ ∀ b, b ≠ 36 → J' b = J b
theorem F36.rf : F36 I J I J := ⟨fun _ _ => rfl, fun _ _ => rfl⟩
theorem F36.tr {I1 I2 : rI0} {J1 J2 : rJ0} (h : F36 I J I1 J1) (h2 : F36 I1 J1 I2 J2) : F36 I J I2 J2 := ⟨fun b hb => (h2.1 b hb).trans (h.1 b hb), fun b hb => (h2.2 b hb).trans (h.2 b hb)⟩
theorem HM.n36 {I' : rI0} {J' : rJ0} (h : HM g W I J) (f : F36 I J I' J') : HM g W I' J' := h.mv (fun b hb => f.1 b (by omega)) (fun b hb => f.2 b (by omega))
/-- doCues -/
theorem dc_36 {t : Nat} (hG : GA g) (ht : t ≤ 600) {Q : Int32 → rI0 → rJ0 → Prop} : ∀ (m i : Nat) (I : rI0) (J : rJ0), i + m = cuN g t → prN g t ≤ i → HM g W I J → I 36 2 = nI t → I 36 3 = nI i → (∀ s, s < 64 → bits5 (J 36 5) s = cuP g 0 P i s) → (∀ s, s < 64 → bits5 (J 36 6) s = cuP g 1 H i s) → (∀ I' J', F36 I J I' J' → (∀ q, q ≠ 3 → I' 36 q = I 36 q) → (∀ q, q ≠ 5 → q ≠ 6 → J' 36 q = J 36 q) → I' 36 3 = nI (cuN g t) → (∀ s, s < 64 → bits5 (J' 36 5) s = cuP g 0 P (cuN g t) s) → (∀ s, s < 64 → bits5 (J' 36 6) s = cuP g 1 H (cuN g t) s) → Q (nI (if cuS g t = true then 1 else 0)) I' J') → wp S (d + 1) 56 2 [some (.ref 36), some (.int (nI (if stB g (prN g t) i = true then 1 else 0))), none, none] [] (wv x I J) (rI x Q) := by
  have hl := cuN_l (g := g) (t := t)
  have h30 := hG.2.2.2.2.2.1
  have b01 : ∀ b : Bool, nI (if b = true then 1 else 0) = 0 ∨ nI (if b = true then 1 else 0) = 1 := by decide
  intro m
  induction m with
  | zero =>
    intro i I J hi hp hM h2 h3 h5 h6 k
    have hi : i = cuN g t := by omega
    have fin : Q (nI (if stB g (prN g t) i = true then 1 else 0)) I J := by
      rw [hi, stB_c hG]
      subst hi
      exact k I J F36.rf (fun _ _ => rfl) (fun _ _ _ => rfl) h3 h5 h6
    refine v56_36_2 ⟨fun q => ⟨fun q2 => ?_, fun q2 => ⟨b01 _, fin⟩⟩, fun q => ⟨b01 _, fin⟩⟩
    rw [h3, hM.2.2.2.2.2.2.2.2.2.1] at q
    have q : i < gN g 590 := (nI_ltI (by omega) (by omega)).mp q
    rw [h3, nI_clamp (by omega), h2, (hM.2.2.2.2.2.2.2.2.2.2 i q).1]
    refine ⟨nI_in (by omega) (by omega), fun _ => ⟨b01 _, fin⟩, fun y => ?_⟩
    exfalso
    refine y (nI_lt ?_ (by have := (hG.2.2.2.2.2.2.1 i q).1; omega))
    have := cuN_i hG (t := t) q
    omega
  | succ m ih =>
    intro i I J hi hp hM h2 h3 h5 h6 k
    have q : i < gN g 590 := by omega
    obtain ⟨c1, c2, c3⟩ := hM.2.2.2.2.2.2.2.2.2.2 i q
    obtain ⟨g1, g2, g3⟩ := hG.2.2.2.2.2.2.1 i q
    have hm : gN g (591 + 3 * i) ≤ t := (cuN_i hG q).mpr (by omega)
    refine v56_36_2 ⟨fun _ => ⟨fun _ => ?_, fun y => absurd (by rw [h3]; exact nI_lt (b := 30) (by omega) (by omega)) y⟩, fun y => absurd (by rw [h3, hM.2.2.2.2.2.2.2.2.2.1]; exact nI_lt q (by omega)) y⟩
    rw [h3, nI_clamp (by omega), h2, c1, c2]
    refine ⟨nI_in (by omega) (by omega), fun y => absurd y (nI_nlt hm (by omega)), fun _ => ⟨nI_in (by omega) (by omega), fun y => ?_, fun y => ⟨nI_in (by omega) (by omega), ?_⟩⟩⟩
    · have y : gN g (592 + 3 * i) = 3 := nI_ij (by omega) (by omega) y
      have e1 : (1 : Int32) = nI (if stB g (prN g t) (i + 1) = true then 1 else 0) := by
        rw [stB_s hp, decide_eq_true y, Bool.or_true]
        rfl
      rw [← nI_succ, e1]
      refine ih (i + 1) (mSet I 36 3 (nI (i + 1))) J (by omega) (by omega) (hM.n36 ⟨fun b hb => mSet_ne hb, fun _ _ => rfl⟩) h2 rfl (fun s hs => ?_) (fun s hs => ?_) (fun I' J' f f1 f2 f3 f5 f6 => k I' J' (F36.tr ⟨fun b hb => mSet_ne hb, fun _ _ => rfl⟩ f) (fun q hq => ?_) f2 f3 f5 f6)
      · rw [h5 s hs, cuP_s, if_pos y]
      · rw [h6 s hs, cuP_s, if_pos y]
      · rw [f1 q hq]
        show mSet I 36 3 _ 36 q = _
        unfold mSet va_up
        rw [if_pos rfl, if_neg hq]
    · have y : gN g (592 + 3 * i) ≠ 3 := fun z => y (by rw [z]; rfl)
      have e1 : stB g (prN g t) i = stB g (prN g t) (i + 1) := by
        rw [stB_s hp, decide_eq_false y, Bool.or_false]
      have hs4 := seB_l (g3 y)
      rw [c3 y, e1]
      have go : ∀ (e : Nat) (J1 : rJ0), e = (if gN g (592 + 3 * i) = 0 then 1 else 0) → wp S (d + 1) 56 95 [some (.ref 36), some (.int (nI (if stB g (prN g t) (i + 1) = true then 1 else 0))), some (.int (nI (gN g (592 + 3 * i)))), some (.int (nI (gN g (593 + 3 * i))))] [.int (nI e), .int (nI (gN g (593 + 3 * i))), .long (J 36 5), .ref 36] (wv x I J) (rI x Q) := by
        intro e J1 he
        have e01 : e ≤ 1 := by
          rw [he]
          split <;> omega
        have last : ∀ (e2 : Nat) (r1 r2 : Int64), e2 ≤ 1 → (decide (e2 = 1) = decide (gN g (592 + 3 * i) = 1)) → r1 = ((J 36 5 &&& (((1 : Int64) <<< ((nI (gN g (593 + 3 * i))).toInt64 &&& 63)) ^^^ (-1 : Int64))) ||| ((nI e).toInt64 <<< ((nI (gN g (593 + 3 * i))).toInt64 &&& 63))) → r2 = ((J 36 6 &&& (((1 : Int64) <<< ((nI (gN g (593 + 3 * i))).toInt64 &&& 63)) ^^^ (-1 : Int64))) ||| ((nI e2).toInt64 <<< ((nI (gN g (593 + 3 * i))).toInt64 &&& 63))) → wp S (d + 1) 56 2 [some (.ref 36), some (.int (nI (if stB g (prN g t) (i + 1) = true then 1 else 0))), none, none] [] (wv x (mSet I 36 3 (nI (i + 1))) (mSet (mSet J 36 5 r1) 36 6 r2)) (rI x Q) := by
          intro e2 r1 r2 h2e d2 er1 er2
          refine ih (i + 1) _ _ (by omega) (by omega) (hM.n36 ⟨fun b hb => mSet_ne hb, fun b hb => by rw [mSet_ne hb, mSet_ne hb]⟩) h2 rfl (fun s hs => ?_) (fun s hs => ?_) (fun I' J' f f1 f2 f3 f5 f6 => k I' J' (F36.tr ⟨fun b hb => mSet_ne hb, fun b hb => by rw [mSet_ne hb, mSet_ne hb]⟩ f) (fun q hq => ?_) (fun q hq1 hq2 => ?_) f3 f5 f6)
          · show bits5 r1 s = _
            rw [er1, b5_w hs4 e01 hs, cuP_s, if_neg y, h5 s hs, he]
            split
            · exact decide_eq_decide.mpr (by split <;> omega)
            · rfl
          · show bits5 r2 s = _
            rw [er2, b5_w hs4 h2e hs, cuP_s, if_neg y, h6 s hs, d2]
          · rw [f1 q hq]
            show mSet I 36 3 _ 36 q = _
            unfold mSet va_up
            rw [if_pos rfl, if_neg hq]
          · rw [f2 q hq1 hq2]
            show mSet (mSet J 36 5 _) 36 6 _ 36 q = _
            unfold mSet va_up
            rw [if_pos rfl, if_neg hq2, if_pos rfl, if_neg hq1]
        refine v56_36_95 (c143 ⟨fun z => ?_, fun z => ?_⟩)
        · have z : gN g (592 + 3 * i) = 1 := nI_ij (by omega) (by omega) z
          refine c143 ?_
          rw [h3, ← nI_succ]
          exact last 1 _ _ (by omega) (by rw [decide_eq_true z]; rfl) rfl rfl
        · have z : gN g (592 + 3 * i) ≠ 1 := fun z2 => z (by rw [z2]; rfl)
          refine c143 ?_
          rw [h3, ← nI_succ]
          exact last 0 _ _ (by omega) (by rw [decide_eq_false z]; rfl) rfl rfl
      refine ⟨fun z => ?_, fun z => ?_⟩
      · have z : gN g (592 + 3 * i) = 0 := nI_ij (by omega) (by omega) z
        exact go 1 J (by rw [if_pos z])
      · have z : gN g (592 + 3 * i) ≠ 0 := fun z2 => z (by rw [z2]; rfl)
        exact go 0 J (by rw [if_neg z])
theorem rws_36 {r : Nat} {Q : Int64 → rI0 → rJ0 → Prop} (hG : GA g) (hM : HM g W I J) (hr : r < gN g 0) (k : ∀ v, (∀ s, s < 64 → bits5 v s = rwB g r s) → Q v I J) : wcJ S d 28 [.ref 4, .int (nI r)] x I J Q := by
  refine c28_4 (k _ (fun s hs => ?_))
  rw [hM.2.1]
  refine rwS_b (gN g 1) (by have := hG.2.1; omega) r (by have := hG.1; omega) s hs ?_
  exact Nat.le_trans (Nat.mul_le_mul (show r + 1 ≤ 8 by have := hG.1; omega) hG.2.1) (by omega)
/-- seeRowsOff -/
theorem so_36 {t : Nat} (hG : GA g) (ht : t ≤ 600) {Q : rI0 → rJ0 → Prop} : ∀ (m r : Nat) (J : rJ0), r + m = gN g 0 → HM g W I J → I 36 2 = nI t → (∀ s, s < 64 → bits5 (J 36 7) s = (lfP g t s || (decide (s < r * gN g 1) && decide (gN g (78 + s / gN g 1) = t + 1)))) → (∀ J', F36 I J I J' → (∀ q, q ≠ 7 → J' 36 q = J 36 q) → (∀ s, s < 64 → bits5 (J' 36 7) s = lfB g t s) → Q I J') → wp S (d + 1) 57 2 [some (.ref 36), some (.int (nI r))] [] (wv x I J) (rV x Q) := by
  have h8 := hG.1
  intro m
  induction m with
  | zero =>
    intro r J hr hM h2 hb k
    have hr : r = gN g 0 := by omega
    refine v57_36_2 ⟨fun q => absurd q (by rw [hM.1]; exact nI_nlt (by omega) (by omega)), fun _ => k J F36.rf (fun _ _ => rfl) (fun s hs => ?_)⟩
    rw [hb s hs, lfB_s, hr]
  | succ m ih =>
    intro r J hr hM h2 hb k
    have hr8 : r < 8 := by omega
    have row : ∀ s, s < 64 → rwB g r s = true → s / gN g 1 = r := by
      intro s hs z
      unfold rwB at z
      rw [Bool.and_eq_true, decide_eq_true_iff, decide_eq_true_iff] at z
      have hc : 0 < gN g 1 := by
        rcases Nat.eq_zero_or_pos (gN g 1) with y | y
        · rw [y] at z
          omega
        · exact y
      exact Nat.div_eq_of_lt_le z.1 z.2
    have ext : ∀ s, decide (s < (r + 1) * gN g 1) = (decide (s < r * gN g 1) || rwB g r s) := by
      intro s
      have e : (r + 1) * gN g 1 = r * gN g 1 + gN g 1 := Nat.succ_mul _ _
      unfold rwB
      rw [← Bool.decide_and, ← Bool.decide_or]
      exact decide_eq_decide.mpr (by omega)
    refine v57_36_2 ⟨fun _ => ⟨nI_in hr8 (by omega), ?_⟩, fun q => absurd (by rw [hM.1]; exact nI_lt (by omega) (by omega)) q⟩
    rw [nI_clamp (by omega), h2]
    have hlv := hM.2.2.2.2.2.2.1 r hr8
    refine ⟨fun q => ?_, fun q => ?_⟩
    · have e : gN g (78 + r) = t + 1 := by
        rcases hlv with ⟨a, _⟩ | ⟨m, a1, a2, a3⟩
        · rw [a] at q
          have := congrArg Int32.toInt q
          rw [nI_toInt (by omega), show (-1 : Int32).toInt = -1 by decide] at this
          omega
        · rw [a2] at q
          have := nI_ij (by omega) (by omega) q
          omega
      refine rws_36 hG hM (by omega) (fun v hv => ?_)
      rw [← nI_succ]
      refine ih (r + 1) _ (by omega) (hM.n36 ⟨fun _ _ => rfl, fun b hb => mSet_ne hb⟩) h2 (fun s hs => ?_) (fun J' f f1 f2 => k J' (F36.tr ⟨fun _ _ => rfl, fun b hb => mSet_ne hb⟩ f) (fun q hq => ?_) f2)
      · show bits5 (J 36 7 ||| v) s = _
        rw [b5_or, hb s hs, hv s hs, ext s]
        cases z : rwB g r s with
        | false => rw [Bool.or_false, Bool.or_false]
        | true =>
          rw [row s hs z, e, decide_eq_true rfl]
          simp
      · rw [f1 q hq]
        show mSet J 36 7 _ 36 q = _
        unfold mSet va_up
        rw [if_pos rfl, if_neg hq]
    · have e : gN g (78 + r) ≠ t + 1 := by
        intro z
        rcases hlv with ⟨_, a⟩ | ⟨m, a1, a2, a3⟩
        · omega
        · exact q (by rw [a2, show m = t by omega])
      rw [← nI_succ]
      refine ih (r + 1) J (by omega) hM h2 (fun s hs => ?_) k
      rw [hb s hs, ext s]
      cases z : rwB g r s with
      | false => rw [Bool.or_false]
      | true => rw [row s hs z, decide_eq_false e, Bool.and_false, Bool.and_false]
/-- standing -/
theorem sd_36 {t : Nat} {Q : Int64 → rI0 → rJ0 → Prop} (hG : GA g) (hM : HM g W I J) (ht : t ≤ 600) (h2 : I 36 2 = nI t) (h5 : ∀ s, s < 64 → bits5 (J 36 5) s = P s) (h6 : ∀ s, s < 64 → bits5 (J 36 6) s = H s) (h7 : ∀ s, s < 64 → bits5 (J 36 7) s = L s) (k : ∀ v, (∀ s, s < 64 → bits5 v s = (decide (t ≤ gN g 4) && ((P s && !H s) && !L s))) → Q v I J) : wcJ S d 58 [.ref 36] x I J Q := by
  have h4 := hG.2.2.1
  refine c58_36 ⟨fun q => k _ (fun s hs => ?_), fun q => k _ (fun s hs => ?_)⟩
  · rw [hM.2.2.1, h2] at q
    have q := (nI_ltI (by omega) (by omega)).mp q
    rw [b5_0, decide_eq_false (by omega)]
    rfl
  · rw [hM.2.2.1, h2] at q
    have q := mt (nI_ltI (by omega) (by omega)).mpr q
    rw [b5_and, b5_and, b5_not hs, b5_not hs, h5 s hs, h6 s hs, h7 s hs, decide_eq_true (by omega), Bool.true_and]
/-- a law of those who -/
theorem jl_36 {l : Nat} {p1 : Int32} {who : Int64} {Q : Int64 → rI0 → rJ0 → Prop} (hN : NP 36 J N hd) (oN : okN g N) (oH : okH g hd) (hM : HM g W I J) (hl : l < 12) (e1 : p1 = nI (20 * l)) (hw : ∀ s, s < 64 → bits5 who s = true → seB g s = true) (k : ∀ v, (∀ s, s < 64 → bits5 v s = (bits5 who s && lwB g W N hd l s)) → Q v I J) : wcJ S (d + 19) 61 [.ref 36, .int p1, .int (I 9 l), .long who, .int (1 : Int32)] x I J Q := by
  subst e1
  rcases hM.2.2.2.2.2.2.2.1 l hl with ⟨a1, a2⟩ | ⟨sz, a1, a2, a3, a4, a5⟩
  · have z : Q 0 I J := k 0 (fun s hs => by
      unfold lwB
      rw [b5_0, a2]
      cases bits5 who s <;> rfl)
    rw [a1]
    exact c61_36 ⟨fun _ => z, fun _ => ⟨fun q => absurd q (by decide), fun _ => z⟩⟩
  · rw [a3]
    refine jnd_36 (m := 8) (dep := 1) (hnd_36 hN oN oH hM.2.2.2.2.2.2.2.2.1 8) a5 rfl a1 (by omega) a2 hw (fun v hv => k v (fun s hs => ?_))
    unfold lwB
    rw [hv s hs, a4, Bool.true_and]
/-- move -/
theorem mv_36 {py st : Bool} {T : Nat → Bool} {p1 p2 p3 : Int64} {Q : rI0 → rJ0 → Prop} (hN : NP 36 J N hd) (oN : okN g N) (oH : okH g hd) (hM : HM g W I J) (hG : GA g) (hP : ∀ s, P s = true → seB g s = true) (hT : ∀ s, s < 64 → bits5 p1 s = T s) (h2 : ∀ s, s < 64 → bits5 p2 s = (py && ((P s && !H s) && !L s))) (h3 : ∀ s, s < 64 → bits5 p3 s = (if st = true then seB g s else (((py && ((P s && !H s) && !L s)) || H s) || L s))) (k : ∀ J', F36 I J I J' → (∀ q, q ≠ 8 → q ≠ 9 → J' 36 q = J 36 q) → NP 36 J' (mvN g W P H L py st T N hd) hd → Q I J') : wcV S (d + 20) 59 [.ref 36, .long p1, .long p2, .long p3] x I J Q := by
  have hF : ∀ s, s < 64 → bits5 ((p1 &&& (p3 ^^^ (-1 : Int64))) &&& (J 4 5)) s = ((T s && !(if st = true then seB g s else (((py && ((P s && !H s) && !L s)) || H s) || L s))) && seB g s) := by
    intro s hs
    rw [b5_and, b5_and, b5_not hs, hT s hs, h3 s hs, hM.2.2.2.2.1 s hs]
  refine c59_36 ?_
  generalize (p1 &&& (p3 ^^^ (-1 : Int64))) &&& (J 4 5) = fr at hF ⊢
  have hFs : ∀ s, s < 64 → bits5 fr s = true → seB g s = true := by
    intro s hs y
    rw [hF s hs, Bool.and_eq_true] at y
    exact y.2
  have lp : ∀ (m kk : Nat) (up dn : Int64), kk + m = 6 → (∀ s, s < 64 → bits5 up s = (bits5 fr s && (decide (kdN g s < kk) && lwB g W N hd (2 * kdN g s) s))) → (∀ s, s < 64 → bits5 dn s = (bits5 fr s && (decide (kdN g s < kk) && ((!lwB g W N hd (2 * kdN g s) s && decide (1 ≤ N s)) && lwB g W N hd (2 * kdN g s + 1) s)))) → wp S (d + 20) 59 27 [some (.ref 36), some (.long p1), none, some (.long p2), none, some (.long p3), none, some (.long fr), none, some (.long up), none, some (.long dn), none, some (.int (nI kk)), none, none, none, none, none] [] (wv x I J) (rV x Q) := by
    intro m
    induction m with
    | zero =>
      intro kk up dn hk hu hd2
      have hk : kk = 6 := by omega
      refine v59_36_27 (d := d + 19) ⟨fun q => absurd q (nI_nlt (b := 6) (by omega) (by omega)), fun _ => k _ ⟨fun _ _ => rfl, fun b hb => by rw [mSet_ne hb, mSet_ne hb]⟩ (fun q q1 q2 => ?_) (fun s hs => ?_)⟩
      · show mSet (mSet J 36 8 _) 36 9 _ 36 q = _
        unfold mSet va_up
        rw [if_pos rfl, if_neg q2, if_pos rfl, if_neg q1]
      · obtain ⟨a1, a2, a3, a4⟩ := hN s hs
        have eu : bits5 up s = (bits5 fr s && lwB g W N hd (2 * kdN g s) s) := by
          rw [hu s hs]
          cases y : bits5 fr s with
          | false => rfl
          | true =>
            rw [decide_eq_true (show kdN g s < kk by have := (hG.2.2.2.2.1 s (hFs s hs y)).2; omega), Bool.true_and]
        have ed : bits5 dn s = (bits5 fr s && ((!lwB g W N hd (2 * kdN g s) s && decide (1 ≤ N s)) && lwB g W N hd (2 * kdN g s + 1) s)) := by
          rw [hd2 s hs]
          cases y : bits5 fr s with
          | false => rfl
          | true =>
            rw [decide_eq_true (show kdN g s < kk by have := (hG.2.2.2.2.1 s (hFs s hs y)).2; omega), Bool.true_and]
        have mb := mv_bits (N s) (by have := (oN s).1; omega) (T s) (seB g s) (L s) (H s) (P s) py st (lwB g W N hd (2 * kdN g s) s) (lwB g W N hd (2 * kdN g s + 1) s) (hP s)
        refine ⟨?_, ?_, a3, a4⟩
        · show bits5 (((J 36 8 &&& (p1 ^^^ (-1 : Int64))) ||| (((J 36 8 ||| up) &&& ((dn &&& (J 36 9 ^^^ (-1 : Int64))) ^^^ (-1 : Int64))) &&& fr)) ||| (p2 &&& p1)) s = decide (1 ≤ mvN g W P H L py st T N hd s)
          rw [b5_or, b5_or, b5_and, b5_not hs, b5_and, b5_and, b5_or, b5_not hs, b5_and, b5_not hs, b5_and, a1, a2, hT s hs, eu, ed, hF s hs, h2 s hs]
          exact mb.1
        · show bits5 (((J 36 9 &&& (p1 ^^^ (-1 : Int64))) ||| (((J 36 9 ||| (up &&& J 36 8)) &&& (dn ^^^ (-1 : Int64))) &&& fr)) ||| (p2 &&& p1)) s = decide (2 ≤ mvN g W P H L py st T N hd s)
          rw [b5_or, b5_or, b5_and, b5_not hs, b5_and, b5_and, b5_or, b5_and, b5_not hs, b5_and, a1, a2, hT s hs, eu, ed, hF s hs, h2 s hs]
          exact mb.2
    | succ m ih =>
      intro kk up dn hk hu hd2
      have hk6 : kk < 6 := by omega
      have ew : ∀ s, s < 64 → bits5 (fr &&& J 6 kk) s = (bits5 fr s && decide (kdN g s = kk)) := by
        intro s hs
        rw [b5_and, hM.2.2.2.2.2.1 kk hk6 s hs]
        cases y : bits5 fr s with
        | false => rfl
        | true => rw [hFs s hs y, Bool.true_and]
      refine v59_36_27 (d := d + 19) ⟨fun _ => ⟨nI_in hk6 (by omega), ?_⟩, fun q => absurd (nI_lt (b := 6) hk6 (by omega)) q⟩
      rw [nI_clamp (by omega)]
      refine ⟨fun z => ?_, fun _ => ⟨?_, ?_⟩⟩
      · have z := b5_z.mp (lg_z.mp z)
        rw [← nI_succ]
        refine ih (kk + 1) up dn (by omega) (fun s hs => ?_) (fun s hs => ?_)
        · rw [hu s hs]
          have := z s hs
          rw [ew s hs] at this
          cases y : bits5 fr s with
          | false => rfl
          | true =>
            rw [y, Bool.true_and, decide_eq_false_iff_not] at this
            congr 2
            exact decide_eq_decide.mpr (by omega)
        · rw [hd2 s hs]
          have := z s hs
          rw [ew s hs] at this
          cases y : bits5 fr s with
          | false => rfl
          | true =>
            rw [y, Bool.true_and, decide_eq_false_iff_not] at this
            congr 2
            exact decide_eq_decide.mpr (by omega)
      · show ¬ mOut (nI 2 * nI kk) 12
        rw [nI_mu]
        exact nI_in (by omega) (by omega)
      · have i1 : ((2 : Int32) * nI kk).toNatClampNeg = 2 * kk := by
          show (nI 2 * nI kk).toNatClampNeg = _
          rw [nI_mu, nI_clamp (by omega)]
        have i2 : ((2 : Int32) * nI kk + (1 : Int32)).toNatClampNeg = 2 * kk + 1 := by
          show (nI 2 * nI kk + nI 1).toNatClampNeg = _
          rw [nI_mu, nI_add, nI_clamp (by omega)]
        have m1 : (2 : Int32) * nI kk * (20 : Int32) = nI (20 * (2 * kk)) := by
          show nI 2 * nI kk * nI 20 = _
          rw [nI_mu, nI_mu]
          exact congrArg nI (by omega)
        have m2 : ((2 : Int32) * nI kk + (1 : Int32)) * (20 : Int32) = nI (20 * (2 * kk + 1)) := by
          show (nI 2 * nI kk + nI 1) * nI 20 = _
          rw [nI_mu, nI_add, nI_mu]
          exact congrArg nI (by omega)
        rw [i1, i2]
        refine jl_36 hN oN oH hM (by omega) m1 (fun s hs y => hFs s hs (by rw [ew s hs, Bool.and_eq_true] at y; exact y.1)) (fun v hv => ⟨?_, ?_⟩)
        · show ¬ mOut (nI 2 * nI kk + nI 1) 12
          rw [nI_mu, nI_add]
          exact nI_in (by omega) (by omega)
        · have ew2 : ∀ s, s < 64 → bits5 (((fr &&& J 6 kk) &&& (v ^^^ (-1 : Int64))) &&& (J 36 8)) s = (bits5 fr s && (decide (kdN g s = kk) && (!lwB g W N hd (2 * kk) s && decide (1 ≤ N s)))) := by
            intro s hs
            rw [b5_and, b5_and, b5_not hs, hv s hs, ew s hs, (hN s hs).1]
            cases bits5 fr s <;> cases decide (kdN g s = kk) <;> cases lwB g W N hd (2 * kk) s <;> rfl
          refine jl_36 hN oN oH hM (by omega) m2 (fun s hs y => hFs s hs (by rw [ew2 s hs, Bool.and_eq_true] at y; exact y.1)) (fun w hw => ?_)
          rw [← nI_succ]
          refine ih (kk + 1) _ _ (by omega) (fun s hs => ?_) (fun s hs => ?_)
          · rw [b5_or, hu s hs, hv s hs, ew s hs]
            by_cases y : kdN g s = kk
            · rw [y, decide_eq_false (show ¬ kk < kk by omega), decide_eq_true (show kk < kk + 1 by omega), decide_eq_true (show kk = kk from rfl)]
              cases bits5 fr s <;> cases lwB g W N hd (2 * kk) s <;> rfl
            · rw [decide_eq_false y, Bool.and_false, Bool.false_and, Bool.or_false]
              congr 2
              exact decide_eq_decide.mpr (by omega)
          · rw [b5_or, hd2 s hs, hw s hs, ew2 s hs]
            by_cases y : kdN g s = kk
            · rw [y, decide_eq_false (show ¬ kk < kk by omega), decide_eq_true (show kk < kk + 1 by omega), decide_eq_true (show kk = kk from rfl)]
              cases bits5 fr s <;> cases lwB g W N hd (2 * kk) s <;> cases decide (1 ≤ N s) <;> cases lwB g W N hd (2 * kk + 1) s <;> rfl
            · rw [decide_eq_false y, Bool.false_and, Bool.and_false, Bool.false_and, Bool.or_false]
              congr 2
              exact decide_eq_decide.mpr (by omega)
  refine lp 6 0 0 0 rfl (fun s hs => ?_) (fun s hs => ?_)
  · rw [b5_0, decide_eq_false (show ¬ kdN g s < 0 by omega)]
    cases bits5 fr s <;> rfl
  · rw [b5_0, decide_eq_false (show ¬ kdN g s < 0 by omega)]
    cases bits5 fr s <;> rfl
end NC36
end
