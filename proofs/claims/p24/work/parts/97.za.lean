/-! areas, as the reference lays them out -/
section RA0
variable {S : Nat × (Nat → Int32)} {d : Nat} {x : mX} {I : rI0} {J : rJ0} {g : Nat → Int32}
/-- the SEAT at a row and a column -/
def cB (g : Nat → Int32) (a b : Int) (u : Nat) : Bool := seB g u && (decide (((u / gN g 1 : Nat) : Int) = a) && decide (((u % gN g 1 : Nat) : Int) = b))
theorem seC (hG : GA g) {u : Nat} (h : seB g u = true) : 0 < gN g 1 ∧ u / gN g 1 < gN g 0 ∧ u % gN g 1 < gN g 1 := by
  have hu := (hG.2.2.2.2.1 u h).1
  have hc : 0 < gN g 1 := by
    rcases Nat.eq_zero_or_pos (gN g 1) with y | y
    · rw [y] at hu
      omega
    · exact y
  exact ⟨hc, Nat.div_lt_of_lt_mul (by rw [Nat.mul_comm]; exact hu), Nat.mod_lt _ hc⟩
theorem uq {C u v : Nat} (h1 : u / C = v / C) (h2 : u % C = v % C) : u = v := by
  rw [← Nat.div_add_mod u C, ← Nat.div_add_mod v C, h1, h2]
theorem bAt {p1 p2 : Int32} {a b : Int} {Q : Int64 → rI0 → rJ0 → Prop} (hG : GA g) (hI : GI g) (eg : I 45 = g) (e1 : p1.toInt = a) (e2 : p2.toInt = b) (k : ∀ w, (∀ u, u < 64 → bits5 w u = cB g a b u) → Q w I J) : wcJ S (d + 2) 185 [.ref 43, .int p1, .int p2] x I J Q := by
  obtain ⟨z0, z1, -, -, -, -⟩ := k0c
  have h8 := hG.1
  have h8c := hG.2.1
  have l0 : (0 : Int32).toInt = 0 := by decide
  have l1 : (1 : Int32).toInt = 1 := by decide
  have t0 : (nI (gN g 0) - (1 : Int32)).toInt = (gN g 0 : Int) - 1 := i_sub (nI_toInt (by omega)) l1 (by omega)
  have t1 : (nI (gN g 1) - (1 : Int32)).toInt = (gN g 1 : Int) - 1 := i_sub (nI_toInt (by omega)) l1 (by omega)
  have none_ : (∀ u, seB g u = true → ¬ (((u / gN g 1 : Nat) : Int) = a ∧ ((u % gN g 1 : Nat) : Int) = b)) → Q 0 I J := by
    intro h
    refine k 0 (fun u hu => ?_)
    rw [b5_0]
    unfold cB
    cases z : seB g u with
    | false => rfl
    | true =>
      rw [← Bool.decide_and, decide_eq_false (h u z)]
      rfl
  refine c185_43 (c184_43 ⟨by decide, ?_⟩)
  rw [z0, z1, show I 45 0 = nI (gN g 0) by rw [eg]; exact hI.1 0 (by omega)]
  have e451 : I 45 1 = nI (gN g 1) := by rw [eg]; exact hI.1 1 (by omega)
  refine c151 ⟨fun q => ⟨fun _ => ⟨fun _ => none_ (fun u hu y => ?_), fun y => absurd rfl y⟩, fun y => absurd rfl y⟩, fun q1 => ⟨fun q => ⟨fun _ => ⟨fun _ => none_ (fun u hu y => ?_), fun y => absurd rfl y⟩, fun y => absurd rfl y⟩, fun q2 => ⟨fun y => absurd y (by decide), fun _ => ⟨by decide, c151 ⟨fun q => ⟨fun _ => ⟨fun _ => none_ (fun u hu y => ?_), fun y => absurd rfl y⟩, fun y => absurd rfl y⟩, fun q3 => ⟨fun q => ⟨fun _ => ⟨fun _ => none_ (fun u hu y => ?_), fun y => absurd rfl y⟩, fun y => absurd rfl y⟩, fun q4 => ⟨fun y => absurd y (by decide), fun _ => ⟨by decide, ?_⟩⟩⟩⟩⟩⟩⟩⟩
  · have q := i_lt q
    have n1 : (0 : Int) ≤ ((u / gN g 1 : Nat) : Int) := Int.natCast_nonneg _
    omega
  · have q := i_lt q
    have := (seC hG hu).2.1
    omega
  · have q := i_lt q
    omega
  · rw [e451] at q
    have q := i_lt q
    have := (seC hG hu).2.2
    omega
  · rw [e451] at q4
    have q1 := i_nlt q1
    have q2 := i_nlt q2
    have q3 := i_nlt q3
    have q4 := i_nlt q4
    obtain ⟨r, hr, er⟩ : ∃ r : Nat, r < gN g 0 ∧ p1 = nI r := ⟨p1.toInt.toNat, by omega, Int32.toInt_inj.mp (by rw [nI_toInt (by omega)]; omega)⟩
    obtain ⟨c, hc, ec⟩ : ∃ c : Nat, c < gN g 1 ∧ p2 = nI c := ⟨p2.toInt.toNat, by omega, Int32.toInt_inj.mp (by rw [nI_toInt (by omega)]; omega)⟩
    subst er ec
    rw [nI_toInt (by omega)] at e1 e2
    have hm : gN g 1 * r + c < 64 := by
      have m1 : gN g 1 * (r + 1) ≤ 8 * 8 := Nat.mul_le_mul h8c (by omega)
      have m2 : gN g 1 * (r + 1) = gN g 1 * r + gN g 1 := Nat.mul_succ _ _
      omega
    have ei : ((6 : Int32) + nI (gN g 1) * nI r) + nI c = nI (6 + (gN g 1 * r + c)) := by
      show (nI 6 + nI (gN g 1) * nI r) + nI c = _
      rw [nI_mu, nI_add, nI_add]
      exact congrArg nI (by omega)
    have ej : nI (gN g 1) * nI r + nI c = nI (gN g 1 * r + c) := by rw [nI_mu, nI_add]
    have dv : (gN g 1 * r + c) / gN g 1 = r := by
      rw [Nat.mul_add_div (by omega), Nat.div_eq_of_lt hc]
      omega
    have md : (gN g 1 * r + c) % gN g 1 = c := by
      rw [Nat.mul_add_mod, Nat.mod_eq_of_lt hc]
    have eqv : ∀ u : Nat, (((u / gN g 1 : Nat) : Int) = a ∧ ((u % gN g 1 : Nat) : Int) = b) ↔ u = gN g 1 * r + c := by
      intro u
      constructor
      · rintro ⟨y1, y2⟩
        exact uq (C := gN g 1) (by omega) (by omega)
      · intro y
        rw [y, dv, md]
        omega
    have sb : seB g (gN g 1 * r + c) = true ↔ (0 : Int32) < g (6 + (gN g 1 * r + c)) := by
      unfold seB
      rw [decide_eq_true hm, Bool.true_and, decide_eq_true_iff, Int32.lt_iff_toInt_lt, l0]
    rw [e451, ei, nI_clamp (by omega), ej, eg]
    refine ⟨nI_in (by omega) (by omega), fun y => ⟨fun w => absurd w (by decide), fun _ => ⟨by decide, k _ (fun u hu => ?_)⟩⟩, fun y => ⟨fun _ => none_ (fun u hu w => ?_), fun w => absurd rfl w⟩⟩
    · rw [b5_1 hm]
      unfold cB
      rw [← Bool.decide_and]
      by_cases z : u = gN g 1 * r + c
      · rw [decide_eq_true z, decide_eq_true ((eqv u).mpr z), z, sb.mpr y]
        rfl
      · rw [decide_eq_false z, decide_eq_false (fun w => z ((eqv u).mp w)), Bool.and_false]
    · rw [(eqv u).mp w] at hu
      exact y (sb.mp hu)
/-- near, up to k -/
theorem la107 {s : Nat} {l1 : Int64} {Q : rI0 → rJ0 → Prop} (hG : GA g) (hI : GI g) (eg : I 45 = g) (hs : s < gN g 0 * gN g 1) (K : ∀ l6, (∀ u, u < 64 → bits5 l6 u = arB g 0 s u) → wp S (d + 3) 186 107 [some (.ref 43), some (.long l1), none, some (.int (nI s)), some (.int (nI (s / gN g 1))), some (.int (nI (s % gN g 1))), some (.long l6), none, some (.int (nI 9)), none, none, none, none] [] (wv x I J) (rV x Q)) : ∀ (m k : Nat) (l6 : Int64), k + m = 9 → (∀ u, u < 64 → bits5 l6 u = (seB g u && decide (u / gN g 1 ≤ s / gN g 1 + 1 ∧ s / gN g 1 ≤ u / gN g 1 + 1 ∧ u % gN g 1 ≤ s % gN g 1 + 1 ∧ s % gN g 1 ≤ u % gN g 1 + 1 ∧ 3 * (u / gN g 1 + 1) + (u % gN g 1 + 1) < k + 3 * (s / gN g 1) + s % gN g 1 ∧ ¬ 3 * (u / gN g 1 + 1) + (u % gN g 1 + 1) = 4 + 3 * (s / gN g 1) + s % gN g 1))) → wp S (d + 3) 186 107 [some (.ref 43), some (.long l1), none, some (.int (nI s)), some (.int (nI (s / gN g 1))), some (.int (nI (s % gN g 1))), some (.long l6), none, some (.int (nI k)), none, none, none, none] [] (wv x I J) (rV x Q) := by
  have h8 := hG.1
  have h8c := hG.2.1
  have hc : 0 < gN g 1 := by
    rcases Nat.eq_zero_or_pos (gN g 1) with y | y
    · rw [y] at hs
      omega
    · exact y
  have hr : s / gN g 1 < gN g 0 := Nat.div_lt_of_lt_mul (by rw [Nat.mul_comm]; exact hs)
  have hm := Nat.mod_lt s hc
  intro m
  induction m with
  | zero =>
    intro k l6 hk h
    have hk : k = 9 := by omega
    subst hk
    refine K l6 (fun u hu => ?_)
    rw [h u hu]
    unfold arB
    rw [if_pos rfl]
    cases z : seB g u with
    | false => rw [Bool.false_and, Bool.false_and, Bool.and_false]
    | true =>
      have w := (hG.2.2.2.2.1 u z).1
      rw [decide_eq_true w, Bool.true_and, Bool.true_and, Bool.true_and, ← Bool.decide_and, ← Bool.decide_and, ← Bool.decide_and, ← Bool.decide_and]
      refine decide_eq_decide.mpr ?_
      have e : u = s ↔ u / gN g 1 = s / gN g 1 ∧ u % gN g 1 = s % gN g 1 := ⟨fun y => by rw [y]; exact ⟨rfl, rfl⟩, fun y => uq y.1 y.2⟩
      omega
  | succ m ih =>
    intro k l6 hk h
    have t3 : (3 : Int32).toInt = 3 := by decide
    have tk : (nI k).toInt = (k : Int) := nI_toInt (by omega)
    have dk := i_div tk t3 (by omega) (by omega)
    have rk := i_rem tk t3 (by omega) (by omega)
    have l1' : (1 : Int32).toInt = 1 := by decide
    refine v186_43_107 ⟨fun _ => ⟨fun q => ?_, fun q => ⟨by decide, by decide, ?_⟩⟩, fun q => absurd (nI_lt (b := 9) (by omega) (by omega)) q⟩
    · have q : k = 4 := nI_ij (b := 4) (by omega) (by omega) q
      subst q
      rw [← nI_succ]
      refine ih 5 l6 (by omega) (fun u hu => ?_)
      rw [h u hu]
      congr 1
      exact decide_eq_decide.mpr (by omega)
    · have q : k ≠ 4 := fun z => q (by rw [z]; rfl)
      have n1 : (0 : Int) ≤ ((s / gN g 1 : Nat) : Int) := Int.natCast_nonneg _
      have n2 : (0 : Int) ≤ ((s % gN g 1 : Nat) : Int) := Int.natCast_nonneg _
      have a1 : ((nI (s / gN g 1) + (nI k / (3 : Int32))) - (1 : Int32)).toInt = ((s / gN g 1 : Nat) : Int) + (k : Int) / 3 - 1 := i_sub (i_add (nI_toInt (by omega)) dk.1 (by omega)) l1' (by omega)
      have a2 : ((nI (s % gN g 1) + (nI k - nI k / (3 : Int32) * (3 : Int32))) - (1 : Int32)).toInt = ((s % gN g 1 : Nat) : Int) + ((k : Int) - (k : Int) / 3 * 3) - 1 := i_sub (i_add (nI_toInt (by omega)) rk.2.2 (by omega)) l1' (by omega)
      refine bAt (d := d) hG hI eg a1 a2 (fun w hw => ?_)
      rw [← nI_succ]
      refine ih (k + 1) _ (by omega) (fun u hu => ?_)
      rw [b5_or, h u hu, hw u hu]
      unfold cB
      cases seB g u
      · rfl
      · rw [Bool.true_and, Bool.true_and, Bool.true_and, ← Bool.decide_and, ← Bool.decide_or]
        exact decide_eq_decide.mpr (by omega)
/-- seen, a row's part -/
theorem la206 {s kk : Nat} {l1 l6 : Int64} {Q : rI0 → rJ0 → Prop} (hG : GA g) (hI : GI g) (eg : I 45 = g) (hs : s < gN g 0 * gN g 1) (k1 : 1 ≤ kk) (k3 : kk ≤ 3) (K : ∀ l8, (∀ u, u < 64 → bits5 l8 u = (seB g u && decide (u / gN g 1 + 1 ≤ s / gN g 1 ∧ s / gN g 1 ≤ u / gN g 1 + kk ∧ u % gN g 1 + u / gN g 1 ≤ s % gN g 1 + s / gN g 1 ∧ s % gN g 1 + u / gN g 1 ≤ u % gN g 1 + s / gN g 1))) → wp S (d + 3) 186 190 [some (.ref 43), some (.long l1), none, some (.int (nI s)), some (.int (nI (s / gN g 1))), some (.int (nI (s % gN g 1))), some (.long l6), none, some (.long l8), none, some (.int (0 : Int32)), some (.int (nI (kk + 1))), none] [] (wv x I J) (rV x Q)) : ∀ (m j : Nat) (l8 : Int64), j + m = 2 * kk + 1 → (∀ u, u < 64 → bits5 l8 u = (seB g u && decide (u / gN g 1 + 1 ≤ s / gN g 1 ∧ s / gN g 1 ≤ u / gN g 1 + kk ∧ u % gN g 1 + u / gN g 1 ≤ s % gN g 1 + s / gN g 1 ∧ s % gN g 1 + u / gN g 1 ≤ u % gN g 1 + s / gN g 1 ∧ (s / gN g 1 = u / gN g 1 + kk → u % gN g 1 + kk < s % gN g 1 + j)))) → wp S (d + 3) 186 206 [some (.ref 43), some (.long l1), none, some (.int (nI s)), some (.int (nI (s / gN g 1))), some (.int (nI (s % gN g 1))), some (.long l6), none, some (.long l8), none, some (.int (0 : Int32)), some (.int (nI kk)), some (.int (nI j - nI kk))] [] (wv x I J) (rV x Q) := by
  have h8 := hG.1
  have h8c := hG.2.1
  have hc : 0 < gN g 1 := by
    rcases Nat.eq_zero_or_pos (gN g 1) with y | y
    · rw [y] at hs
      omega
    · exact y
  have hr : s / gN g 1 < gN g 0 := Nat.div_lt_of_lt_mul (by rw [Nat.mul_comm]; exact hs)
  have hm := Nat.mod_lt s hc
  have tk : (nI kk).toInt = (kk : Int) := nI_toInt (by omega)
  intro m
  induction m with
  | zero =>
    intro j l8 hj h
    have tj : (nI j - nI kk).toInt = (j : Int) - kk := i_sub (nI_toInt (by omega)) tk (by omega)
    refine v186_43_206 ⟨fun _ => ?_, fun q => absurd (Int32.lt_iff_toInt_lt.mpr (by omega)) q⟩
    rw [← nI_succ]
    refine K l8 (fun u hu => ?_)
    rw [h u hu]
    congr 1
    exact decide_eq_decide.mpr (by omega)
  | succ m ih =>
    intro j l8 hj h
    have tj : (nI j - nI kk).toInt = (j : Int) - kk := i_sub (nI_toInt (by omega)) tk (by omega)
    have n1 : (0 : Int) ≤ ((s / gN g 1 : Nat) : Int) := Int.natCast_nonneg _
    have n2 : (0 : Int) ≤ ((s % gN g 1 : Nat) : Int) := Int.natCast_nonneg _
    have ts1 : (nI (s / gN g 1) - nI kk).toInt = ((s / gN g 1 : Nat) : Int) - kk := i_sub (nI_toInt (by omega)) tk (by omega)
    have ts2 : (nI (s % gN g 1) + (nI j - nI kk)).toInt = ((s % gN g 1 : Nat) : Int) + ((j : Int) - kk) := i_add (nI_toInt (by omega)) tj (by omega)
    have en : (nI j - nI kk) + (1 : Int32) = nI (j + 1) - nI kk := by
      rw [← Int32.toInt_inj, i_add tj (show (1 : Int32).toInt = 1 by decide) (by omega), i_sub (nI_toInt (show j + 1 < 2 ^ 31 by omega)) tk (by omega)]
      omega
    refine v186_43_206 ⟨fun q => absurd (i_lt q) (by omega), fun _ => bAt (d := d) hG hI eg ts1 ts2 (fun w hw => ?_)⟩
    rw [en]
    refine ih (j + 1) _ (by omega) (fun u hu => ?_)
    rw [b5_or, h u hu, hw u hu]
    unfold cB
    cases seB g u
    · rfl
    · rw [Bool.true_and, Bool.true_and, Bool.true_and, ← Bool.decide_and, ← Bool.decide_or]
      exact decide_eq_decide.mpr (by omega)
end RA0
