section
/-! areas laid out; begin, night, height of the reference -/
section RB0
variable {S : Nat × (Nat → Int32)} {d : Nat} {x : mX} {I : rI0} {J : rJ0} {g : Nat → Int32} {W : Nat → lV} {P H : Nat → Bool}
theorem seC2 {s : Nat} (hs : s < gN g 0 * gN g 1) : 0 < gN g 1 ∧ s / gN g 1 < gN g 0 ∧ s % gN g 1 < gN g 1 := by
  have hc : 0 < gN g 1 := by
    rcases Nat.eq_zero_or_pos (gN g 1) with y | y
    · rw [y] at hs
      omega
    · exact y
  exact ⟨hc, Nat.div_lt_of_lt_mul (by rw [Nat.mul_comm]; exact hs), Nat.mod_lt _ hc⟩
/-- the areas of the first v cells -/
def AV (g : Nat → Int32) (v : Nat) (J : rJ0) : Prop := ∀ s, s < v → ∀ a, a < 6 → ∀ u, u < 64 → bits5 (J 51 (6 * s + a)) u = arB g a s u
theorem la244 {s : Nat} {l1 l6 l8 : Int64} {l10 l11 : Int32} {Q : rI0 → rJ0 → Prop} (hG : GA g) (hI : GI g) (eg : I 45 = g) (hs : s < gN g 0 * gN g 1) (h1 : ∀ u, u < 64 → bits5 l1 u = seB g u) (h6 : ∀ u, u < 64 → bits5 l6 u = arB g 0 s u) (h8 : ∀ u, u < 64 → bits5 l8 u = arB g 4 s u) (hV : AV g s J) (K : ∀ J', (∀ b, b ≠ 51 → J' b = J b) → AV g (s + 1) J' → wp S (d + 3) 186 64 [some (.ref 43), some (.long l1), none, some (.int (nI (s + 1))), none, none, none, none, none, none, none, none, none] [] (wv x I J') (rV x Q)) : wp S (d + 3) 186 244 [some (.ref 43), some (.long l1), none, some (.int (nI s)), some (.int (nI (s / gN g 1))), some (.int (nI (s % gN g 1))), some (.long l6), none, some (.long l8), none, some (.int l10), some (.int l11), none] [] (wv x I J) (rV x Q) := by
  have h8r := hG.1
  have h8c := hG.2.1
  have hRC : gN g 0 * gN g 1 ≤ 64 := Nat.le_trans (Nat.mul_le_mul h8r h8c) (by omega)
  obtain ⟨hc, hr, hm⟩ := seC2 hs
  have o1 : (1 : Int32).toInt = 1 := by decide
  have n1 : (0 : Int) ≤ ((s / gN g 1 : Nat) : Int) := Int.natCast_nonneg _
  have n2 : (0 : Int) ≤ ((s % gN g 1 : Nat) : Int) := Int.natCast_nonneg _
  have tr := nI_toInt (n := s / gN g 1) (by omega)
  have tc := nI_toInt (n := s % gN g 1) (by omega)
  have ix : ∀ k, k < 6 → (6 : Int32) * nI s + nI k = nI (6 * s + k) := by
    intro k _
    show nI 6 * nI s + nI k = _
    rw [nI_mu, nI_add]
  have i0 : (6 : Int32) * nI s = nI (6 * s) := by
    show nI 6 * nI s = _
    rw [nI_mu]
  have oo : ∀ k, k < 6 → ¬ mOut ((6 : Int32) * nI s + nI k) 384 := by
    intro k hk
    rw [ix k hk]
    exact nI_in (by omega) (by omega)
  have cl : ∀ k, k < 6 → ((6 : Int32) * nI s + nI k).toNatClampNeg = 6 * s + k := by
    intro k hk
    rw [ix k hk, nI_clamp (by omega)]
  have c0 : ((6 : Int32) * nI s).toNatClampNeg = 6 * s := by rw [i0, nI_clamp (by omega)]
  have c1 : ((6 : Int32) * nI s + (1 : Int32)).toNatClampNeg = 6 * s + 1 := cl 1 (by omega)
  have c2 : ((6 : Int32) * nI s + (2 : Int32)).toNatClampNeg = 6 * s + 2 := cl 2 (by omega)
  have c3 : ((6 : Int32) * nI s + (3 : Int32)).toNatClampNeg = 6 * s + 3 := cl 3 (by omega)
  have c4 : ((6 : Int32) * nI s + (4 : Int32)).toNatClampNeg = 6 * s + 4 := cl 4 (by omega)
  have c5 : ((6 : Int32) * nI s + (5 : Int32)).toNatClampNeg = 6 * s + 5 := cl 5 (by omega)
  refine v186_43_244 ⟨by rw [i0]; exact nI_in (by omega) (by omega), ?_⟩
  rw [c0, c1, c2, c3, c4, c5]
  refine bAt (d := d) hG hI eg (i_sub tr o1 (by omega)) tc (fun w1 hw1 => ⟨oo 1 (by omega), bAt (d := d) hG hI eg tr (i_sub tc o1 (by omega)) (fun w2 hw2 => bAt (d := d) hG hI eg tr (i_add tc o1 (by omega)) (fun w3 hw3 => ⟨oo 2 (by omega), bAt (d := d) hG hI eg (i_add tr o1 (by omega)) tc (fun w4 hw4 => ⟨oo 3 (by omega), oo 4 (by omega), oo 5 (by omega), ?_⟩)⟩))⟩)
  rw [← nI_succ]
  refine K _ (fun b hb => by rw [mSet_ne hb, mSet_ne hb, mSet_ne hb, mSet_ne hb, mSet_ne hb, mSet_ne hb]) ?_
  have at_ : ∀ (f : rJ0) (k j : Nat) (v : Int64), mSet f 51 k v 51 j = if j = k then v else f 51 j := by
    intro f k j v
    unfold mSet va_up
    rw [if_pos rfl]
  intro t ht a ha u hu
  rw [at_, at_, at_, at_, at_, at_]
  by_cases z : t = s
  · subst z
    have eu : u = t ↔ u / gN g 1 = t / gN g 1 ∧ u % gN g 1 = t % gN g 1 := ⟨fun y => by rw [y]; exact ⟨rfl, rfl⟩, fun y => uq y.1 y.2⟩
    have sl : seB g u = true → u < gN g 0 * gN g 1 := fun y => (hG.2.2.2.2.1 u y).1
    rcases (show a = 0 ∨ a = 1 ∨ a = 2 ∨ a = 3 ∨ a = 4 ∨ a = 5 by omega) with y | y | y | y | y | y <;> subst y
    · rw [if_neg (by omega), if_neg (by omega), if_neg (by omega), if_neg (by omega), if_neg (by omega), if_pos (by omega)]
      exact h6 u hu
    · rw [if_neg (by omega), if_neg (by omega), if_neg (by omega), if_neg (by omega), if_pos rfl, hw1 u hu]
      unfold cB arB
      cases w : seB g u with
      | false => simp
      | true =>
        rw [decide_eq_true (sl w), if_neg (by omega), if_pos rfl, Bool.true_and, Bool.true_and, Bool.true_and, ← Bool.decide_and, ← Bool.decide_and]
        exact decide_eq_decide.mpr (by omega)
    · rw [if_neg (by omega), if_neg (by omega), if_neg (by omega), if_pos rfl, b5_or, hw2 u hu, hw3 u hu]
      unfold cB arB
      cases w : seB g u with
      | false => simp
      | true =>
        rw [decide_eq_true (sl w), if_neg (by omega), if_neg (by omega), if_pos rfl, Bool.true_and, Bool.true_and, Bool.true_and, Bool.true_and, ← Bool.decide_and, ← Bool.decide_and, ← Bool.decide_or, ← Bool.decide_and, ← Bool.decide_and, ← Bool.decide_and]
        exact decide_eq_decide.mpr (by omega)
    · rw [if_neg (by omega), if_neg (by omega), if_pos rfl, hw4 u hu]
      unfold cB arB
      cases w : seB g u with
      | false => simp
      | true =>
        rw [decide_eq_true (sl w), if_neg (by omega), if_neg (by omega), if_neg (by omega), if_pos rfl, Bool.true_and, Bool.true_and, Bool.true_and, ← Bool.decide_and, ← Bool.decide_and]
        exact decide_eq_decide.mpr (by omega)
    · rw [if_neg (by omega), if_pos rfl]
      exact h8 u hu
    · rw [if_pos rfl, b5_and, b5_not hu, h1 u hu, b5_1 (by omega)]
      unfold arB
      cases w : seB g u with
      | false => simp
      | true =>
        rw [decide_eq_true (sl w), if_neg (by omega), if_neg (by omega), if_neg (by omega), if_neg (by omega), if_neg (by omega), Bool.true_and, Bool.true_and, Bool.true_and, ← decide_not]
  · rw [if_neg (by omega), if_neg (by omega), if_neg (by omega), if_neg (by omega), if_neg (by omega), if_neg (by omega)]
    exact hV t (by omega) a ha u hu
theorem la64 {l1 : Int64} {Q : rI0 → rJ0 → Prop} (hG : GA g) (hI : GI g) (eg : I 45 = g) (h1 : ∀ u, u < 64 → bits5 l1 u = seB g u) : ∀ (m s : Nat) (J : rJ0), s + m = gN g 0 * gN g 1 → AV g s J → (∀ J', (∀ b, b ≠ 51 → J' b = J b) → AV g (gN g 0 * gN g 1) J' → Q I J') → wp S (d + 3) 186 64 [some (.ref 43), some (.long l1), none, some (.int (nI s)), none, none, none, none, none, none, none, none, none] [] (wv x I J) (rV x Q) := by
  obtain ⟨z0, z1, -, -, -, -⟩ := k0c
  have h8r := hG.1
  have h8c := hG.2.1
  have hRC : gN g 0 * gN g 1 ≤ 64 := Nat.le_trans (Nat.mul_le_mul h8r h8c) (by omega)
  intro m
  induction m with
  | zero =>
    intro s J hm hV k
    have hm : s = gN g 0 * gN g 1 := by omega
    subst hm
    refine v186_43_64 ⟨by decide, by decide, fun q => absurd q ?_, fun _ => k J (fun _ _ => rfl) hV⟩
    rw [z0, z1, eg, hI.1 0 (by omega), hI.1 1 (by omega), nI_mu]
    exact nI_nlt (Nat.le_refl _) (by omega)
  | succ m ih =>
    intro s J hm hV k
    have hs : s < gN g 0 * gN g 1 := by omega
    obtain ⟨hc, hr, hmd⟩ := seC2 hs
    have hcs : s / gN g 1 * gN g 1 ≤ s := Nat.div_mul_le_self s _
    have tC : (nI (gN g 1)).toInt = (gN g 1 : Int) := nI_toInt (by omega)
    have ts : (nI s).toInt = (s : Int) := nI_toInt (by omega)
    have dv := i_div ts tC (by omega) (by omega)
    have rm := i_rem ts tC (by omega) (by omega)
    have e1 : nI s / nI (gN g 1) = nI (s / gN g 1) := by
      rw [← Int32.toInt_inj, dv.1, nI_toInt (by omega)]
      exact (Int.natCast_ediv s (gN g 1)).symm
    have e2 : nI s - nI s / nI (gN g 1) * nI (gN g 1) = nI (s % gN g 1) := by
      have q1 : ((s / gN g 1 : Nat) : Int) = (s : Int) / (gN g 1 : Int) := Int.natCast_ediv s (gN g 1)
      have q2 := Nat.div_add_mod s (gN g 1)
      have q3 : ((gN g 1 * (s / gN g 1) + s % gN g 1 : Nat) : Int) = (s : Int) := congrArg _ q2
      rw [Int.natCast_add, Int.natCast_mul, q1, Int.mul_comm] at q3
      rw [← Int32.toInt_inj, rm.2.2, nI_toInt (by omega)]
      omega
    have n0 : ¬ nI (gN g 1) = 0 := fun z => absurd (nI_ij (b := 0) (by omega) (by omega) z) (by omega)
    have K64 : ∀ J', (∀ b, b ≠ 51 → J' b = J b) → AV g (s + 1) J' → wp S (d + 3) 186 64 [some (.ref 43), some (.long l1), none, some (.int (nI (s + 1))), none, none, none, none, none, none, none, none, none] [] (wv x I J') (rV x Q) := fun J' f hV' => ih (s + 1) J' (by omega) hV' (fun J2 f2 hV2 => k J2 (fun b hb => (f2 b hb).trans (f b hb)) hV2)
    refine v186_43_64 ⟨by decide, by decide, fun _ => ⟨by decide, ?_⟩, fun q => absurd ?_ q⟩
    · rw [z1, eg, hI.1 1 (by omega), e2, e1]
      refine ⟨n0, by decide, n0, ?_⟩
      refine la107 hG hI eg hs (fun l6 h6 => ?_) 9 0 0 rfl (fun u hu => ?_)
      · have seen : ∀ (kk m : Nat) (l8 : Int64), kk + m = 4 → 1 ≤ kk → (∀ u, u < 64 → bits5 l8 u = (seB g u && decide (u / gN g 1 + 1 ≤ s / gN g 1 ∧ s / gN g 1 < u / gN g 1 + kk ∧ u % gN g 1 + u / gN g 1 ≤ s % gN g 1 + s / gN g 1 ∧ s % gN g 1 + u / gN g 1 ≤ u % gN g 1 + s / gN g 1))) → ((1 ≤ s / gN g 1 → seB g (s - gN g 1) = true)) → wp S (d + 3) 186 190 [some (.ref 43), some (.long l1), none, some (.int (nI s)), some (.int (nI (s / gN g 1))), some (.int (nI (s % gN g 1))), some (.long l6), none, some (.long l8), none, some (.int (0 : Int32)), some (.int (nI kk)), none] [] (wv x I J) (rV x Q) := by
          intro kk m
          induction m generalizing kk with
          | zero =>
            intro l8 hk k1 h8 hp
            have hk : kk = 4 := by omega
            subst hk
            refine v186_43_190 ⟨fun q => absurd q (nI_nlt (b := 4) (by omega) (by omega)), fun _ => la244 hG hI eg hs h1 h6 (fun u hu => ?_) hV K64⟩
            rw [h8 u hu]
            unfold arB
            cases w : seB g u with
            | false => simp
            | true =>
              rw [decide_eq_true (hG.2.2.2.2.1 u w).1, if_neg (by omega), if_neg (by omega), if_neg (by omega), if_neg (by omega), if_pos rfl, Bool.true_and, Bool.true_and, Bool.true_and]
              by_cases y : 1 ≤ s / gN g 1
              · rw [hp y, decide_eq_true y, Bool.true_and, Bool.true_and, ← Bool.decide_and, ← Bool.decide_and, ← Bool.decide_and]
                exact decide_eq_decide.mpr (by omega)
              · rw [decide_eq_false y, Bool.false_and, Bool.false_and]
                have n3 : (0 : Int) ≤ ((u / gN g 1 : Nat) : Int) := Int.natCast_nonneg _
                exact decide_eq_false (by omega)
          | succ m ih2 =>
            intro l8 hk k1 h8 hp
            refine v186_43_190 ⟨fun _ => ⟨fun _ => ?_, fun y => absurd rfl y⟩, fun q => absurd (nI_lt (b := 4) (by omega) (by omega)) q⟩
            have en : -nI kk = nI 0 - nI kk := by
              rw [← Int32.toInt_inj, i_neg (nI_toInt (by omega)) (by omega), i_sub (nI_toInt (show 0 < 2 ^ 31 by omega)) (nI_toInt (by omega)) (by omega)]
              omega
            rw [en]
            refine la206 hG hI eg hs k1 (by omega) (fun l8' h8' => ih2 (kk + 1) l8' (by omega) (by omega) (fun u hu => ?_) hp) (2 * kk + 1) 0 l8 (by omega) (fun u hu => ?_)
            · rw [h8' u hu]
              congr 1
              exact decide_eq_decide.mpr (by omega)
            · rw [h8 u hu]
              congr 1
              exact decide_eq_decide.mpr (by omega)
        have s0 : ∀ u, u < 64 → bits5 0 u = (seB g u && decide (u / gN g 1 + 1 ≤ s / gN g 1 ∧ s / gN g 1 < u / gN g 1 + 1 ∧ u % gN g 1 + u / gN g 1 ≤ s % gN g 1 + s / gN g 1 ∧ s % gN g 1 + u / gN g 1 ≤ u % gN g 1 + s / gN g 1)) := by
          intro u hu
          rw [b5_0, decide_eq_false (by omega), Bool.and_false]
        refine v186_43_107 ⟨fun q => absurd q (nI_nlt (b := 9) (by omega) (by omega)), fun _ => ⟨fun q => ⟨by decide, ?_⟩, fun q => seen 1 3 0 rfl (by omega) s0 (fun y => absurd (nI_lt (a := 0) y (by omega)) q)⟩⟩
        have q : 0 < s / gN g 1 := (nI_ltI (a := 0) (by omega) (by omega)).mp q
        have hge : gN g 1 ≤ s := by
          have : 1 * gN g 1 ≤ s / gN g 1 * gN g 1 := Nat.mul_le_mul_right _ q
          omega
        have ei : ((6 : Int32) + nI s) - nI (gN g 1) = nI (6 + (s - gN g 1)) := by
          rw [← Int32.toInt_inj, i_sub (a := (6 : Int32) + nI s) (A := ((6 + s : Nat) : Int)) (by show (nI 6 + nI s).toInt = _; rw [nI_add, nI_toInt (by omega)]) tC (by omega), nI_toInt (by omega)]
          omega
        obtain ⟨k1, k2⟩ := hI.2.1 (s - gN g 1) (by omega)
        rw [z1, eg, hI.1 1 (by omega), ei, nI_clamp (by omega), k1]
        refine ⟨nI_in (by omega) (by omega), fun y => ?_, fun y => seen 1 3 0 rfl (by omega) s0 (fun _ => ?_)⟩
        · have y : gN g (6 + (s - gN g 1)) = 0 := nI_ij (b := 0) (by omega) (by omega) y
          refine v186_43_190 ⟨fun _ => ⟨fun w => absurd w (by decide), fun _ => la244 hG hI eg hs h1 h6 (fun u hu => ?_) hV K64⟩, fun w => absurd (nI_lt (a := 1) (b := 4) (by omega) (by omega)) w⟩
          rw [b5_0]
          unfold arB
          have ns : seB g (s - gN g 1) = false := by
            unfold seB
            rw [decide_eq_true (show s - gN g 1 < 64 by omega), Bool.true_and]
            refine decide_eq_false (fun w => ?_)
            have y : (g (6 + (s - gN g 1))).toInt.toNat = 0 := y
            omega
          rw [if_neg (by omega), if_neg (by omega), if_neg (by omega), if_neg (by omega), if_pos rfl, ns]
          simp
        · have y : gN g (6 + (s - gN g 1)) ≠ 0 := fun w => y (by rw [w]; rfl)
          unfold seB
          rw [decide_eq_true (show s - gN g 1 < 64 by omega), Bool.true_and]
          refine decide_eq_true ?_
          have y : ¬ (g (6 + (s - gN g 1))).toInt.toNat = 0 := y
          omega
      · rw [b5_0, decide_eq_false (by omega), Bool.and_false]
    · rw [z0, z1, eg, hI.1 0 (by omega), hI.1 1 (by omega), nI_mu]
      exact nI_lt hs (by omega)
/-- all SEATS -/
theorem la17 {Q : rI0 → rJ0 → Prop} (hG : GA g) (hI : GI g) (eg : I 45 = g) (K : ∀ l1, (∀ u, u < 64 → bits5 l1 u = seB g u) → wp S (d + 3) 186 64 [some (.ref 43), some (.long l1), none, some (.int (0 : Int32)), none, none, none, none, none, none, none, none, none] [] (wv x I J) (rV x Q)) : ∀ (m s : Nat) (l1 : Int64), s + m = gN g 0 * gN g 1 → (∀ u, u < 64 → bits5 l1 u = (decide (u < s) && seB g u)) → wp S (d + 3) 186 17 [some (.ref 43), some (.long l1), none, some (.int (nI s)), none, none, none, none, none, none, none, none, none] [] (wv x I J) (rV x Q) := by
  obtain ⟨z0, z1, -, -, -, -⟩ := k0c
  have h8r := hG.1
  have h8c := hG.2.1
  have hRC : gN g 0 * gN g 1 ≤ 64 := Nat.le_trans (Nat.mul_le_mul h8r h8c) (by omega)
  have l0 : (0 : Int32).toInt = 0 := by decide
  intro m
  induction m with
  | zero =>
    intro s l1 hm h
    have hm : s = gN g 0 * gN g 1 := by omega
    refine v186_43_17 ⟨by decide, by decide, fun q => absurd q ?_, fun _ => K l1 (fun u hu => ?_)⟩
    · rw [z0, z1, eg, hI.1 0 (by omega), hI.1 1 (by omega), nI_mu]
      exact nI_nlt (by omega) (by omega)
    · rw [h u hu]
      cases w : seB g u with
      | false => rw [Bool.and_false]
      | true => rw [decide_eq_true (by rw [hm]; exact (hG.2.2.2.2.1 u w).1), Bool.true_and]
  | succ m ih =>
    intro s l1 hm h
    have i6 : ((6 : Int32) + nI s).toNatClampNeg = 6 + s := by
      show (nI 6 + nI s).toNatClampNeg = _
      rw [nI_add, nI_clamp (by omega)]
    refine v186_43_17 ⟨by decide, by decide, fun _ => ⟨?_, ?_⟩, fun q => absurd ?_ q⟩
    · show ¬ mOut (nI 6 + nI s) 681
      rw [nI_add]
      exact nI_in (by omega) (by omega)
    · rw [i6, eg, ← nI_succ]
      refine ⟨fun q => ih (s + 1) _ (by omega) (put1 (A := fun u => seB g u) h (bit1 (by omega) ?_)), fun q => ih (s + 1) _ (by omega) (put1 (A := fun u => seB g u) h (bit0 ?_))⟩
      · have q := i_lt q
        show seB g s = true
        unfold seB
        rw [decide_eq_true (show s < 64 by omega), decide_eq_true (by omega)]
        rfl
      · have q := i_nlt q
        show seB g s = false
        unfold seB
        rw [decide_eq_false (show ¬ 0 < (g (6 + s)).toInt by omega), Bool.and_false]
    · rw [z0, z1, eg, hI.1 0 (by omega), hI.1 1 (by omega), nI_mu]
      exact nI_lt (by omega) (by omega)
/-- layOut: behind it the areas are laid -/
theorem lay {Q : rI0 → rJ0 → Prop} (hG : GA g) (hI : GI g) (eg : I 45 = g) (hA : I 43 30 = 0 → AR g J) (k : ∀ I' J', (∀ b, b ≠ 43 → I' b = I b) → (∀ q, q ≠ 30 → I' 43 q = I 43 q) → I' 43 30 = 0 → (∀ b, b ≠ 51 → J' b = J b) → AR g J' → Q I' J') : wcV S (d + 3) 186 [.ref 43] x I J Q := by
  refine c186_43 ⟨fun z => k I J (fun _ _ => rfl) (fun _ _ => rfl) z (fun _ _ => rfl) (hA z), fun _ => ?_⟩
  have eg2 : (mSet I 43 30 0) 45 = g := (mSet_ne (by decide)).trans eg
  refine la17 (I := mSet I 43 30 0) hG hI eg2 (fun l1 h1 => la64 (I := mSet I 43 30 0) hG hI eg2 h1 (gN g 0 * gN g 1) 0 J (by omega) (fun s hs => absurd hs (by omega)) (fun J' f hV => k _ _ (fun b hb => mSet_ne hb) (fun q hq => ?_) rfl f (fun s hs a ha u hu => hV s (hG.2.2.2.2.1 s hs).1 a ha u hu))) (gN g 0 * gN g 1) 0 0 (by omega) (fun u hu => ?_)
  · show mSet I 43 30 _ 43 q = _
    unfold mSet va_up
    rw [if_pos rfl, if_neg hq]
  · rw [b5_0, decide_eq_false (show ¬ u < 0 by omega), Bool.false_and]
/-- what a night of the reference leaves as it was -/
def FN (I : rI0) (J : rJ0) (I' : rI0) (J' : rJ0) : Prop := (∀ b, b ≠ 43 → b ≠ 50 → I' b = I b) ∧ (∀ q, q ≠ 30 → q ≠ 42 → q ≠ 43 → I' 43 q = I 43 q) ∧ (∀ b, b ≠ 43 → ¬ (51 ≤ b ∧ b ≤ 55) → J' b = J b) ∧ ∀ q, ¬ (36 ≤ q ∧ q ≤ 41) → J' 43 q = J 43 q
theorem FN.rf : FN I J I J := ⟨fun _ _ _ => rfl, fun _ _ _ _ => rfl, fun _ _ _ => rfl, fun _ _ => rfl⟩
theorem FN.tr {I1 I2 : rI0} {J1 J2 : rJ0} (h : FN I J I1 J1) (h2 : FN I1 J1 I2 J2) : FN I J I2 J2 := ⟨fun b h3 h4 => (h2.1 b h3 h4).trans (h.1 b h3 h4), fun q h3 h4 h5 => (h2.2.1 q h3 h4 h5).trans (h.2.1 q h3 h4 h5), fun b h3 h4 => (h2.2.2.1 b h3 h4).trans (h.2.2.1 b h3 h4), fun q h3 => (h2.2.2.2 q h3).trans (h.2.2.2 q h3)⟩
theorem FM.n {I1 : rI0} {J1 : rJ0} (h : FM I J I1 J1) : FN I J I1 J1 := ⟨h.1, fun q _ h4 h5 => h.2.1 q h4 h5, fun b h1 h2 => h.2.2.1 b h1 (by omega), h.2.2.2⟩
/-- the reference's house is that of g -/
def RH (g : Nat → Int32) (W : Nat → lV) (I : rI0) (J : rJ0) : Prop := GA g ∧ GI g ∧ HW g ∧ LR g W ∧ I 45 = g ∧ (I 43 30 = 0 → AR g J)
/-- begin -/
theorem rbe {p1 p2 : Int64} {Q : rI0 → rJ0 → Prop} (h : RH g W I J) (e1 : ∀ s, s < 64 → bits5 p1 s = P s) (e2 : ∀ s, s < 64 → bits5 p2 s = H s) (k : ∀ I' J', FN I J I' J' → I' 43 30 = 0 → AR g J' → RSn g W P H 0 I' J' → Q I' J') : wcV S (d + 4) 199 [.ref 43, .long p1, .long p2] x I J Q := by
  obtain ⟨hG, hI, hW, hL, eg, hA⟩ := h
  refine c199_43 (lay (d := d) hG hI eg hA (fun I1 J1 f1 f2 f3 f4 a1 => ?_))
  refine k _ _ ⟨fun b h1 h2 => by rw [mSet_ne h1, mSet_ne h1, f1 b h1], fun q h1 h2 h3 => ?_, fun b h1 h2 => by rw [mSet_ne h1, mSet_ne h1, mSet_ne h1, mSet_ne h1, mSet_ne h1, mSet_ne h1, f4 b (by omega)], fun q hq => ?_⟩ ?_ ?_ ⟨rfl, rfl, fun s hs => e1 s hs, fun s hs => e2 s hs, fun s hs => ⟨b5_0, b5_0, b5_0, b5_0⟩⟩
  · show mSet (mSet I1 43 42 _) 43 43 _ 43 q = _
    unfold mSet va_up
    rw [if_pos rfl, if_neg h3, if_pos rfl, if_neg h2, f2 q h1]
  · show mSet (mSet (mSet (mSet (mSet (mSet J1 43 36 _) 43 37 _) 43 38 _) 43 39 _) 43 40 _) 43 41 _ 43 q = _
    unfold mSet va_up
    rw [if_pos rfl, if_neg (by omega), if_pos rfl, if_neg (by omega), if_pos rfl, if_neg (by omega), if_pos rfl, if_neg (by omega), if_pos rfl, if_neg (by omega), if_pos rfl, if_neg (by omega), f4 43 (by decide)]
  · show mSet (mSet I1 43 42 _) 43 43 _ 43 30 = 0
    exact f3
  · unfold AR at *
    rw [mSet_ne (by decide), mSet_ne (by decide), mSet_ne (by decide), mSet_ne (by decide), mSet_ne (by decide), mSet_ne (by decide)]
    exact a1
/-- the rows of the moments up to t -/
def RA (g : Nat → Int32) (W : Nat → lV) (P H : Nat → Bool) (t : Nat) (J : rJ0) : Prop := ∀ u, u < t → ∀ s, s < 64 → bits5 (J 52 u) s = decide (1 ≤ (nt g W P H u).1 s) ∧ bits5 (J 53 u) s = decide (2 ≤ (nt g W P H u).1 s) ∧ bits5 (J 54 u) s = decide ((nt g W P H u).2 s % 2 = 1) ∧ bits5 (J 55 u) s = decide (2 ≤ (nt g W P H u).2 s)
/-- the reference within a night -/
def RN (g : Nat → Int32) (W : Nat → lV) (P H : Nat → Bool) (t : Nat) (I : rI0) (J : rJ0) : Prop := GA g ∧ GI g ∧ HW g ∧ LR g W ∧ I 45 = g ∧ I 43 30 = 0 ∧ AR g J ∧ RSn g W P H t I J ∧ RA g W P H t J
theorem RN.h {t : Nat} (h : RN g W P H t I J) : RH g W I J := ⟨h.1, h.2.1, h.2.2.1, h.2.2.2.1, h.2.2.2.2.1, fun _ => h.2.2.2.2.2.2.1⟩
theorem rbg {p1 p2 : Int64} {Q : rI0 → rJ0 → Prop} (h : RH g W I J) (e1 : ∀ s, s < 64 → bits5 p1 s = P s) (e2 : ∀ s, s < 64 → bits5 p2 s = H s) (k : ∀ I' J', FN I J I' J' → RN g W P H 0 I' J' → Q I' J') : wcV S (d + 4) 199 [.ref 43, .long p1, .long p2] x I J Q := rbe h e1 e2 (fun I' J' f f30 a r => k I' J' f ⟨h.1, h.2.1, h.2.2.1, h.2.2.2.1, (f.1 45 (by decide) (by decide)).trans h.2.2.2.2.1, f30, a, r, fun u hu => absurd hu (by omega)⟩)
theorem rmo {t : Nat} {Q : rI0 → rJ0 → Prop} (h : RN g W P H t I J) (ht : t ≤ 600) (k : ∀ I' J', FN I J I' J' → RN g W P H (t + 1) I' J' → Q I' J') : wcV S (d + 3) 200 [.ref 43] x I J Q := by
  obtain ⟨hG, hI, hW, hL, eg, f30, hA, hR, hN⟩ := h
  refine mom hG hI hW hL hA ht eg hR (fun I' J' f r a o => k I' J' f.n ⟨hG, hI, hW, hL, (f.1 45 (by decide) (by decide)).trans eg, (f.2.1 30 (by decide) (by decide)).trans f30, ?_, r, fun u hu s hs => ?_⟩)
  · unfold AR at *
    rw [f.2.2.1 51 (by decide) (by decide)]
    exact hA
  · by_cases z : u = t
    · rw [z]
      exact a s hs
    · obtain ⟨o1, o2, o3, o4⟩ := o u z
      rw [o1, o2, o3, o4]
      exact hN u (by omega) s hs
/-- on to t -/
theorem rgo {t : Nat} {Q : rI0 → rJ0 → Prop} (ht : t ≤ 600) : ∀ (m u : Nat) (I : rI0) (J : rJ0), u + m = t + 1 → RN g W P H u I J → (∀ I' J', FN I J I' J' → RN g W P H (t + 1) I' J' → Q I' J') → wp S (d + 4) 201 12 [some (.ref 43), some (.int (nI t))] [] (wv x I J) (rV x Q) := by
  intro m
  induction m with
  | zero =>
    intro u I J hu h k
    have hu : u = t + 1 := by omega
    subst hu
    exact v201_43_12 ⟨fun _ => k I J FN.rf h, fun q => absurd (by rw [h.2.2.2.2.2.2.2.1.1]; exact nI_lt (by omega) (by omega)) q⟩
  | succ m ih =>
    intro u I J hu h k
    exact v201_43_12 (d := d + 3) ⟨fun q => absurd q (by rw [h.2.2.2.2.2.2.2.1.1]; exact nI_nlt (by omega) (by omega)), fun _ => rmo (d := d) h (by omega) (fun I1 J1 f h1 => ih (u + 1) I1 J1 (by omega) h1 (fun I2 J2 f2 h2 => k I2 J2 (f.tr f2) h2))⟩
/-- night -/
theorem rnt {t : Nat} {Q : rI0 → rJ0 → Prop} (h : RH g W I J) (ht : t ≤ 600) (e1 : ∀ s, s < 64 → bits5 (J 43 16) s = P s) (e2 : ∀ s, s < 64 → bits5 (J 43 17) s = H s) (k : ∀ I' J', FN I J I' J' → RN g W P H (t + 1) I' J' → Q I' J') : wcV S (d + 5) 201 [.ref 43, .int (nI t)] x I J Q := c201_43 (rbg (d := d) h e1 e2 (fun I1 J1 f h1 => rgo (d := d + 1) ht (t + 1) 0 I1 J1 (by omega) h1 (fun I2 J2 f2 h2 => k I2 J2 (f.tr f2) h2)))
/-- what a height leaves as it was -/
def FH (I : rI0) (J : rJ0) (I' : rI0) (J' : rJ0) : Prop := (∀ b, b ≠ 43 → b ≠ 50 → I' b = I b) ∧ (∀ q, q ≠ 30 → ¬ (42 ≤ q ∧ q ≤ 45) → I' 43 q = I 43 q) ∧ (∀ b, b ≠ 43 → ¬ (51 ≤ b ∧ b ≤ 55) → J' b = J b) ∧ ∀ q, ¬ (36 ≤ q ∧ q ≤ 41) → J' 43 q = J 43 q
theorem FH.rf : FH I J I J := ⟨fun _ _ _ => rfl, fun _ _ _ => rfl, fun _ _ _ => rfl, fun _ _ => rfl⟩
theorem FH.tr {I1 I2 : rI0} {J1 J2 : rJ0} (h : FH I J I1 J1) (h2 : FH I1 J1 I2 J2) : FH I J I2 J2 := ⟨fun b h3 h4 => (h2.1 b h3 h4).trans (h.1 b h3 h4), fun q h3 h4 => (h2.2.1 q h3 h4).trans (h.2.1 q h3 h4), fun b h3 h4 => (h2.2.2.1 b h3 h4).trans (h.2.2.1 b h3 h4), fun q h3 => (h2.2.2.2 q h3).trans (h.2.2.2 q h3)⟩
theorem FN.h {I1 : rI0} {J1 : rJ0} (h : FN I J I1 J1) : FH I J I1 J1 := ⟨h.1, fun q h1 h2 => h.2.1 q h1 (by omega) (by omega), h.2.2.1, h.2.2.2⟩
theorem RN.i {t q : Nat} {v : Int32} (h : RN g W P H t I J) (hq : q = 44 ∨ q = 45) : RN g W P H t (mSet I 43 q v) J := by
  obtain ⟨hG, hI, hW, hL, eg, f30, hA, ⟨r1, r2, r3⟩, hN⟩ := h
  have e : ∀ k, k ≠ q → mSet I 43 q v 43 k = I 43 k := by
    intro k hk
    unfold mSet va_up
    rw [if_pos rfl, if_neg hk]
  exact ⟨hG, hI, hW, hL, (mSet_ne (by decide)).trans eg, (e 30 (by omega)).trans f30, hA, ⟨(e 42 (by omega)).trans r1, (e 43 (by omega)).trans r2, r3⟩, hN⟩
theorem FH.i {I1 : rI0} {J1 : rJ0} {q : Nat} {v : Int32} (h : FH I J I1 J1) (hq : q = 44 ∨ q = 45) : FH I J (mSet I1 43 q v) J1 := by
  refine ⟨fun b h1 h2 => (mSet_ne h1).trans (h.1 b h1 h2), fun k h1 h2 => ?_, h.2.2.1, h.2.2.2⟩
  show mSet I1 43 q v 43 k = _
  unfold mSet va_up
  rw [if_pos rfl, if_neg (by omega)]
  exact h.2.1 k h1 h2
theorem pcR {N hd : Nat → Nat} (h : RP J N hd) : pc (J 43 39) = nb (fun s => decide (2 ≤ N s)) 64 := nb_cg 64 (fun s hs => (h s hs).2.1)
theorem pcR1 {N hd : Nat → Nat} (h : RP J N hd) : pc (J 43 38) = nb (fun s => decide (1 ≤ N s)) 64 := nb_cg 64 (fun s hs => (h s hs).1)
/-- up to u moments -/
def hgP (g : Nat → Int32) (W : Nat → lV) (P H : Nat → Bool) : Nat → Nat
  | 0 => 0
  | u + 1 => hgt g W P H u
theorem hgP_l {u : Nat} : hgP g W P H u ≤ 64 := by
  cases u with
  | zero => exact Nat.zero_le _
  | succ u => exact hgt_l
theorem hgP_s {u : Nat} : hgP g W P H (u + 1) = if hgP g W P H u < stP g W P H u then stP g W P H u else hgP g W P H u := by
  cases u with
  | zero =>
    show stP g W P H 0 = if 0 < stP g W P H 0 then stP g W P H 0 else 0
    split <;> omega
  | succ u => rfl
/-- height -/
theorem rht {p1 p2 : Int64} {Q : Int32 → rI0 → rJ0 → Prop} (h : RH g W I J) (h3 : gN g 3 ≤ 64) (e1 : ∀ s, s < 64 → bits5 p1 s = P s) (e2 : ∀ s, s < 64 → bits5 p2 s = H s) (k : ∀ I' J', FH I J I' J' → RN g W P H 61 I' J' → I' 43 44 = nI (hgt g W P H 60) → I' 43 45 = nI (if gN g 3 ≤ hgt g W P H 60 then 1 else 0) → Q (nI (hgt g W P H 60)) I' J') : wcI S (d + 5) 202 [.ref 43, .long p1, .long p2] x I J Q := by
  obtain ⟨-, -, -, -, -, z3⟩ := k0c
  have lp : ∀ (m u : Nat) (I1 : rI0) (J1 : rJ0), u + m = 61 → FH I J I1 J1 → RN g W P H u I1 J1 → I1 43 44 = nI (hgP g W P H u) → wp S (d + 5) 202 11 [some (.ref 43), some (.long p1), none, some (.long p2), none, none] [] (wv x I1 J1) (rI x Q) := by
    intro m
    induction m with
    | zero =>
      intro u I1 J1 hu f h1 h44
      have hu : u = 61 := by omega
      subst hu
      have hl := hgt_l (g := g) (W := W) (P := P) (H := H) (t := 60)
      have h44 : I1 43 44 = nI (hgt g W P H 60) := h44
      refine v202_43_11 ⟨fun _ => ⟨by decide, ?_⟩, fun q => absurd (by rw [h1.2.2.2.2.2.2.2.1.1]; exact nI_lt (a := 60) (by omega) (by omega)) q⟩
      rw [z3, h1.2.2.2.2.1, h1.2.1.1 3 (by omega), h44]
      refine ⟨fun q => k _ _ (f.i (Or.inr rfl)) (h1.i (Or.inr rfl)) h44 ?_, fun q => k _ _ (f.i (Or.inr rfl)) (h1.i (Or.inr rfl)) h44 ?_⟩
      · have q := (nI_ltI (by omega) (by omega)).mp q
        rw [if_neg (by omega)]
        rfl
      · have q : ¬ hgt g W P H 60 < gN g 3 := fun z => q (nI_lt z (by omega))
        rw [if_pos (by omega)]
        rfl
    | succ m ih =>
      intro u I1 J1 hu f h1 h44
      have hl := hgP_l (g := g) (W := W) (P := P) (H := H) (u := u)
      have hs : stP g W P H u ≤ 64 := nb_le 64
      refine v202_43_11 (d := d + 4) ⟨fun q => absurd q (by rw [h1.2.2.2.2.2.2.2.1.1]; exact nI_nlt (a := 60) (by omega) (by omega)), fun _ => rmo (d := d + 1) h1 (by omega) (fun I2 J2 f2 h2 => rbX ?_)⟩
      have e44 : I2 43 44 = nI (hgP g W P H u) := (f2.2.1 44 (by decide) (by decide) (by decide)).trans h44
      have ep : pc (J2 43 39) = stP g W P H u := pcR h2.2.2.2.2.2.2.2.1.2.2.2.2
      rw [ep, e44]
      refine ⟨fun q => ih (u + 1) _ _ (by omega) ((f.tr f2.h).i (Or.inl rfl)) (h2.i (Or.inl rfl)) ?_, fun q => ih (u + 1) _ _ (by omega) ((f.tr f2.h).i (Or.inl rfl)) (h2.i (Or.inl rfl)) ?_⟩
      · have q := (nI_ltI (by omega) (by omega)).mp q
        rw [hgP_s, if_pos q]
        rfl
      · have q : ¬ hgP g W P H u < stP g W P H u := fun z => q (nI_lt z (by omega))
        rw [hgP_s, if_neg q]
        rfl
  refine c202_43 (rbg (d := d) h e1 e2 (fun I1 J1 f h1 => lp 61 0 _ _ (by omega) (f.h.i (Or.inl rfl)) (h1.i (Or.inl rfl)) rfl))
end RB0
end
section
/-! the class's diary -/
section DY0
variable {S : Nat × (Nat → Int32)} {d : Nat} {x : mX} {I : rI0} {J : rJ0} {g : Nat → Int32} {W : Nat → lV} {P H : Nat → Bool}
def FD (I : rI0) (J : rJ0) (I' : rI0) (J' : rJ0) : Prop := (∀ b, ¬ (31 ≤ b ∧ b ≤ 36) → I' b = I b) ∧ ∀ b, ¬ (31 ≤ b ∧ b ≤ 36) → J' b = J b
theorem FD.rf : FD I J I J := ⟨fun _ _ => rfl, fun _ _ => rfl⟩
theorem FD.tr {I1 I2 : rI0} {J1 J2 : rJ0} (h : FD I J I1 J1) (h2 : FD I1 J1 I2 J2) : FD I J I2 J2 := ⟨fun b hb => (h2.1 b hb).trans (h.1 b hb), fun b hb => (h2.2 b hb).trans (h.2 b hb)⟩
theorem F36.fd {I1 : rI0} {J1 : rJ0} (h : F36 I J I1 J1) : FD I J I1 J1 := ⟨fun b hb => h.1 b (by omega), fun b hb => h.2 b (by omega)⟩
/-- the moments that are kept -/
def DA (g : Nat → Int32) (W : Nat → lV) (P H : Nat → Bool) (k : Nat) (J : rJ0) : Prop := ∀ m, m < k → ∀ s, s < 64 → bits5 (J 32 m) s = decide (1 ≤ (nt g W P H m).1 s) ∧ bits5 (J 33 m) s = decide (2 ≤ (nt g W P H m).1 s) ∧ bits5 (J 34 m) s = decide ((nt g W P H m).2 s % 2 = 1) ∧ bits5 (J 35 m) s = decide (2 ≤ (nt g W P H m).2 s)
def DK (g : Nat → Int32) (W : Nat → lV) (P H : Nat → Bool) (k : Nat) (I : rI0) (J : rJ0) : Prop := 1 ≤ k ∧ k ≤ 601 ∧ I 31 6 = nI k ∧ DA g W P H k J ∧ NO36 g W P H (k - 1) I J
def DI (g : Nat → Int32) (W : Nat → lV) (P H : Nat → Bool) (I : rI0) (J : rJ0) : Prop := I 31 6 = 0 ∨ ∃ k, DK g W P H k I J
/-- the class's evening is that of g, P, H -/
def CE (g : Nat → Int32) (W : Nat → lV) (P H : Nat → Bool) (I : rI0) (J : rJ0) : Prop := GA g ∧ HM g W I J ∧ (∀ s, P s = true → seB g s = true) ∧ (∀ s, s < 64 → bits5 (J 3 5) s = P s) ∧ (∀ s, s < 64 → bits5 (J 3 6) s = H s) ∧ I 4 2 = nI (gN g 3) ∧ gN g 3 ≤ 64
theorem CE.mv {I' : rI0} {J' : rJ0} (h : CE g W P H I J) (hi : ∀ b, b < 15 → I' b = I b) (hj : ∀ b, b < 15 → J' b = J b) : CE g W P H I' J' := by
  obtain ⟨h1, h2, h3, h4, h5, h6, h7⟩ := h
  exact ⟨h1, h2.mv hi hj, h3, by rw [hj 3 (by omega)]; exact h4, by rw [hj 3 (by omega)]; exact h5, by rw [hi 4 (by omega)]; exact h6, h7⟩
theorem CE.fd {I' : rI0} {J' : rJ0} (h : CE g W P H I J) (f : FD I J I' J') : CE g W P H I' J' := h.mv (fun b hb => f.1 b (by omega)) (fun b hb => f.2 b (by omega))
/-- keep -/
theorem kp_31 {k : Nat} {Q : rI0 → rJ0 → Prop} (hk : k ≤ 600) (h6 : I 31 6 = nI k) (hA : DA g W P H k J) (hN : NO36 g W P H k I J) (c : ∀ I' J', FD I J I' J' → DK g W P H (k + 1) I' J' → Q I' J') : wcV S d 8 [.ref 31] x I J Q := by
  have io : ¬ mOut (I 31 6) 601 := by
    rw [h6]
    exact nI_in (by omega) (by omega)
  refine c8_31 ⟨fun q => absurd q (by rw [h6]; exact nI_nlt (a := 600) (by omega) (by omega)), fun _ => ⟨io, io, io, io, ?_⟩⟩
  rw [h6, nI_clamp (by omega), ← nI_succ]
  have e : ∀ (f : rJ0) (a j : Nat) (v : Int64), mSet f a k v a j = if j = k then v else f a j := by
    intro f a j v
    unfold mSet va_up
    rw [if_pos rfl]
  refine c _ _ ⟨fun b hb => mSet_ne (by omega), fun b hb => by rw [mSet_ne (by omega), mSet_ne (by omega), mSet_ne (by omega), mSet_ne (by omega)]⟩ ⟨by omega, by omega, rfl, fun m hm s hs => ?_, ?_⟩
  · rw [mSet_ne (show 32 ≠ 35 by decide), mSet_ne (show 32 ≠ 34 by decide), mSet_ne (show 32 ≠ 33 by decide), e, mSet_ne (show 33 ≠ 35 by decide), mSet_ne (show 33 ≠ 34 by decide), e, mSet_ne (show 34 ≠ 35 by decide), e, e, mSet_ne (show 33 ≠ 32 by decide), mSet_ne (show 34 ≠ 33 by decide), mSet_ne (show 34 ≠ 32 by decide), mSet_ne (show 35 ≠ 34 by decide), mSet_ne (show 35 ≠ 33 by decide), mSet_ne (show 35 ≠ 32 by decide)]
    by_cases z : m = k
    · rw [if_pos z, if_pos z, if_pos z, if_pos z, z]
      exact hN.2.2.2.2.2.2.1 s hs
    · rw [if_neg z, if_neg z, if_neg z, if_neg z]
      exact hA m (by omega) s hs
  · exact hN.mv (mSet_ne (by decide)) (by rw [mSet_ne (by decide), mSet_ne (by decide), mSet_ne (by decide), mSet_ne (by decide)])
theorem mm_i {t k : Nat} (ht : t ≤ 600) (hk : 1 ≤ k ∧ k ≤ 601) : (if (0 : Int32) < (if nI k - (1 : Int32) < nI t then nI k - (1 : Int32) else nI t) then (if nI k - (1 : Int32) < nI t then nI k - (1 : Int32) else nI t) else (0 : Int32)) = nI (if k - 1 < t then k - 1 else t) := by
  have e : nI k - (1 : Int32) = nI (k - 1) := by
    have := nI_pr (k - 1)
    rw [show k - 1 + 1 = k by omega] at this
    exact this
  have p : ∀ a, a ≤ 601 → (if (0 : Int32) < nI a then nI a else (0 : Int32)) = nI a := by
    intro a ha
    by_cases z : 0 < a
    · rw [if_pos (show (0 : Int32) < nI a from nI_lt (a := 0) z (by omega))]
    · rw [show a = 0 by omega]
      rfl
  rw [e]
  by_cases z : k - 1 < t
  · rw [if_pos (nI_lt z (by omega)), if_pos z]
    exact p _ (by omega)
  · rw [if_neg (nI_nlt (by omega) (by omega)), if_neg z]
    exact p _ (by omega)
/-- what reach says of m -/
def RC (g : Nat → Int32) (W : Nat → lV) (P H : Nat → Bool) (t m : Nat) : Prop := m ≤ t ∧ nt g W P H m = nt g W P H t ∧ (m = t ∨ ∀ u, m ≤ u → u ≤ 600 → nt g W P H u = nt g W P H m)
theorem rl_31 {t : Nat} {Q : Int32 → rI0 → rJ0 → Prop} (ht : t ≤ 600) : ∀ (n k : Nat) (I : rI0) (J : rJ0), k + n = 601 → CE g W P H I J → DK g W P H k I J → (∀ I' J' m k', FD I J I' J' → DK g W P H k' I' J' → m < k' → RC g W P H t m → k ≤ k' → Q (nI m) I' J') → wp S (d + 22) 7 37 [some (.ref 31), some (.int (nI t)), some (.int (nI k))] [] (wv x I J) (rI x Q) := by
  have fin : ∀ (k : Nat) (I : rI0) (J : rJ0), DK g W P H k I J → (t < k ∨ ∀ u, k - 1 ≤ u → u ≤ 600 → nt g W P H u = nt g W P H (k - 1)) → (∀ I' J' m k', FD I J I' J' → DK g W P H k' I' J' → m < k' → RC g W P H t m → k ≤ k' → Q (nI m) I' J') → Q (if (0 : Int32) < (if (I 31 6) - (1 : Int32) < nI t then (I 31 6) - (1 : Int32) else nI t) then (if (I 31 6) - (1 : Int32) < nI t then (I 31 6) - (1 : Int32) else nI t) else (0 : Int32)) I J := by
    intro k I J h z c
    have hk := h.1
    have hk2 := h.2.1
    rw [h.2.2.1, mm_i ht ⟨hk, hk2⟩]
    by_cases y : k - 1 < t
    · rw [if_pos y]
      refine c I J (k - 1) k FD.rf h (by omega) ⟨by omega, ?_, ?_⟩ (Nat.le_refl _)
      · rcases z with z | z
        · omega
        · exact (z t (by omega) ht).symm
      · rcases z with z | z
        · omega
        · exact Or.inr z
    · rw [if_neg y]
      exact c I J t k FD.rf h (by omega) ⟨Nat.le_refl _, rfl, Or.inl rfl⟩ (Nat.le_refl _)
  intro n
  induction n with
  | zero =>
    intro k I J hk hC h c
    have f := fin k I J h (Or.inl (by omega)) c
    exact v7_31_37 ⟨fun _ => f, fun _ => ⟨fun _ => f, fun q => absurd (nI_lt (a := 600) (by omega) (by omega)) q⟩⟩
  | succ n ih =>
    intro k I J hk hC h c
    refine v7_31_37 (d := d + 21) ⟨fun q => fin k I J h (Or.inl ((nI_ltI (by omega) (by omega)).mp q)) c, fun q => ⟨fun q2 => absurd q2 (nI_nlt (a := 600) (by omega) (by omega)), fun _ => ⟨fun q3 => ?_, fun q3 => ?_⟩⟩⟩
    · obtain ⟨k1, k2, k3, k4, k5⟩ := h
      refine st_36 (d := d) hC.1 hC.2.1 hC.2.2.1 (show k - 1 < 600 by omega) k5 (fun I1 J1 f1 n1 => ?_)
      have e : k - 1 + 1 = k := by omega
      rw [e] at n1
      refine kp_31 (k := k) (by omega) ((congrFun (f1.1 31 (by decide)) 6).trans k3) ?_ n1 (fun I2 J2 f2 h2 => ?_)
      · intro m hm s hs
        rw [f1.2 32 (by decide), f1.2 33 (by decide), f1.2 34 (by decide), f1.2 35 (by decide)]
        exact k4 m hm s hs
      · rw [← nI_succ]
        exact ih (k + 1) I2 J2 (by omega) (hC.fd (f1.fd.tr f2)) h2 (fun I3 J3 m k' f3 h3 hm hr hk' => c I3 J3 m k' (f1.fd.tr (f2.tr f3)) h3 hm hr (by omega))
    · rcases h.2.2.2.2.2.2.2.2.2.2.2 with z | ⟨_, z⟩
      · exact absurd z q3
      · exact fin k I J h (Or.inr z) c
/-- reach -/
theorem re_31 {t : Nat} {Q : Int32 → rI0 → rJ0 → Prop} (ht : t ≤ 600) (hC : CE g W P H I J) (hD : DI g W P H I J) (c : ∀ I' J' m k', FD I J I' J' → DK g W P H k' I' J' → m < k' → RC g W P H t m → (∀ k0, k0 ≤ 601 → I 31 6 = nI k0 → k0 ≤ k') → Q (nI m) I' J') : wcI S (d + 22) 7 [.ref 31, .int (nI t)] x I J Q := by
  refine c7_31 ⟨fun z => be_36 (d := d + 18) hC.1 hC.2.1 hC.2.2.1 hC.2.2.2.1 hC.2.2.2.2.1 (fun I1 J1 f1 n1 => kp_31 (k := 0) (by omega) ((congrFun (f1.1 31 (by decide)) 6).trans z) (fun m hm => absurd hm (by omega)) n1 (fun I2 J2 f2 h2 => ?_)), fun z => ?_⟩
  · rw [h2.2.2.1]
    exact rl_31 ht 600 1 I2 J2 (by omega) (hC.fd (f1.fd.tr f2)) h2 (fun I3 J3 m k' f3 h3 hm hr hk' => c I3 J3 m k' (f1.fd.tr (f2.tr f3)) h3 hm hr (fun k0 h0 e0 => by rw [z] at e0; have := nI_ij (a := 0) (b := k0) (by omega) (by omega) e0; omega))
  · rcases hD with y | ⟨k, h⟩
    · exact absurd y z
    · have := h.2.1
      rw [h.2.2.1]
      exact rl_31 ht (601 - k) k I J (by omega) hC h (fun I3 J3 m k' f3 h3 hm hr hk' => c I3 J3 m k' f3 h3 hm hr (fun k0 h0 e0 => by rw [h.2.2.1] at e0; have := nI_ij (a := k) (b := k0) (by omega) (by omega) e0; omega))
theorem DK.i {k : Nat} (h : DK g W P H k I J) : DI g W P H I J := Or.inr ⟨k, h⟩
/-- so many who stand at m -/
theorem DA.cn {k m : Nat} (h : DA g W P H k J) (hm : m < k) : pc (J 33 m) = stP g W P H m := nb_cg 64 (fun s hs => (h m hm s hs).2.1)
theorem DA.cn1 {k m : Nat} (h : DA g W P H k J) (hm : m < k) : pc (J 32 m) = nb (fun s => decide (1 ≤ (nt g W P H m).1 s)) 64 := nb_cg 64 (fun s hs => (h m hm s hs).1)
theorem stP_l {t : Nat} : stP g W P H t ≤ 64 := nb_le 64
/-- isUp -/
theorem up_31 {k m : Nat} {Q : Int32 → rI0 → rJ0 → Prop} (hC : CE g W P H I J) (h : DK g W P H k I J) (hm : m < k) (c : Q (nI (if gN g 3 ≤ stP g W P H m then 1 else 0)) I J) : wcI S (d + 1) 9 [.ref 31, .int (nI m)] x I J Q := by
  have hk := h.2.1
  have hs := stP_l (g := g) (W := W) (P := P) (H := H) (t := m)
  have h3 := hC.2.2.2.2.2.2
  refine c9_31 ⟨fun q => absurd q (nI_nlt (b := 0) (by omega) (by omega)), fun _ => ⟨fun _ => ⟨nI_in (by omega) (by omega), bcX ?_⟩, fun q => absurd (by rw [h.2.2.1]; exact nI_lt hm (by omega)) q⟩⟩
  rw [nI_clamp (by omega), DA.cn h.2.2.2.1 hm, hC.2.2.2.2.2.1]
  refine ⟨fun q => ?_, fun q => ?_⟩
  · have q := (nI_ltI (by omega) (by omega)).mp q
    rw [if_neg (by omega)] at c
    exact c
  · have q : ¬ stP g W P H m < gN g 3 := fun z => q (nI_lt z (by omega))
    rw [if_pos (by omega)] at c
    exact c
/-- height -/
theorem hg_31 {Q : Int32 → rI0 → rJ0 → Prop} (hC : CE g W P H I J) (hD : DI g W P H I J) (c : ∀ I' J', FD I J I' J' → DI g W P H I' J' → Q (nI (hgt g W P H 60)) I' J') : wcI S (d + 23) 10 [.ref 31] x I J Q := by
  have lp : ∀ (n u : Nat) (I1 : rI0) (J1 : rJ0), u + n = 61 → FD I J I1 J1 → DI g W P H I1 J1 → wp S (d + 23) 10 4 [some (.ref 31), some (.int (nI (hgP g W P H u))), some (.int (nI u))] [] (wv x I1 J1) (rI x Q) := by
    intro n
    induction n with
    | zero =>
      intro u I1 J1 hu f h
      have hu : u = 61 := by omega
      subst hu
      exact v10_31_4 ⟨fun _ => c I1 J1 f h, fun q => absurd (nI_lt (a := 60) (by omega) (by omega)) q⟩
    | succ n ih =>
      intro u I1 J1 hu f h
      refine v10_31_4 (d := d + 22) ⟨fun q => absurd q (nI_nlt (a := 60) (by omega) (by omega)), fun _ => re_31 (d := d) (by omega) (hC.fd f) h (fun I2 J2 m k f2 h2 hm hr _ => ⟨nI_in (N := 601) (by have := h2.2.1; omega) (by omega), bcX ?_⟩)⟩
      have hl := hgP_l (g := g) (W := W) (P := P) (H := H) (u := u)
      have hs := stP_l (g := g) (W := W) (P := P) (H := H) (t := u)
      have es : stP g W P H m = stP g W P H u := by
        unfold stP
        rw [hr.2.1]
      rw [nI_clamp (by have := h2.2.1; omega), DA.cn h2.2.2.2.1 hm, es, ← nI_succ]
      have e : (if nI (hgP g W P H u) < nI (stP g W P H u) then nI (stP g W P H u) else nI (hgP g W P H u)) = nI (hgP g W P H (u + 1)) := by
        rw [hgP_s]
        by_cases z : hgP g W P H u < stP g W P H u
        · rw [if_pos (nI_lt z (by omega)), if_pos z]
        · rw [if_neg (nI_nlt (by omega) (by omega)), if_neg z]
      rw [e]
      exact ih (u + 1) I2 J2 (by omega) (f.tr f2) h2.i
  exact c10_31 (lp 61 0 I J rfl FD.rf hD)
/-- two moments alike -/
theorem nt_eq {a b : Nat} (h : ∀ s, s < 64 → decide (1 ≤ (nt g W P H a).1 s) = decide (1 ≤ (nt g W P H b).1 s) ∧ decide (2 ≤ (nt g W P H a).1 s) = decide (2 ≤ (nt g W P H b).1 s) ∧ decide ((nt g W P H a).2 s % 2 = 1) = decide ((nt g W P H b).2 s % 2 = 1) ∧ decide (2 ≤ (nt g W P H a).2 s) = decide (2 ≤ (nt g W P H b).2 s)) : nt g W P H a = nt g W P H b := by
  obtain ⟨o1, o2⟩ := nt_o (g := g) (W := W) (P := P) (H := H) a
  obtain ⟨p1, p2⟩ := nt_o (g := g) (W := W) (P := P) (H := H) b
  refine Prod.ext (funext (fun s => ?_)) (funext (fun s => ?_))
  · cases z : seB g s with
    | false => rw [(o1 s).2 z, (p1 s).2 z]
    | true =>
      obtain ⟨a1, a2, -, -⟩ := h s (seB_l z)
      have q1 := (o1 s).1
      have q2 := (p1 s).1
      have a1 := decide_eq_decide.mp a1
      have a2 := decide_eq_decide.mp a2
      omega
  · cases z : seB g s with
    | false => rw [(o2 s).2 z, (p2 s).2 z]
    | true =>
      obtain ⟨-, -, a3, a4⟩ := h s (seB_l z)
      exact hd_inj _ (by have := (o2 s).1; omega) _ (by have := (p2 s).1; omega) a3 a4
theorem al_31 {k a b : Nat} {Q : Int32 → rI0 → rJ0 → Prop} (hk : k ≤ 601) (h : DA g W P H k J) (ha : a < k) (hb : b < k) (c1 : nt g W P H a = nt g W P H b → Q 1 I J) (c0 : nt g W P H a ≠ nt g W P H b → Q 0 I J) : wcI S d 12 [.ref 31, .int (nI a), .int (nI b)] x I J Q := by
  have oa : ¬ mOut (nI a) 601 := nI_in (by omega) (by omega)
  have ob : ¬ mOut (nI b) 601 := nI_in (by omega) (by omega)
  refine c12_31 ?_
  rw [nI_clamp (by omega), nI_clamp (by omega)]
  have e : ∀ (v w : Int64) (p q : Nat → Bool), (∀ s, s < 64 → bits5 v s = p s) → (∀ s, s < 64 → bits5 w s = q s) → (lg_cmp v w = 0 ↔ ∀ s, s < 64 → p s = q s) := by
    intro v w p q hp hq
    rw [lg_eq]
    constructor
    · intro y s hs
      rw [← hp s hs, ← hq s hs, y]
    · intro y
      exact b5_ext (fun s hs => by rw [hp s hs, hq s hs, y s hs])
  have e1 := e (J 32 a) (J 32 b) _ _ (fun s hs => (h a ha s hs).1) (fun s hs => (h b hb s hs).1)
  have e2 := e (J 33 a) (J 33 b) _ _ (fun s hs => (h a ha s hs).2.1) (fun s hs => (h b hb s hs).2.1)
  have e3 := e (J 34 a) (J 34 b) _ _ (fun s hs => (h a ha s hs).2.2.1) (fun s hs => (h b hb s hs).2.2.1)
  have e4 := e (J 35 a) (J 35 b) _ _ (fun s hs => (h a ha s hs).2.2.2) (fun s hs => (h b hb s hs).2.2.2)
  refine ⟨oa, ob, fun q1 => ⟨oa, ob, fun q2 => ⟨oa, ob, fun q3 => ⟨oa, ob, fun q4 => c1 (nt_eq (fun s hs => ⟨e1.mp q1 s hs, e2.mp q2 s hs, e3.mp q3 s hs, e4.mp q4 s hs⟩)), fun q4 => c0 (fun y => q4 (e4.mpr (fun s hs => by rw [y])))⟩, fun q3 => c0 (fun y => q3 (e3.mpr (fun s hs => by rw [y])))⟩, fun q2 => c0 (fun y => q2 (e2.mpr (fun s hs => by rw [y])))⟩, fun q1 => c0 (fun y => q1 (e1.mpr (fun s hs => by rw [y])))⟩
/-- likeBehind -/
theorem lb_31 {t : Nat} {Q : Int32 → rI0 → rJ0 → Prop} (ht : t ≤ 600) (hC : CE g W P H I J) (hD : DI g W P H I J) (c1 : ∀ I' J' u, FD I J I' J' → DI g W P H I' J' → t < u → u ≤ 600 → nt g W P H u = nt g W P H t → (∀ v, t < v → v < u → nt g W P H v ≠ nt g W P H t) → Q (nI u) I' J') (c0 : ∀ I' J', FD I J I' J' → DI g W P H I' J' → (∀ v, t < v → v ≤ 600 → nt g W P H v ≠ nt g W P H t) → Q (-1) I' J') : wcI S (d + 23) 11 [.ref 31, .int (nI t)] x I J Q := by
  have lp : ∀ (n u a k : Nat) (I1 : rI0) (J1 : rJ0), u + n = 601 → t < u → FD I J I1 J1 → DK g W P H k I1 J1 → a < k → nt g W P H a = nt g W P H t → (∀ v, t < v → v < u → nt g W P H v ≠ nt g W P H t) → wp S (d + 23) 11 10 [some (.ref 31), some (.int (nI t)), some (.int (nI a)), some (.int (nI u)), none] [] (wv x I1 J1) (rI x Q) := by
    intro n
    induction n with
    | zero =>
      intro u a k I1 J1 hu htu f h ha ea hv
      exact v11_31_10 ⟨fun _ => c0 I1 J1 f h.i (fun v h1 h2 => hv v h1 (by omega)), fun q => absurd (nI_lt (a := 600) (by omega) (by omega)) q⟩
    | succ n ih =>
      intro u a k I1 J1 hu htu f h ha ea hv
      refine v11_31_10 (d := d + 22) ⟨fun q => absurd q (nI_nlt (a := 600) (by omega) (by omega)), fun _ => re_31 (d := d) (by omega) (hC.fd f) h.i (fun I2 J2 m k2 f2 h2 hm hr hkk => ?_)⟩
      have hk2 := h2.2.1
      have ak : a < k2 := by
        have := hkk k h.2.1 h.2.2.1
        omega
      · refine al_31 hk2 h2.2.2.2.1 ak hm (fun y => ⟨fun w => absurd w (by decide), fun _ => ?_⟩) (fun y => ⟨fun _ => ⟨fun w => ?_, fun w => ?_⟩, fun w => absurd rfl w⟩)
        · exact c1 I2 J2 u (f.tr f2) h2.i htu (by omega) (by rw [← hr.2.1, ← y, ea]) hv
        · have w := (nI_ltI (by omega) (by omega)).mp w
          refine c0 I2 J2 (f.tr f2) h2.i (fun v h1 h6 => ?_)
          by_cases z : v < u
          · exact hv v h1 z
          · rcases hr.2.2 with z2 | z2
            · omega
            · rw [z2 v (by have := hr.1; omega) h6, ← ea]
              exact fun q => y q.symm
        · have w : ¬ m < u := fun z => w (nI_lt z (by omega))
          rw [← nI_succ]
          refine ih (u + 1) a k2 I2 J2 (by omega) (by omega) (f.tr f2) h2 ak ea (fun v h1 h2v => ?_)
          by_cases z : v < u
          · exact hv v h1 z
          · rw [show v = u by omega, ← hr.2.1, ← ea]
            exact fun q => y q.symm
  refine c11_31 (re_31 (d := d) ht hC hD (fun I1 J1 m k f h hm hr _ => ?_))
  rw [← nI_succ]
  exact lp (600 - t) (t + 1) m k I1 J1 (by omega) (by omega) f h hm hr.2.1 (fun v h1 h2 => absurd h1 (by omega))
end DY0
end
