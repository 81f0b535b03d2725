/-! areas laid out; begin, night, height of the reference -/
section RB0
variable {S : Nat × (Nat → Int32)} {d : Nat} {x : mX} {I : rI0} {J : rJ0} {g : Nat → Int32} {W : Nat → lV} {P H : Nat → Bool}
theorem seC2 {s : Nat} (hs : s < gN g 0 * gN g 1) : 0 < gN g 1 ∧ s / gN g 1 < gN g 0 ∧ s % gN g 1 < gN g 1 := by
  have hc : 0 < gN g 1 := by
    rcases Nat.eq_zero_or_pos (gN g 1) with y | y
    · rw [y] at hs
      omega
    · exact y
  exact ⟨hc, Nat.div_lt_of_lt_mul (by rw [Nat.mul_comm]; exact hs), Nat.mod_lt _ hc⟩
/-- the areas of the first v cells -/
def AV (g : Nat → Int32) (v : Nat) (J : rJ0) : Prop := ∀ s, s < v → ∀ a, a < 6 → ∀ u, u < 64 → bits5 (J 51 (6 * s + a)) u = arB g a s u
theorem la244 {s : Nat} {l1 l6 l8 : Int64} {l10 l11 : Int32} {Q : rI0 → rJ0 → Prop} (hG : GA g) (hI : GI g) (eg : I 45 = g) (hs : s < gN g 0 * gN g 1) (h1 : ∀ u, u < 64 → bits5 l1 u = seB g u) (h6 : ∀ u, u < 64 → bits5 l6 u = arB g 0 s u) (h8 : ∀ u, u < 64 → bits5 l8 u = arB g 4 s u) (hV : AV g s J) (K : ∀ J', (∀ b, b ≠ 51 → J' b = J b) → AV g (s + 1) J' → wp S (d + 3) 186 64 [some (.ref 43), some (.long l1), none, some (.int (nI (s + 1))), none, none, none, none, none, none, none, none, none] [] (wv x I J') (rV x Q)) : wp S (d + 3) 186 244 [some (.ref 43), some (.long l1), none, some (.int (nI s)), some (.int (nI (s / gN g 1))), some (.int (nI (s % gN g 1))), some (.long l6), none, some (.long l8), none, some (.int l10), some (.int l11), none] [] (wv x I J) (rV x Q) := by
  have h8r := hG.1
  have h8c := hG.2.1
  have hRC : gN g 0 * gN g 1 ≤ 64 := Nat.le_trans (Nat.mul_le_mul h8r h8c) (by omega)
  obtain ⟨hc, hr, hm⟩ := seC2 hs
  have o1 : (1 : Int32).toInt = 1 := by decide
  have n1 : (0 : Int) ≤ ((s / gN g 1 : Nat) : Int) := Int.natCast_nonneg _
  have n2 : (0 : Int) ≤ ((s % gN g 1 : Nat) : Int) := Int.natCast_nonneg _
  have tr := nI_toInt (n := s / gN g 1) (by omega)
  have tc := nI_toInt (n := s % gN g 1) (by omega)
  have ix : ∀ k, k < 6 → (6 : Int32) * nI s + nI k = nI (6 * s + k) := by
    intro k _
    show nI 6 * nI s + nI k = _
    rw [nI_mu, nI_add]
  have i0 : (6 : Int32) * nI s = nI (6 * s) := by
    show nI 6 * nI s = _
    rw [nI_mu]
  have oo : ∀ k, k < 6 → ¬ mOut ((6 : Int32) * nI s + nI k) 384 := by
    intro k hk
    rw [ix k hk]
    exact nI_in (by omega) (by omega)
  have cl : ∀ k, k < 6 → ((6 : Int32) * nI s + nI k).toNatClampNeg = 6 * s + k := by
    intro k hk
    rw [ix k hk, nI_clamp (by omega)]
  have c0 : ((6 : Int32) * nI s).toNatClampNeg = 6 * s := by rw [i0, nI_clamp (by omega)]
  have c1 : ((6 : Int32) * nI s + (1 : Int32)).toNatClampNeg = 6 * s + 1 := cl 1 (by omega)
  have c2 : ((6 : Int32) * nI s + (2 : Int32)).toNatClampNeg = 6 * s + 2 := cl 2 (by omega)
  have c3 : ((6 : Int32) * nI s + (3 : Int32)).toNatClampNeg = 6 * s + 3 := cl 3 (by omega)
  have c4 : ((6 : Int32) * nI s + (4 : Int32)).toNatClampNeg = 6 * s + 4 := cl 4 (by omega)
  have c5 : ((6 : Int32) * nI s + (5 : Int32)).toNatClampNeg = 6 * s + 5 := cl 5 (by omega)
  refine v186_43_244 ⟨by rw [i0]; exact nI_in (by omega) (by omega), ?_⟩
  rw [c0, c1, c2, c3, c4, c5]
  refine bAt (d := d) hG hI eg (i_sub tr o1 (by omega)) tc (fun w1 hw1 => ⟨oo 1 (by omega), bAt (d := d) hG hI eg tr (i_sub tc o1 (by omega)) (fun w2 hw2 => bAt (d := d) hG hI eg tr (i_add tc o1 (by omega)) (fun w3 hw3 => ⟨oo 2 (by omega), bAt (d := d) hG hI eg (i_add tr o1 (by omega)) tc (fun w4 hw4 => ⟨oo 3 (by omega), oo 4 (by omega), oo 5 (by omega), ?_⟩)⟩))⟩)
  rw [← nI_succ]
  refine K _ (fun b hb => by rw [mSet_ne hb, mSet_ne hb, mSet_ne hb, mSet_ne hb, mSet_ne hb, mSet_ne hb]) ?_
  have at_ : ∀ (f : rJ0) (k j : Nat) (v : Int64), mSet f 51 k v 51 j = if j = k then v else f 51 j := by
    intro f k j v
    unfold mSet va_up
    rw [if_pos rfl]
  intro t ht a ha u hu
  rw [at_, at_, at_, at_, at_, at_]
  by_cases z : t = s
  · subst z
    have eu : u = t ↔ u / gN g 1 = t / gN g 1 ∧ u % gN g 1 = t % gN g 1 := ⟨fun y => by rw [y]; exact ⟨rfl, rfl⟩, fun y => uq y.1 y.2⟩
    have sl : seB g u = true → u < gN g 0 * gN g 1 := fun y => (hG.2.2.2.2.1 u y).1
    rcases (show a = 0 ∨ a = 1 ∨ a = 2 ∨ a = 3 ∨ a = 4 ∨ a = 5 by omega) with y | y | y | y | y | y <;> subst y
    · rw [if_neg (by omega), if_neg (by omega), if_neg (by omega), if_neg (by omega), if_neg (by omega), if_pos (by omega)]
      exact h6 u hu
    · rw [if_neg (by omega), if_neg (by omega), if_neg (by omega), if_neg (by omega), if_pos rfl, hw1 u hu]
      unfold cB arB
      cases w : seB g u with
      | false => simp
      | true =>
        rw [decide_eq_true (sl w), if_neg (by omega), if_pos rfl, Bool.true_and, Bool.true_and, Bool.true_and, ← Bool.decide_and, ← Bool.decide_and]
        exact decide_eq_decide.mpr (by omega)
    · rw [if_neg (by omega), if_neg (by omega), if_neg (by omega), if_pos rfl, b5_or, hw2 u hu, hw3 u hu]
      unfold cB arB
      cases w : seB g u with
      | false => simp
      | true =>
        rw [decide_eq_true (sl w), if_neg (by omega), if_neg (by omega), if_pos rfl, Bool.true_and, Bool.true_and, Bool.true_and, Bool.true_and, ← Bool.decide_and, ← Bool.decide_and, ← Bool.decide_or, ← Bool.decide_and, ← Bool.decide_and, ← Bool.decide_and]
        exact decide_eq_decide.mpr (by omega)
    · rw [if_neg (by omega), if_neg (by omega), if_pos rfl, hw4 u hu]
      unfold cB arB
      cases w : seB g u with
      | false => simp
      | true =>
        rw [decide_eq_true (sl w), if_neg (by omega), if_neg (by omega), if_neg (by omega), if_pos rfl, Bool.true_and, Bool.true_and, Bool.true_and, ← Bool.decide_and, ← Bool.decide_and]
        exact decide_eq_decide.mpr (by omega)
    · rw [if_neg (by omega), if_pos rfl]
      exact h8 u hu
    · rw [if_pos rfl, b5_and, b5_not hu, h1 u hu, b5_1 (by omega)]
      unfold arB
      cases w : seB g u with
      | false => simp
      | true =>
        rw [decide_eq_true (sl w), if_neg (by omega), if_neg (by omega), if_neg (by omega), if_neg (by omega), if_neg (by omega), Bool.true_and, Bool.true_and, Bool.true_and, ← decide_not]
  · rw [if_neg (by omega), if_neg (by omega), if_neg (by omega), if_neg (by omega), if_neg (by omega), if_neg (by omega)]
    exact hV t (by omega) a ha u hu
theorem la64 {l1 : Int64} {Q : rI0 → rJ0 → Prop} (hG : GA g) (hI : GI g) (eg : I 45 = g) (h1 : ∀ u, u < 64 → bits5 l1 u = seB g u) : ∀ (m s : Nat) (J : rJ0), s + m = gN g 0 * gN g 1 → AV g s J → (∀ J', (∀ b, b ≠ 51 → J' b = J b) → AV g (gN g 0 * gN g 1) J' → Q I J') → wp S (d + 3) 186 64 [some (.ref 43), some (.long l1), none, some (.int (nI s)), none, none, none, none, none, none, none, none, none] [] (wv x I J) (rV x Q) := by
  obtain ⟨z0, z1, -, -, -, -⟩ := k0c
  have h8r := hG.1
  have h8c := hG.2.1
  have hRC : gN g 0 * gN g 1 ≤ 64 := Nat.le_trans (Nat.mul_le_mul h8r h8c) (by omega)
  intro m
  induction m with
  | zero =>
    intro s J hm hV k
    have hm : s = gN g 0 * gN g 1 := by omega
    subst hm
    refine v186_43_64 ⟨by decide, by decide, fun q => absurd q ?_, fun _ => k J (fun _ _ => rfl) hV⟩
    rw [z0, z1, eg, hI.1 0 (by omega), hI.1 1 (by omega), nI_mu]
    exact nI_nlt (Nat.le_refl _) (by omega)
  | succ m ih =>
    intro s J hm hV k
    have hs : s < gN g 0 * gN g 1 := by omega
    obtain ⟨hc, hr, hmd⟩ := seC2 hs
    have hcs : s / gN g 1 * gN g 1 ≤ s := Nat.div_mul_le_self s _
    have tC : (nI (gN g 1)).toInt = (gN g 1 : Int) := nI_toInt (by omega)
    have ts : (nI s).toInt = (s : Int) := nI_toInt (by omega)
    have dv := i_div ts tC (by omega) (by omega)
    have rm := i_rem ts tC (by omega) (by omega)
    have e1 : nI s / nI (gN g 1) = nI (s / gN g 1) := by
      rw [← Int32.toInt_inj, dv.1, nI_toInt (by omega)]
      exact (Int.natCast_ediv s (gN g 1)).symm
    have e2 : nI s - nI s / nI (gN g 1) * nI (gN g 1) = nI (s % gN g 1) := by
      have q1 : ((s / gN g 1 : Nat) : Int) = (s : Int) / (gN g 1 : Int) := Int.natCast_ediv s (gN g 1)
      have q2 := Nat.div_add_mod s (gN g 1)
      have q3 : ((gN g 1 * (s / gN g 1) + s % gN g 1 : Nat) : Int) = (s : Int) := congrArg _ q2
      rw [Int.natCast_add, Int.natCast_mul, q1, Int.mul_comm] at q3
      rw [← Int32.toInt_inj, rm.2.2, nI_toInt (by omega)]
      omega
    have n0 : ¬ nI (gN g 1) = 0 := fun z => absurd (nI_ij (b := 0) (by omega) (by omega) z) (by omega)
    have K64 : ∀ J', (∀ b, b ≠ 51 → J' b = J b) → AV g (s + 1) J' → wp S (d + 3) 186 64 [some (.ref 43), some (.long l1), none, some (.int (nI (s + 1))), none, none, none, none, none, none, none, none, none] [] (wv x I J') (rV x Q) := fun J' f hV' => ih (s + 1) J' (by omega) hV' (fun J2 f2 hV2 => k J2 (fun b hb => (f2 b hb).trans (f b hb)) hV2)
    refine v186_43_64 ⟨by decide, by decide, fun _ => ⟨by decide, ?_⟩, fun q => absurd ?_ q⟩
    · rw [z1, eg, hI.1 1 (by omega), e2, e1]
      refine ⟨n0, by decide, n0, ?_⟩
      refine la107 hG hI eg hs (fun l6 h6 => ?_) 9 0 0 rfl (fun u hu => ?_)
      · have seen : ∀ (kk m : Nat) (l8 : Int64), kk + m = 4 → 1 ≤ kk → (∀ u, u < 64 → bits5 l8 u = (seB g u && decide (u / gN g 1 + 1 ≤ s / gN g 1 ∧ s / gN g 1 < u / gN g 1 + kk ∧ u % gN g 1 + u / gN g 1 ≤ s % gN g 1 + s / gN g 1 ∧ s % gN g 1 + u / gN g 1 ≤ u % gN g 1 + s / gN g 1))) → ((1 ≤ s / gN g 1 → seB g (s - gN g 1) = true)) → wp S (d + 3) 186 190 [some (.ref 43), some (.long l1), none, some (.int (nI s)), some (.int (nI (s / gN g 1))), some (.int (nI (s % gN g 1))), some (.long l6), none, some (.long l8), none, some (.int (0 : Int32)), some (.int (nI kk)), none] [] (wv x I J) (rV x Q) := by
          intro kk m
          induction m generalizing kk with
          | zero =>
            intro l8 hk k1 h8 hp
            have hk : kk = 4 := by omega
            subst hk
            refine v186_43_190 ⟨fun q => absurd q (nI_nlt (b := 4) (by omega) (by omega)), fun _ => la244 hG hI eg hs h1 h6 (fun u hu => ?_) hV K64⟩
            rw [h8 u hu]
            unfold arB
            cases w : seB g u with
            | false => simp
            | true =>
              rw [decide_eq_true (hG.2.2.2.2.1 u w).1, if_neg (by omega), if_neg (by omega), if_neg (by omega), if_neg (by omega), if_pos rfl, Bool.true_and, Bool.true_and, Bool.true_and]
              by_cases y : 1 ≤ s / gN g 1
              · rw [hp y, decide_eq_true y, Bool.true_and, Bool.true_and, ← Bool.decide_and, ← Bool.decide_and, ← Bool.decide_and]
                exact decide_eq_decide.mpr (by omega)
              · rw [decide_eq_false y, Bool.false_and, Bool.false_and]
                have n3 : (0 : Int) ≤ ((u / gN g 1 : Nat) : Int) := Int.natCast_nonneg _
                exact decide_eq_false (by omega)
          | succ m ih2 =>
            intro l8 hk k1 h8 hp
            refine v186_43_190 ⟨fun _ => ⟨fun _ => ?_, fun y => absurd rfl y⟩, fun q => absurd (nI_lt (b := 4) (by omega) (by omega)) q⟩
            have en : -nI kk = nI 0 - nI kk := by
              rw [← Int32.toInt_inj, i_neg (nI_toInt (by omega)) (by omega), i_sub (nI_toInt (show 0 < 2 ^ 31 by omega)) (nI_toInt (by omega)) (by omega)]
              omega
            rw [en]
            refine la206 hG hI eg hs k1 (by omega) (fun l8' h8' => ih2 (kk + 1) l8' (by omega) (by omega) (fun u hu => ?_) hp) (2 * kk + 1) 0 l8 (by omega) (fun u hu => ?_)
            · rw [h8' u hu]
              congr 1
              exact decide_eq_decide.mpr (by omega)
            · rw [h8 u hu]
              congr 1
              exact decide_eq_decide.mpr (by omega)
        have s0 : ∀ u, u < 64 → bits5 0 u = (seB g u && decide (u / gN g 1 + 1 ≤ s / gN g 1 ∧ s / gN g 1 < u / gN g 1 + 1 ∧ u % gN g 1 + u / gN g 1 ≤ s % gN g 1 + s / gN g 1 ∧ s % gN g 1 + u / gN g 1 ≤ u % gN g 1 + s / gN g 1)) := by
          intro u hu
          rw [b5_0, decide_eq_false (by omega), Bool.and_false]
        refine v186_43_107 ⟨fun q => absurd q (nI_nlt (b := 9) (by omega) (by omega)), fun _ => ⟨fun q => ⟨by decide, ?_⟩, fun q => seen 1 3 0 rfl (by omega) s0 (fun y => absurd (nI_lt (a := 0) y (by omega)) q)⟩⟩
        have q : 0 < s / gN g 1 := (nI_ltI (a := 0) (by omega) (by omega)).mp q
        have hge : gN g 1 ≤ s := by
          have : 1 * gN g 1 ≤ s / gN g 1 * gN g 1 := Nat.mul_le_mul_right _ q
          omega
        have ei : ((6 : Int32) + nI s) - nI (gN g 1) = nI (6 + (s - gN g 1)) := by
          rw [← Int32.toInt_inj, i_sub (a := (6 : Int32) + nI s) (A := ((6 + s : Nat) : Int)) (by show (nI 6 + nI s).toInt = _; rw [nI_add, nI_toInt (by omega)]) tC (by omega), nI_toInt (by omega)]
          omega
        obtain ⟨k1, k2⟩ := hI.2.1 (s - gN g 1) (by omega)
        rw [z1, eg, hI.1 1 (by omega), ei, nI_clamp (by omega), k1]
        refine ⟨nI_in (by omega) (by omega), fun y => ?_, fun y => seen 1 3 0 rfl (by omega) s0 (fun _ => ?_)⟩
        · have y : gN g (6 + (s - gN g 1)) = 0 := nI_ij (b := 0) (by omega) (by omega) y
          refine v186_43_190 ⟨fun _ => ⟨fun w => absurd w (by decide), fun _ => la244 hG hI eg hs h1 h6 (fun u hu => ?_) hV K64⟩, fun w => absurd (nI_lt (a := 1) (b := 4) (by omega) (by omega)) w⟩
          rw [b5_0]
          unfold arB
          have ns : seB g (s - gN g 1) = false := by
            unfold seB
            rw [decide_eq_true (show s - gN g 1 < 64 by omega), Bool.true_and]
            refine decide_eq_false (fun w => ?_)
            have y : (g (6 + (s - gN g 1))).toInt.toNat = 0 := y
            omega
          rw [if_neg (by omega), if_neg (by omega), if_neg (by omega), if_neg (by omega), if_pos rfl, ns]
          simp
        · have y : gN g (6 + (s - gN g 1)) ≠ 0 := fun w => y (by rw [w]; rfl)
          unfold seB
          rw [decide_eq_true (show s - gN g 1 < 64 by omega), Bool.true_and]
          refine decide_eq_true ?_
          have y : ¬ (g (6 + (s - gN g 1))).toInt.toNat = 0 := y
          omega
      · rw [b5_0, decide_eq_false (by omega), Bool.and_false]
    · rw [z0, z1, eg, hI.1 0 (by omega), hI.1 1 (by omega), nI_mu]
      exact nI_lt hs (by omega)
/-- all SEATS -/
theorem la17 {Q : rI0 → rJ0 → Prop} (hG : GA g) (hI : GI g) (eg : I 45 = g) (K : ∀ l1, (∀ u, u < 64 → bits5 l1 u = seB g u) → wp S (d + 3) 186 64 [some (.ref 43), some (.long l1), none, some (.int (0 : Int32)), none, none, none, none, none, none, none, none, none] [] (wv x I J) (rV x Q)) : ∀ (m s : Nat) (l1 : Int64), s + m = gN g 0 * gN g 1 → (∀ u, u < 64 → bits5 l1 u = (decide (u < s) && seB g u)) → wp S (d + 3) 186 17 [some (.ref 43), some (.long l1), none, some (.int (nI s)), none, none, none, none, none, none, none, none, none] [] (wv x I J) (rV x Q) := by
  obtain ⟨z0, z1, -, -, -, -⟩ := k0c
  have h8r := hG.1
  have h8c := hG.2.1
  have hRC : gN g 0 * gN g 1 ≤ 64 := Nat.le_trans (Nat.mul_le_mul h8r h8c) (by omega)
  have l0 : (0 : Int32).toInt = 0 := by decide
  intro m
  induction m with
  | zero =>
    intro s l1 hm h
    have hm : s = gN g 0 * gN g 1 := by omega
    refine v186_43_17 ⟨by decide, by decide, fun q => absurd q ?_, fun _ => K l1 (fun u hu => ?_)⟩
    · rw [z0, z1, eg, hI.1 0 (by omega), hI.1 1 (by omega), nI_mu]
      exact nI_nlt (by omega) (by omega)
    · rw [h u hu]
      cases w : seB g u with
      | false => rw [Bool.and_false]
      | true => rw [decide_eq_true (by rw [hm]; exact (hG.2.2.2.2.1 u w).1), Bool.true_and]
  | succ m ih =>
    intro s l1 hm h
    have i6 : ((6 : Int32) + nI s).toNatClampNeg = 6 + s := by
      show (nI 6 + nI s).toNatClampNeg = _
      rw [nI_add, nI_clamp (by omega)]
    refine v186_43_17 ⟨by decide, by decide, fun _ => ⟨?_, ?_⟩, fun q => absurd ?_ q⟩
    · show ¬ mOut (nI 6 + nI s) 681
      rw [nI_add]
      exact nI_in (by omega) (by omega)
    · rw [i6, eg, ← nI_succ]
      refine ⟨fun q => ih (s + 1) _ (by omega) (put1 (A := fun u => seB g u) h (bit1 (by omega) ?_)), fun q => ih (s + 1) _ (by omega) (put1 (A := fun u => seB g u) h (bit0 ?_))⟩
      · have q := i_lt q
        show seB g s = true
        unfold seB
        rw [decide_eq_true (show s < 64 by omega), decide_eq_true (by omega)]
        rfl
      · have q := i_nlt q
        show seB g s = false
        unfold seB
        rw [decide_eq_false (show ¬ 0 < (g (6 + s)).toInt by omega), Bool.and_false]
    · rw [z0, z1, eg, hI.1 0 (by omega), hI.1 1 (by omega), nI_mu]
      exact nI_lt (by omega) (by omega)
/-- layOut: behind it the areas are laid -/
theorem lay {Q : rI0 → rJ0 → Prop} (hG : GA g) (hI : GI g) (eg : I 45 = g) (hA : I 43 30 = 0 → AR g J) (k : ∀ I' J', (∀ b, b ≠ 43 → I' b = I b) → (∀ q, q ≠ 30 → I' 43 q = I 43 q) → I' 43 30 = 0 → (∀ b, b ≠ 51 → J' b = J b) → AR g J' → Q I' J') : wcV S (d + 3) 186 [.ref 43] x I J Q := by
  refine c186_43 ⟨fun z => k I J (fun _ _ => rfl) (fun _ _ => rfl) z (fun _ _ => rfl) (hA z), fun _ => ?_⟩
  have eg2 : (mSet I 43 30 0) 45 = g := (mSet_ne (by decide)).trans eg
  refine la17 (I := mSet I 43 30 0) hG hI eg2 (fun l1 h1 => la64 (I := mSet I 43 30 0) hG hI eg2 h1 (gN g 0 * gN g 1) 0 J (by omega) (fun s hs => absurd hs (by omega)) (fun J' f hV => k _ _ (fun b hb => mSet_ne hb) (fun q hq => ?_) rfl f (fun s hs a ha u hu => hV s (hG.2.2.2.2.1 s hs).1 a ha u hu))) (gN g 0 * gN g 1) 0 0 (by omega) (fun u hu => ?_)
  · show mSet I 43 30 _ 43 q = _
    unfold mSet va_up
    rw [if_pos rfl, if_neg hq]
  · rw [b5_0, decide_eq_false (show ¬ u < 0 by omega), Bool.false_and]
/-- what a night of the reference leaves as it was -/
def FN (I : rI0) (J : rJ0) (I' : rI0) (J' : rJ0) : Prop := (∀ b, b ≠ 43 → b ≠ 50 → I' b = I b) ∧ (∀ q, q ≠ 30 → q ≠ 42 → q ≠ 43 → I' 43 q = I 43 q) ∧ (∀ b, b ≠ 43 → ¬ (51 ≤ b ∧ b ≤ 55) → J' b = J b) ∧ ∀ q, ¬ (36 ≤ q ∧ q ≤ 41) → J' 43 q = J 43 q
theorem FN.rf : FN I J I J := ⟨fun _ _ _ => rfl, fun _ _ _ _ => rfl, fun _ _ _ => rfl, fun _ _ => rfl⟩
theorem FN.tr {I1 I2 : rI0} {J1 J2 : rJ0} (h : FN I J I1 J1) (h2 : FN I1 J1 I2 J2) : FN I J I2 J2 := ⟨fun b h3 h4 => (h2.1 b h3 h4).trans (h.1 b h3 h4), fun q h3 h4 h5 => (h2.2.1 q h3 h4 h5).trans (h.2.1 q h3 h4 h5), fun b h3 h4 => (h2.2.2.1 b h3 h4).trans (h.2.2.1 b h3 h4), fun q h3 => (h2.2.2.2 q h3).trans (h.2.2.2 q h3)⟩
theorem FM.n {I1 : rI0} {J1 : rJ0} (h : FM I J I1 J1) : FN I J I1 J1 := ⟨h.1, fun q _ h4 h5 => h.2.1 q h4 h5, fun b h1 h2 => h.2.2.1 b h1 (by omega), h.2.2.2⟩
/-- the reference's house is that of g -/
def RH (g : Nat → Int32) (W : Nat → lV) (I : rI0) (J : rJ0) : Prop := GA g ∧ GI g ∧ HW g ∧ LR g W ∧ I 45 = g ∧ (I 43 30 = 0 → AR g J)
/-- begin -/
theorem rbe {p1 p2 : Int64} {Q : rI0 → rJ0 → Prop} (h : RH g W I J) (e1 : ∀ s, s < 64 → bits5 p1 s = P s) (e2 : ∀ s, s < 64 → bits5 p2 s = H s) (k : ∀ I' J', FN I J I' J' → I' 43 30 = 0 → AR g J' → RSn g W P H 0 I' J' → Q I' J') : wcV S (d + 4) 199 [.ref 43, .long p1, .long p2] x I J Q := by
  obtain ⟨hG, hI, hW, hL, eg, hA⟩ := h
  refine c199_43 (lay (d := d) hG hI eg hA (fun I1 J1 f1 f2 f3 f4 a1 => ?_))
  refine k _ _ ⟨fun b h1 h2 => by rw [mSet_ne h1, mSet_ne h1, f1 b h1], fun q h1 h2 h3 => ?_, fun b h1 h2 => by rw [mSet_ne h1, mSet_ne h1, mSet_ne h1, mSet_ne h1, mSet_ne h1, mSet_ne h1, f4 b (by omega)], fun q hq => ?_⟩ ?_ ?_ ⟨rfl, rfl, fun s hs => e1 s hs, fun s hs => e2 s hs, fun s hs => ⟨b5_0, b5_0, b5_0, b5_0⟩⟩
  · show mSet (mSet I1 43 42 _) 43 43 _ 43 q = _
    unfold mSet va_up
    rw [if_pos rfl, if_neg h3, if_pos rfl, if_neg h2, f2 q h1]
  · show mSet (mSet (mSet (mSet (mSet (mSet J1 43 36 _) 43 37 _) 43 38 _) 43 39 _) 43 40 _) 43 41 _ 43 q = _
    unfold mSet va_up
    rw [if_pos rfl, if_neg (by omega), if_pos rfl, if_neg (by omega), if_pos rfl, if_neg (by omega), if_pos rfl, if_neg (by omega), if_pos rfl, if_neg (by omega), if_pos rfl, if_neg (by omega), f4 43 (by decide)]
  · show mSet (mSet I1 43 42 _) 43 43 _ 43 30 = 0
    exact f3
  · unfold AR at *
    rw [mSet_ne (by decide), mSet_ne (by decide), mSet_ne (by decide), mSet_ne (by decide), mSet_ne (by decide), mSet_ne (by decide)]
    exact a1
/-- the rows of the moments up to t -/
def RA (g : Nat → Int32) (W : Nat → lV) (P H : Nat → Bool) (t : Nat) (J : rJ0) : Prop := ∀ u, u < t → ∀ s, s < 64 → bits5 (J 52 u) s = decide (1 ≤ (nt g W P H u).1 s) ∧ bits5 (J 53 u) s = decide (2 ≤ (nt g W P H u).1 s) ∧ bits5 (J 54 u) s = decide ((nt g W P H u).2 s % 2 = 1) ∧ bits5 (J 55 u) s = decide (2 ≤ (nt g W P H u).2 s)
/-- the reference within a night -/
def RN (g : Nat → Int32) (W : Nat → lV) (P H : Nat → Bool) (t : Nat) (I : rI0) (J : rJ0) : Prop := GA g ∧ GI g ∧ HW g ∧ LR g W ∧ I 45 = g ∧ I 43 30 = 0 ∧ AR g J ∧ RSn g W P H t I J ∧ RA g W P H t J
theorem RN.h {t : Nat} (h : RN g W P H t I J) : RH g W I J := ⟨h.1, h.2.1, h.2.2.1, h.2.2.2.1, h.2.2.2.2.1, fun _ => h.2.2.2.2.2.2.1⟩
theorem rbg {p1 p2 : Int64} {Q : rI0 → rJ0 → Prop} (h : RH g W I J) (e1 : ∀ s, s < 64 → bits5 p1 s = P s) (e2 : ∀ s, s < 64 → bits5 p2 s = H s) (k : ∀ I' J', FN I J I' J' → RN g W P H 0 I' J' → Q I' J') : wcV S (d + 4) 199 [.ref 43, .long p1, .long p2] x I J Q := rbe h e1 e2 (fun I' J' f f30 a r => k I' J' f ⟨h.1, h.2.1, h.2.2.1, h.2.2.2.1, (f.1 45 (by decide) (by decide)).trans h.2.2.2.2.1, f30, a, r, fun u hu => absurd hu (by omega)⟩)
theorem rmo {t : Nat} {Q : rI0 → rJ0 → Prop} (h : RN g W P H t I J) (ht : t ≤ 600) (k : ∀ I' J', FN I J I' J' → RN g W P H (t + 1) I' J' → Q I' J') : wcV S (d + 3) 200 [.ref 43] x I J Q := by
  obtain ⟨hG, hI, hW, hL, eg, f30, hA, hR, hN⟩ := h
  refine mom hG hI hW hL hA ht eg hR (fun I' J' f r a o => k I' J' f.n ⟨hG, hI, hW, hL, (f.1 45 (by decide) (by decide)).trans eg, (f.2.1 30 (by decide) (by decide)).trans f30, ?_, r, fun u hu s hs => ?_⟩)
  · unfold AR at *
    rw [f.2.2.1 51 (by decide) (by decide)]
    exact hA
  · by_cases z : u = t
    · rw [z]
      exact a s hs
    · obtain ⟨o1, o2, o3, o4⟩ := o u z
      rw [o1, o2, o3, o4]
      exact hN u (by omega) s hs
/-- on to t -/
theorem rgo {t : Nat} {Q : rI0 → rJ0 → Prop} (ht : t ≤ 600) : ∀ (m u : Nat) (I : rI0) (J : rJ0), u + m = t + 1 → RN g W P H u I J → (∀ I' J', FN I J I' J' → RN g W P H (t + 1) I' J' → Q I' J') → wp S (d + 4) 201 12 [some (.ref 43), some (.int (nI t))] [] (wv x I J) (rV x Q) := by
  intro m
  induction m with
  | zero =>
    intro u I J hu h k
    have hu : u = t + 1 := by omega
    subst hu
    exact v201_43_12 ⟨fun _ => k I J FN.rf h, fun q => absurd (by rw [h.2.2.2.2.2.2.2.1.1]; exact nI_lt (by omega) (by omega)) q⟩
  | succ m ih =>
    intro u I J hu h k
    exact v201_43_12 (d := d + 3) ⟨fun q => absurd q (by rw [h.2.2.2.2.2.2.2.1.1]; exact nI_nlt (by omega) (by omega)), fun _ => rmo (d := d) h (by omega) (fun I1 J1 f h1 => ih (u + 1) I1 J1 (by omega) h1 (fun I2 J2 f2 h2 => k I2 J2 (f.tr f2) h2))⟩
/-- night -/
theorem rnt {t : Nat} {Q : rI0 → rJ0 → Prop} (h : RH g W I J) (ht : t ≤ 600) (e1 : ∀ s, s < 64 → bits5 (J 43 16) s = P s) (e2 : ∀ s, s < 64 → bits5 (J 43 17) s = H s) (k : ∀ I' J', FN I J I' J' → RN g W P H (t + 1) I' J' → Q I' J') : wcV S (d + 5) 201 [.ref 43, .int (nI t)] x I J Q := c201_43 (rbg (d := d) h e1 e2 (fun I1 J1 f h1 => rgo (d := d + 1) ht (t + 1) 0 I1 J1 (by omega) h1 (fun I2 J2 f2 h2 => k I2 J2 (f.tr f2) h2)))
/-- what a height leaves as it was -/
def FH (I : rI0) (J : rJ0) (I' : rI0) (J' : rJ0) : Prop := (∀ b, b ≠ 43 → b ≠ 50 → I' b = I b) ∧ (∀ q, q ≠ 30 → ¬ (42 ≤ q ∧ q ≤ 45) → I' 43 q = I 43 q) ∧ (∀ b, b ≠ 43 → ¬ (51 ≤ b ∧ b ≤ 55) → J' b = J b) ∧ ∀ q, ¬ (36 ≤ q ∧ q ≤ 41) → J' 43 q = J 43 q
theorem FH.rf : FH I J I J := ⟨fun _ _ _ => rfl, fun _ _ _ => rfl, fun _ _ _ => rfl, fun _ _ => rfl⟩
theorem FH.tr {I1 I2 : rI0} {J1 J2 : rJ0} (h : FH I J I1 J1) (h2 : FH I1 J1 I2 J2) : FH I J I2 J2 := ⟨fun b h3 h4 => (h2.1 b h3 h4).trans (h.1 b h3 h4), fun q h3 h4 => (h2.2.1 q h3 h4).trans (h.2.1 q h3 h4), fun b h3 h4 => (h2.2.2.1 b h3 h4).trans (h.2.2.1 b h3 h4), fun q h3 => (h2.2.2.2 q h3).trans (h.2.2.2 q h3)⟩
theorem FN.h {I1 : rI0} {J1 : rJ0} (h : FN I J I1 J1) : FH I J I1 J1 := ⟨h.1, fun q h1 h2 => h.2.1 q h1 (by omega) (by omega), h.2.2.1, h.2.2.2⟩
theorem RN.i {t q : Nat} {v : Int32} (h : RN g W P H t I J) (hq : q = 44 ∨ q = 45) : RN g W P H t (mSet I 43 q v) J := by
  obtain ⟨hG, hI, hW, hL, eg, f30, hA, ⟨r1, r2, r3⟩, hN⟩ := h
  have e : ∀ k, k ≠ q → mSet I 43 q v 43 k = I 43 k := by
    intro k hk
    unfold mSet va_up
    rw [if_pos rfl, if_neg hk]
  exact ⟨hG, hI, hW, hL, (mSet_ne (by decide)).trans eg, (e 30 (by omega)).trans f30, hA, ⟨(e 42 (by omega)).trans r1, (e 43 (by omega)).trans r2, r3⟩, hN⟩
theorem FH.i {I1 : rI0} {J1 : rJ0} {q : Nat} {v : Int32} (h : FH I J I1 J1) (hq : q = 44 ∨ q = 45) : FH I J (mSet I1 43 q v) J1 := by
  refine ⟨fun b h1 h2 => (mSet_ne h1).trans (h.1 b h1 h2), fun k h1 h2 => ?_, h.2.2.1, h.2.2.2⟩
  show mSet I1 43 q v 43 k = _
  unfold mSet va_up
  rw [if_pos rfl, if_neg (by omega)]
  exact h.2.1 k h1 h2
theorem pcR {N hd : Nat → Nat} (h : RP J N hd) : pc (J 43 39) = nb (fun s => decide (2 ≤ N s)) 64 := nb_cg 64 (fun s hs => (h s hs).2.1)
theorem pcR1 {N hd : Nat → Nat} (h : RP J N hd) : pc (J 43 38) = nb (fun s => decide (1 ≤ N s)) 64 := nb_cg 64 (fun s hs => (h s hs).1)
/-- up to u moments -/
def hgP (g : Nat → Int32) (W : Nat → lV) (P H : Nat → Bool) : Nat → Nat
  | 0 => 0
  | u + 1 => hgt g W P H u
theorem hgP_l {u : Nat} : hgP g W P H u ≤ 64 := by
  cases u with
  | zero => exact Nat.zero_le _
  | succ u => exact hgt_l
theorem hgP_s {u : Nat} : hgP g W P H (u + 1) = if hgP g W P H u < stP g W P H u then stP g W P H u else hgP g W P H u := by
  cases u with
  | zero =>
    show stP g W P H 0 = if 0 < stP g W P H 0 then stP g W P H 0 else 0
    split <;> omega
  | succ u => rfl
/-- height -/
theorem rht {p1 p2 : Int64} {Q : Int32 → rI0 → rJ0 → Prop} (h : RH g W I J) (h3 : gN g 3 ≤ 64) (e1 : ∀ s, s < 64 → bits5 p1 s = P s) (e2 : ∀ s, s < 64 → bits5 p2 s = H s) (k : ∀ I' J', FH I J I' J' → RN g W P H 61 I' J' → I' 43 44 = nI (hgt g W P H 60) → I' 43 45 = nI (if gN g 3 ≤ hgt g W P H 60 then 1 else 0) → Q (nI (hgt g W P H 60)) I' J') : wcI S (d + 5) 202 [.ref 43, .long p1, .long p2] x I J Q := by
  obtain ⟨-, -, -, -, -, z3⟩ := k0c
  have lp : ∀ (m u : Nat) (I1 : rI0) (J1 : rJ0), u + m = 61 → FH I J I1 J1 → RN g W P H u I1 J1 → I1 43 44 = nI (hgP g W P H u) → wp S (d + 5) 202 11 [some (.ref 43), some (.long p1), none, some (.long p2), none, none] [] (wv x I1 J1) (rI x Q) := by
    intro m
    induction m with
    | zero =>
      intro u I1 J1 hu f h1 h44
      have hu : u = 61 := by omega
      subst hu
      have hl := hgt_l (g := g) (W := W) (P := P) (H := H) (t := 60)
      have h44 : I1 43 44 = nI (hgt g W P H 60) := h44
      refine v202_43_11 ⟨fun _ => ⟨by decide, ?_⟩, fun q => absurd (by rw [h1.2.2.2.2.2.2.2.1.1]; exact nI_lt (a := 60) (by omega) (by omega)) q⟩
      rw [z3, h1.2.2.2.2.1, h1.2.1.1 3 (by omega), h44]
      refine ⟨fun q => k _ _ (f.i (Or.inr rfl)) (h1.i (Or.inr rfl)) h44 ?_, fun q => k _ _ (f.i (Or.inr rfl)) (h1.i (Or.inr rfl)) h44 ?_⟩
      · have q := (nI_ltI (by omega) (by omega)).mp q
        rw [if_neg (by omega)]
        rfl
      · have q : ¬ hgt g W P H 60 < gN g 3 := fun z => q (nI_lt z (by omega))
        rw [if_pos (by omega)]
        rfl
    | succ m ih =>
      intro u I1 J1 hu f h1 h44
      have hl := hgP_l (g := g) (W := W) (P := P) (H := H) (u := u)
      have hs : stP g W P H u ≤ 64 := nb_le 64
      refine v202_43_11 (d := d + 4) ⟨fun q => absurd q (by rw [h1.2.2.2.2.2.2.2.1.1]; exact nI_nlt (a := 60) (by omega) (by omega)), fun _ => rmo (d := d + 1) h1 (by omega) (fun I2 J2 f2 h2 => rbX ?_)⟩
      have e44 : I2 43 44 = nI (hgP g W P H u) := (f2.2.1 44 (by decide) (by decide) (by decide)).trans h44
      have ep : pc (J2 43 39) = stP g W P H u := pcR h2.2.2.2.2.2.2.2.1.2.2.2.2
      rw [ep, e44]
      refine ⟨fun q => ih (u + 1) _ _ (by omega) ((f.tr f2.h).i (Or.inl rfl)) (h2.i (Or.inl rfl)) ?_, fun q => ih (u + 1) _ _ (by omega) ((f.tr f2.h).i (Or.inl rfl)) (h2.i (Or.inl rfl)) ?_⟩
      · have q := (nI_ltI (by omega) (by omega)).mp q
        rw [hgP_s, if_pos q]
        rfl
      · have q : ¬ hgP g W P H u < stP g W P H u := fun z => q (nI_lt z (by omega))
        rw [hgP_s, if_neg q]
        rfl
  refine c202_43 (rbg (d := d) h e1 e2 (fun I1 J1 f h1 => lp 61 0 _ _ (by omega) (f.h.i (Or.inl rfl)) (h1.i (Or.inl rfl)) rfl))
end RB0
