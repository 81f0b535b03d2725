section
/-! trials: worthOf -/
section TR6
/-- what was told of the worths: n hands, what each adds -/
def WR (n : Nat) (a : Nat → Int) (I : rI0) (J : rJ0) : Prop := n ≤ 8 ∧ I 37 7 = nI n ∧ I 43 52 = nI n ∧ (∀ i, i < n → -82575360 ≤ a i ∧ a i ≤ 82575360 ∧ I 40 i = Int32.ofInt (a i) ∧ J 59 i = Int64.ofInt (a i)) ∧ (n = 0 ∨ J 43 53 = Int64.ofNat (faN n))
def wofV (n : Nat) (a : Nat → Int) (i : Nat) (what : Int32) : Int32 := if what = 0 then Int32.ofInt ((a i).tdiv (Nat.gcd (faN n) (a i).natAbs : Nat)) else nI (faN n / Nat.gcd (faN n) (a i).natAbs)
def wofB (n : Nat) (p1 p2 : Int32) : Bool := decide (p1.toInt < 0 ∨ (n : Int) ≤ p1.toInt ∨ p2.toInt < 0 ∨ 1 < p2.toInt)
theorem oi32 {v : Int} (h1 : -1000000000 ≤ v) (h2 : v ≤ 1000000000) : (Int32.ofInt v).toInt = v := by
  rw [Int32.toInt_ofInt]
  exact Int.bmod_eq_of_le (by show -((4294967296 : Int) / 2) ≤ v; omega) (by show v < ((4294967296 : Int) + 1) / 2; omega)
theorem oi64 {v : Int} (h1 : -1000000000 ≤ v) (h2 : v ≤ 1000000000) : (Int64.ofInt v).toInt = v := by
  rw [Int64.toInt_ofInt]
  exact Int.bmod_eq_of_le (by show -((18446744073709551616 : Int) / 2) ≤ v; omega) (by show v < ((18446744073709551616 : Int) + 1) / 2; omega)
theorem on64 {v : Nat} (h : v ≤ 1000000000) : (Int64.ofNat v).toInt = (v : Int) := by
  rw [← Int64.ofInt_eq_ofNat]
  exact oi64 (by omega) (by omega)
theorem dv32 {v : Int} {q : Nat} (h1 : -1000000000 ≤ v) (h2 : v ≤ 1000000000) (hq : q ≤ 1000000000) : Int32.ofInt v / nI q = Int32.ofInt (v.tdiv (q : Int)) := by
  have b := Int.natAbs_tdiv_le_natAbs v (q : Int)
  rw [← Int32.toInt_inj, Int32.toInt_div, oi32 h1 h2, nI_toInt (by omega), oi32 (by omega) (by omega)]
  exact Int.bmod_eq_of_le (by show -((4294967296 : Int) / 2) ≤ _; omega) (by show _ < ((4294967296 : Int) + 1) / 2; omega)
theorem dv64 {v : Int} {q : Nat} (h1 : -1000000000 ≤ v) (h2 : v ≤ 1000000000) (hq : q ≤ 1000000000) : Int64.ofInt v / Int64.ofNat q = Int64.ofInt (v.tdiv (q : Int)) := by
  have b := Int.natAbs_tdiv_le_natAbs v (q : Int)
  rw [← Int64.toInt_inj, Int64.toInt_div, oi64 h1 h2, on64 hq, oi64 (by omega) (by omega)]
  exact Int.bmod_eq_of_le (by show -((18446744073709551616 : Int) / 2) ≤ _; omega) (by show _ < ((18446744073709551616 : Int) + 1) / 2; omega)
theorem to32 {v : Int} (h1 : -1000000000 ≤ v) (h2 : v ≤ 1000000000) : (Int64.ofInt v).toInt32 = Int32.ofInt v := by
  rw [← Int32.toInt_inj, Int64.toInt_toInt32, oi64 h1 h2, oi32 h1 h2]
  exact Int.bmod_eq_of_le (by show -((4294967296 : Int) / 2) ≤ _; omega) (by show _ < ((4294967296 : Int) + 1) / 2; omega)
theorem dn32 {p q : Nat} (hp : p ≤ 1000000000) (hq : q ≤ 1000000000) : nI p / nI q = nI (p / q) := by
  rw [nI_oi p, dv32 (by omega) (by omega) hq, ← Int.ofNat_tdiv, ← nI_oi]
theorem dn64 {p q : Nat} (hp : p ≤ 1000000000) (hq : q ≤ 1000000000) : Int64.ofNat p / Int64.ofNat q = Int64.ofNat (p / q) := by
  rw [← Int64.ofInt_eq_ofNat (n := p), dv64 (by omega) (by omega) hq, ← Int.ofNat_tdiv, Int64.ofInt_eq_ofNat]
theorem md32 {p q : Nat} (hp : p ≤ 1000000000) (hq : q ≤ 1000000000) : nI p - nI p / nI q * nI q = nI (p % q) := by
  rw [dn32 hp hq, nI_mu]
  have e := Nat.mod_add_div p q
  have c : p / q * q = q * (p / q) := Nat.mul_comm _ _
  rw [← Int32.toInt_inj, i_sub (nI_toInt (by omega)) (nI_toInt (by omega)) (by omega), nI_toInt (by omega)]
  omega
theorem md64 {p q : Nat} (hp : p ≤ 1000000000) (hq : q ≤ 1000000000) : Int64.ofNat p - Int64.ofNat p / Int64.ofNat q * Int64.ofNat q = Int64.ofNat (p % q) := by
  rw [dn64 hp hq, ← Int64.ofNat_mul]
  have e := Nat.mod_add_div p q
  have c : p / q * q = q * (p / q) := Nat.mul_comm _ _
  have e2 : Int64.ofNat p = Int64.ofNat (p % q) + Int64.ofNat (p / q * q) := by
    rw [← Int64.ofNat_add, c, e]
  rw [e2, Int64.add_sub_cancel]
theorem lg_n {v : Int64} : lg_cmp v 0 < 0 ↔ v.toInt < 0 := by
  have e0 : (0 : Int64).toInt = 0 := by decide
  unfold lg_cmp
  split
  · rename_i h
    have h : (0 : Int64) < v := h
    rw [Int64.lt_iff_toInt_lt, e0] at h
    exact iff_of_false (by decide) (by omega)
  · rename_i h
    have h : ¬ (0 : Int64) < v := h
    rw [Int64.lt_iff_toInt_lt, e0] at h
    split
    · rename_i h2
      rw [h2, e0]
      exact iff_of_false (by decide) (by omega)
    · rename_i h2
      refine iff_of_true (by decide) ?_
      have : v.toInt ≠ 0 := fun z => h2 (Int64.toInt_inj.mp (by rw [z, e0]))
      omega
theorem on_0 {y : Nat} (h : y ≤ 1000000000) : Int64.ofNat y = 0 ↔ y = 0 := by
  constructor
  · intro z
    have := congrArg Int64.toInt z
    rw [on64 h] at this
    have e0 : (0 : Int64).toInt = 0 := by decide
    omega
  · intro z
    rw [z]
    rfl
theorem gcd_s {p q : Nat} : Nat.gcd p q = Nat.gcd q (p % q) := by
  rw [Nat.gcd_comm p q, Nat.gcd_rec, Nat.gcd_comm]
variable {S : Nat × (Nat → Int32)} {d : Nat} {x : mX} {I : rI0} {J : rJ0}
/-- the class: commonDivisor -/
theorem c91x {o y : Nat} {Q : Int32 → rI0 → rJ0 → Prop} (ho : o ≤ 1000000000) (hy : y < 2 ^ 27) (k : Q (nI (Nat.gcd o y)) I J) : wcI S d 91 [.ref 37, .int (nI o), .int (nI y)] x I J Q := by
  have out : ∀ (l1 l2 : Int32) (p r : Nat), Q (nI p) I J → wp S d 91 8 [some (.ref 37), some (.int l1), some (.int l2), some (.int (nI p)), some (.int (nI 0)), some (.int (nI r)), none] [] (wv x I J) (rI x Q) := by
    intro l1 l2 p r c
    exact v91_37_8 ⟨fun _ => ⟨fun q => absurd q (by decide), fun _ => c⟩, fun _ => c⟩
  have one : ∀ (l1 l2 : Int32) (p q r : Nat), p ≤ 1000000000 → q ≤ 1000000000 → 0 < q → r < 64 → wp S d 91 8 [some (.ref 37), some (.int l1), some (.int l2), some (.int (nI q)), some (.int (nI (p % q))), some (.int (nI (r + 1))), none] [] (wv x I J) (rI x Q) → wp S d 91 8 [some (.ref 37), some (.int l1), some (.int l2), some (.int (nI p)), some (.int (nI q)), some (.int (nI r)), none] [] (wv x I J) (rI x Q) := by
    intro l1 l2 p q r hp hq h0 hr c
    refine v91_37_8 ⟨fun _ => ⟨fun _ => ⟨fun z => ?_, ?_⟩, fun z => absurd (nI_lt (a := 0) h0 (by omega)) z⟩, fun z => absurd (nI_lt (b := 64) hr (by omega)) z⟩
    · have := nI_inj (c := 0) (by omega) (by omega) z
      omega
    · rw [md32 hp hq, ← nI_succ]
      exact c
  have lp : ∀ (l1 l2 : Int32) (kk p q r : Nat), q < 2 ^ kk → r + 2 * kk ≤ 64 → p ≤ 1000000000 → q ≤ 1000000000 → Q (nI (Nat.gcd p q)) I J → wp S d 91 8 [some (.ref 37), some (.int l1), some (.int l2), some (.int (nI p)), some (.int (nI q)), some (.int (nI r)), none] [] (wv x I J) (rI x Q) := by
    intro l1 l2 kk
    induction kk with
    | zero =>
      intro p q r hq hr hp hq2 c
      have : q = 0 := by
        have : q < 1 := hq
        omega
      subst this
      rw [Nat.gcd_zero_right] at c
      exact out l1 l2 p r c
    | succ kk ih =>
      intro p q r hq hr hp hq2 c
      by_cases z : q = 0
      · subst z
        rw [Nat.gcd_zero_right] at c
        exact out l1 l2 p r c
      · have m1 := Nat.mod_lt p (show 0 < q by omega)
        refine one l1 l2 p q r hp hq2 (by omega) (by omega) ?_
        rw [gcd_s] at c
        by_cases z2 : p % q = 0
        · rw [z2] at c ⊢
          rw [Nat.gcd_zero_right] at c
          exact out l1 l2 q (r + 1) c
        · have m2 := Nat.mod_lt q (show 0 < p % q by omega)
          refine one l1 l2 q (p % q) (r + 1) hq2 (by omega) (by omega) (by omega) ?_
          rw [gcd_s] at c
          have e := Nat.mod_add_div q (p % q)
          have g1 : p % q ≤ p % q * (q / (p % q)) := Nat.le_mul_of_pos_right _ (Nat.div_pos (by omega) (by omega))
          have pw : 2 ^ (kk + 1) = 2 * 2 ^ kk := by rw [Nat.pow_succ, Nat.mul_comm]
          exact ih (p % q) (q % (p % q)) (r + 2) (by omega) (by omega) (by omega) (by omega) c
  exact c91_37 (lp _ _ 27 o y 0 hy (by omega) ho (by omega) k)
theorem na_27 {a : Int} (h1 : -82575360 ≤ a) (h2 : a ≤ 82575360) : a.natAbs < 2 ^ 27 := by
  show a.natAbs < 134217728
  omega
theorem ab_32 {a : Int} (h1 : -82575360 ≤ a) (h2 : a ≤ 82575360) : (if 0 ≤ Int32.ofInt a then Int32.ofInt a else 0 - Int32.ofInt a) = nI a.natAbs := by
  have e := oi32 (v := a) (by omega) (by omega)
  have e0 : (0 : Int32).toInt = 0 := by decide
  split
  · rename_i h
    rw [Int32.le_iff_toInt_le, e, e0] at h
    rw [nI_oi, Int.natAbs_of_nonneg h]
  · rename_i h
    rw [Int32.le_iff_toInt_le, e, e0] at h
    rw [← Int32.toInt_inj, i_sub e0 e (by omega), nI_toInt (by omega)]
    omega
/-- the class: worthOf -/
theorem xWof {n : Nat} {a : Nat → Int} {p1 p2 : Int32} {T : mX → rI0 → rJ0 → Prop} {Q : Int32 → rI0 → rJ0 → Prop} (h : WR n a I J) (kt : wofB n p1 p2 = true → 68 + x.1.length < 1000000 ∧ T (xA x (0, 11) 6) (va_up I (68 + x.1.length) (fun _ => 0)) (va_up J (68 + x.1.length) (fun _ => 0))) (k : ∀ i, i < n → p1 = nI i → wofB n p1 p2 = false → Q (wofV n a i p2) I J) : wcT S (d + 1) 124 [.ref 0, .int p1, .int p2] x I J T Q := by
  obtain ⟨n8, e7, -, ha, -⟩ := h
  have e0 : (0 : Int32).toInt = 0 := by decide
  have e1 : (1 : Int32).toInt = 1 := by decide
  refine c124_0 ⟨fun q => kt ?_, fun q => ⟨fun q2 => ⟨fun q3 => kt ?_, fun q3 => ⟨fun q4 => kt ?_, fun q4 => ?_⟩⟩, fun q2 => kt ?_⟩⟩
  · rw [Int32.lt_iff_toInt_lt, e0] at q
    exact decide_eq_true (Or.inl q)
  · rw [Int32.lt_iff_toInt_lt, e0] at q3
    exact decide_eq_true (Or.inr (Or.inr (Or.inl q3)))
  · rw [Int32.lt_iff_toInt_lt, e1] at q4
    exact decide_eq_true (Or.inr (Or.inr (Or.inr q4)))
  · rw [Int32.lt_iff_toInt_lt, e0] at q q3
    rw [Int32.lt_iff_toInt_lt, e1] at q4
    rw [e7, Int32.lt_iff_toInt_lt, nI_toInt (by omega)] at q2
    have ep : p1 = nI p1.toInt.toNat := Int32.toInt_inj.mp (by rw [nI_toInt (by omega)]; omega)
    have hw : wofB n p1 p2 = false := decide_eq_false (by omega)
    have kk := k p1.toInt.toNat (by omega) ep hw
    obtain ⟨a1, a2, e40, -⟩ := ha p1.toInt.toNat (by omega)
    have il : p1.toInt.toNat < 8 := by omega
    revert ep kk a1 a2 e40 il
    generalize p1.toInt.toNat = i
    intro ep kk a1 a2 e40 il
    have f8 := fa_8 n (by omega)
    have g0 := Nat.gcd_pos_of_pos_left (a i).natAbs (show 0 < faN n by omega)
    have g1 := Nat.gcd_le_left (a i).natAbs (show 0 < faN n by omega)
    rw [e7, ep]
    refine c90x (m := n) n8 (nI_toInt (by omega)) ?_
    rw [nI_clamp (by omega), e40, ab_32 a1 a2]
    refine ⟨nI_in (by omega) (by omega), c91x (by omega) (na_27 a1 a2) ?_⟩
    rw [e40]
    unfold wofV at kk
    revert kk g0 g1
    generalize Nat.gcd (faN n) (a i).natAbs = G
    intro kk g0 g1
    have gn : ¬ nI G = 0 := fun z => by
      have := nI_inj (c := 0) (by omega) (by omega) z
      omega
    refine ⟨fun z => absurd z (nI_nlt (b := 1) (by omega) (by omega)), fun _ => ⟨fun z => ⟨nI_in (by omega) (by omega), gn, ?_⟩, fun z => ⟨gn, ?_⟩⟩⟩
    · rw [if_pos z] at kk
      rw [dv32 (by omega) (by omega) (by omega)]
      exact kk
    · rw [if_neg z] at kk
      rw [dn32 (by omega) (by omega)]
      exact kk
  · rw [e7, Int32.lt_iff_toInt_lt, nI_toInt (by omega)] at q2
    exact decide_eq_true (Or.inr (Or.inl (by omega)))
/-- the reference: worthOf -/
theorem r225x {n : Nat} {a : Nat → Int} {p1 p2 : Int32} {Q : Int32 → rI0 → rJ0 → Prop} (h : WR n a I J) (kt : wofB n p1 p2 = true → Q 0 (mSet I 43 0 1) J) (k : ∀ i, i < n → p1 = nI i → wofB n p1 p2 = false → Q (wofV n a i p2) (mSet I 43 0 0) J) : wcI S (d + 1) 225 [.ref 43, .int p1, .int p2] x I J Q := by
  obtain ⟨n8, -, e52, ha, h53⟩ := h
  have e0 : (0 : Int32).toInt = 0 := by decide
  have e1 : (1 : Int32).toInt = 1 := by decide
  have en : (nI n - 1).toInt = (n : Int) - 1 := by
    rw [i_sub (nI_toInt (by omega)) e1 (by omega)]
  have bad : wofB n p1 p2 = true → wp S (d + 1) 225 29 [some (.ref 43), some (.int p1), some (.int p2), none, none, none, none, none, none] [.int (1), .ref 43] (wv x I J) (rI x Q) := by
    intro w
    exact v225_43_29 (c146_43 ⟨fun z => absurd z (by decide), fun _ => ⟨Or.inr rfl, fun z => absurd z (by decide), fun _ => kt w⟩⟩)
  refine c225_43 (c151 ?_)
  rw [e52]
  refine ⟨fun q => ⟨fun _ => bad ?_, fun z => absurd rfl z⟩, fun q => ⟨fun q2 => ⟨fun _ => bad ?_, fun z => absurd rfl z⟩, fun q2 => ⟨fun z => absurd z (by decide), fun _ => c151 ⟨fun q3 => ⟨fun _ => bad ?_, fun z => absurd rfl z⟩, fun q3 => ⟨fun q4 => ⟨fun _ => bad ?_, fun z => absurd rfl z⟩, fun q4 => ⟨fun z => absurd z (by decide), fun _ => ?_⟩⟩⟩⟩⟩⟩
  · rw [Int32.lt_iff_toInt_lt, e0] at q
    exact decide_eq_true (Or.inl q)
  · rw [Int32.lt_iff_toInt_lt, en] at q2
    exact decide_eq_true (Or.inr (Or.inl (by omega)))
  · rw [Int32.lt_iff_toInt_lt, e0] at q3
    exact decide_eq_true (Or.inr (Or.inr (Or.inl q3)))
  · rw [Int32.lt_iff_toInt_lt, e1] at q4
    exact decide_eq_true (Or.inr (Or.inr (Or.inr q4)))
  · rw [Int32.lt_iff_toInt_lt, e0] at q q3
    rw [Int32.lt_iff_toInt_lt, e1] at q4
    rw [Int32.lt_iff_toInt_lt, en] at q2
    have ep : p1 = nI p1.toInt.toNat := Int32.toInt_inj.mp (by rw [nI_toInt (by omega)]; omega)
    have hw : wofB n p1 p2 = false := decide_eq_false (by omega)
    have kk := k p1.toInt.toNat (by omega) ep hw
    obtain ⟨a1, a2, -, e59⟩ := ha p1.toInt.toNat (by omega)
    have h53 : J 43 53 = Int64.ofNat (faN n) := by
      rcases h53 with z | z
      · omega
      · exact z
    have il : p1.toInt.toNat < 8 := by omega
    revert ep kk a1 a2 e59 il
    generalize p1.toInt.toNat = i
    intro ep kk a1 a2 e59 il
    have f8 := fa_8 n (by omega)
    have g0 := Nat.gcd_pos_of_pos_left (a i).natAbs (show 0 < faN n by omega)
    have g1 := Nat.gcd_le_left (a i).natAbs (show 0 < faN n by omega)
    have na : (a i).natAbs ≤ 82575360 := by omega
    unfold wofV at kk
    have io : ¬ mOut p1 8 := by
      rw [ep]
      exact nI_in (by omega) (by omega)
    have ec : J 59 p1.toNatClampNeg = Int64.ofInt (a i) := by
      rw [ep, nI_clamp (by omega)]
      exact e59
    have lp : ∀ (q p : Nat), p ≤ 1000000000 → q ≤ 1000000000 → Nat.gcd p q = Nat.gcd (faN n) (a i).natAbs → wp S (d + 1) 225 71 [some (.ref 43), some (.int p1), some (.int p2), some (.long (Int64.ofNat q)), none, some (.long (Int64.ofNat p)), none, none, none] [] (wv x (mSet I 43 0 0) J) (rI x Q) := by
      intro q
      induction q using Nat.strongRecOn with
      | ind q ih =>
        intro p hp hq hg
        by_cases z : q = 0
        · subst z
          rw [Nat.gcd_zero_right] at hg
          have pn : ¬ Int64.ofNat p = 0 := fun w => by
            have := (on_0 hp).mp w
            omega
          refine v225_43_71 ⟨fun _ => ⟨fun w => ⟨io, pn, ?_⟩, fun w => ⟨pn, ?_⟩⟩, fun w => absurd (lg_z.mpr rfl) w⟩
          · rw [if_pos w, ← hg] at kk
            have b := Int.natAbs_tdiv_le_natAbs (a i) (p : Int)
            rw [ec, dv64 (by omega) (by omega) hp, to32 (by omega) (by omega)]
            exact kk
          · rw [if_neg w, ← hg] at kk
            have b : faN n / p ≤ faN n := Nat.div_le_self _ _
            revert b kk
            rw [h53, dn64 (by omega) hp]
            generalize faN n / p = w
            intro kk b
            rw [← Int64.ofInt_eq_ofNat, to32 (by omega) (by omega), ← nI_oi]
            exact kk
        · have qn : ¬ Int64.ofNat q = 0 := fun w => z ((on_0 hq).mp w)
          refine v225_43_71 ⟨fun w => absurd (lg_z.mp w) qn, fun _ => ⟨qn, ?_⟩⟩
          rw [md64 hp hq]
          have m1 := Nat.mod_lt p (show 0 < q by omega)
          exact ih (p % q) m1 q hq (by omega) (by rw [← gcd_s]; exact hg)
    refine v225_43_29 (c146_43 ⟨fun _ => ⟨Or.inl rfl, fun _ => ⟨io, ?_⟩, fun z => absurd rfl z⟩, fun z => absurd rfl z⟩)
    have e := oi64 (v := a i) (by omega) (by omega)
    rw [ec, h53]
    refine ⟨fun w => ⟨io, ?_⟩, fun w => ⟨io, ?_⟩⟩
    · rw [lg_n, e] at w
      rw [← Int64.ofInt_neg, show -(a i) = (((a i).natAbs : Nat) : Int) by omega, Int64.ofInt_eq_ofNat]
      exact lp (a i).natAbs (faN n) (by omega) (by omega) rfl
    · rw [lg_n, e] at w
      rw [show a i = (((a i).natAbs : Nat) : Int) by omega, Int64.ofInt_eq_ofNat]
      exact lp (a i).natAbs (faN n) (by omega) (by omega) rfl
end TR6
end
section
/-! trials: starts, leader -/
section TR7
/-- HEIGHT with s alone PAID -/
def soN (g : Nat → Int32) (W : Nat → lV) (H : Nat → Bool) (s : Nat) : Nat := hgt g W (fun u => decide (u = s)) H 60
def startsV (g : Nat → Int32) (W : Nat → lV) (H : Nat → Bool) (p : Int32) : Int32 := if seI g p = true then nI (soN g W H p.toInt.toNat) else -1
/-- the leader among the SEATS below s: 64 for none -/
def ldB (g : Nat → Int32) (W : Nat → lV) (H : Nat → Bool) (B s : Nat) : Bool := seB g s && (decide (B = 64) || (decide (soN g W H B < soN g W H s) || decide (soN g W H s = soN g W H B ∧ gN g (70 + s / gN g 1) < gN g (70 + B / gN g 1))))
def ldN (g : Nat → Int32) (W : Nat → lV) (H : Nat → Bool) : Nat → Nat
  | 0 => 64
  | s + 1 => if ldB g W H (ldN g W H s) s = true then s else ldN g W H s
def lsI (B : Nat) : Int32 := if B = 64 then -1 else nI B
def lhI (g : Nat → Int32) (W : Nat → lV) (H : Nat → Bool) (B : Nat) : Int32 := if B = 64 then -1 else nI (soN g W H B)
def leadV (g : Nat → Int32) (W : Nat → lV) (H : Nat → Bool) (p : Int32) : Int32 := if p = 0 then lsI (ldN g W H 64) else if p = 1 then lhI g W H (ldN g W H 64) else -1
variable {S : Nat × (Nat → Int32)} {d : Nat} {x : mX} {I I1 I2 : rI0} {J J1 J2 : rJ0} {g b : Nat → Int32} {W : Nat → lV} {P H : Nat → Bool}
theorem so_l {s : Nat} : soN g W H s ≤ 64 := hgt_l
theorem ld_s : ∀ s, s ≤ 64 → ldN g W H s = 64 ∨ (ldN g W H s < s ∧ seB g (ldN g W H s) = true) := by
  intro s
  induction s with
  | zero => exact fun _ => Or.inl rfl
  | succ s ih =>
    intro h
    show (if ldB g W H (ldN g W H s) s = true then s else ldN g W H s) = 64 ∨ ((if ldB g W H (ldN g W H s) s = true then s else ldN g W H s) < s + 1 ∧ seB g (if ldB g W H (ldN g W H s) s = true then s else ldN g W H s) = true)
    split
    · rename_i z
      unfold ldB at z
      rw [Bool.and_eq_true] at z
      exact Or.inr ⟨by omega, z.1⟩
    · exact (ih (by omega)).elim Or.inl (fun z => Or.inr ⟨by omega, z.2⟩)
theorem ld_y {s : Nat} (h : ldB g W H (ldN g W H s) s = true) : ldN g W H (s + 1) = s := by
  show (if ldB g W H (ldN g W H s) s = true then s else ldN g W H s) = _
  rw [if_pos h]
theorem ld_n {s : Nat} (h : ldB g W H (ldN g W H s) s = false) : ldN g W H (s + 1) = ldN g W H s := by
  show (if ldB g W H (ldN g W H s) s = true then s else ldN g W H s) = _
  rw [h]
  rfl
theorem ld_e {a : Nat} (h : ∀ s, seB g s = true → s < a) : ∀ s, a ≤ s → ldN g W H s = ldN g W H a := by
  intro s
  induction s with
  | zero => intro h; rw [show a = 0 by omega]
  | succ s ih =>
    intro h2
    by_cases z : a = s + 1
    · rw [z]
    · rw [ld_n, ih (by omega)]
      unfold ldB
      cases y : seB g s with
      | true =>
        have := h s y
        omega
      | false => rfl
theorem one_s {s : Nat} (hse : seB g s = true) : ∀ u, decide (u = s) = true → seB g u = true := by
  intro u hu
  rw [of_decide_eq_true hu]
  exact hse
/-- the class: starts -/
theorem xStart1 {p : Int32} {Q : Int32 → rI0 → rJ0 → Prop} (hC : CE g W P H I J) (k1 : ∀ s, s < 64 → p = nI s → seB g s = true → seI g p = true → ∀ I' J', F41 I J I' J' → Q (nI (soN g W H s)) I' J') (k0 : seI g p = false → Q (-1) I J) : wcI S (d + 23) 132 [.ref 0, .int p] x I J Q := by
  refine c132_0 (d := d + 22) (cIs hC.2.1.2.2.2.2.1 (fun s hs es hse hsi => ⟨fun z => absurd z (by decide), fun _ => ?_⟩) (fun hsi => ⟨fun _ => k0 hsi, fun z => absurd rfl z⟩))
  have kk := k1 s hs es hse hsi
  subst es
  refine ht_41 (d := d) (P := fun u => decide (u = s)) (H := H) hC.1 hC.2.1 (one_s hse) (fun u hu => b5_1 hs) hC.2.2.2.2.1 (fun I' J' r f h1 h2 => ?_)
  have a := hgt_l (g := g) (W := W) (P := fun u => decide (u = s)) (H := H) (t := 60)
  have e : (64 : Int32).toInt = 64 := by decide
  rw [e] at h2
  have er : r = soN g W H s := by
    show r = hgt g W (fun u => decide (u = s)) H 60
    omega
  rw [er]
  exact kk I' J' f
theorem xStarts {p : Int32} {Q : Int32 → rI0 → rJ0 → Prop} (hC : CE g W P H I J) (k : ∀ I' J', F41 I J I' J' → Q (startsV g W H p) I' J') : wcI S (d + 23) 132 [.ref 0, .int p] x I J Q := by
  refine xStart1 hC (fun s hs es hse hsi I' J' f => ?_) (fun hsi => ?_)
  · have kk := k I' J' f
    unfold startsV at kk
    rw [hsi, if_pos rfl, es, nI_tn (by omega)] at kk
    exact kk
  · have kk := k I J F41.rf
    unfold startsV at kk
    rw [hsi] at kk
    exact kk
/-- the reference: starts -/
theorem yStarts {p : Int32} {Q : Int32 → rI0 → rJ0 → Prop} (hR : RH g W I J) (h3 : gN g 3 ≤ 64) (e17 : ∀ s, s < 64 → bits5 (J 43 17) s = H s) (k : ∀ I' J', FG I J I' J' → RH g W I' J' → Q (startsV g W H p) I' J') : wcI S (d + 6) 239 [.ref 43, .int p] x I J Q := by
  have hR1 : RH g W (mSet I 43 0 0) J := hR.t
  refine c239_43 (d := d + 5) (rIs (d := d + 4) hR1.1 hR1.2.1 hR1.2.2.2.2.1 (fun s hs es hse hsi => ⟨fun z => absurd z (by decide), fun _ => ?_⟩) (fun hsi => ⟨fun _ => ?_, fun z => absurd rfl z⟩))
  · subst es
    refine rht (d := d) (P := fun u => decide (u = s)) (H := H) hR1 h3 (fun u hu => b5_1 hs) e17 (fun I' J' f h _ _ => ?_)
    have kk := k I' J' (FG.t.tr f.fg) h.h
    unfold startsV at kk
    rw [hsi, if_pos rfl, nI_tn (by omega)] at kk
    exact kk
  · have kk := k _ _ (FG.t (v := 0)) hR1
    unfold startsV at kk
    rw [hsi] at kk
    exact kk
/-- the class: leader -/
theorem xLead {p : Int32} {Q : Int32 → rI0 → rJ0 → Prop} (hC : CE g W P H I J) (hp : ∀ r, r < 8 → I 7 r = nI (gN g (70 + r))) (hpl : ∀ r, r < 8 → gN g (70 + r) ≤ 999) (k : ∀ I' J', F41 I J I' J' → Q (leadV g W H p) I' J') : wcI S (d + 24) 133 [.ref 0, .int p] x I J Q := by
  have e0 : (0 : Int32).toInt = 0 := by decide
  have e1 : (1 : Int32).toInt = 1 := by decide
  have lp : ∀ (j s : Nat) (I1 : rI0) (J1 : rJ0), s + j = 64 → F41 I J I1 J1 → (p = 0 ∨ p = 1) → wp S (d + 24) 133 18 [some (.ref 0), some (.int p), some (.int (lsI (ldN g W H s))), some (.int (lhI g W H (ldN g W H s))), some (.int (nI s)), none] [] (wv x I1 J1) (rI x Q) := by
    intro j
    induction j with
    | zero =>
      intro s I1 J1 hs f hp01
      have hs : s = 64 := by omega
      subst hs
      have kk := k I1 J1 f
      unfold leadV at kk
      refine v133_0_18 ⟨fun q => absurd q (nI_nlt (b := 64) (Nat.le_refl _) (by omega)), fun _ => ⟨fun z => ?_, fun z => ?_⟩⟩
      · rw [if_pos z] at kk
        exact kk
      · rw [if_neg z, if_pos (hp01.resolve_left z)] at kk
        exact kk
    | succ j ih =>
      intro s I1 J1 hs f hp01
      have yes := @ld_y g W H s
      have noo := @ld_n g W H s
      have ls := ld_s (g := g) (W := W) (H := H) s (by omega)
      have ih0 := ih (s + 1)
      revert yes noo ls ih0
      generalize ldN g W H (s + 1) = B1
      generalize ldN g W H s = B
      intro yes noo ls ih0
      have nx : ldB g W H B s = false → ∀ I2 J2, F41 I1 J1 I2 J2 → wp S (d + 24) 133 18 [some (.ref 0), some (.int p), some (.int (lsI B)), some (.int (lhI g W H B)), some (.int (nI s + 1)), none] [] (wv x I2 J2) (rI x Q) := by
        intro hb I2 J2 f2
        have e := noo hb
        subst e
        rw [← nI_succ]
        exact ih0 I2 J2 (by omega) (f.tr f2) hp01
      have tk : ldB g W H B s = true → ∀ I2 J2, F41 I1 J1 I2 J2 → wp S (d + 24) 133 18 [some (.ref 0), some (.int p), some (.int (nI s)), some (.int (nI (soN g W H s))), some (.int (nI s + 1)), none] [] (wv x I2 J2) (rI x Q) := by
        intro hb I2 J2 f2
        have e := yes hb
        subst e
        rw [← nI_succ]
        have i2 := ih0 I2 J2 (by omega) (f.tr f2) hp01
        unfold lsI lhI at i2
        rw [if_neg (by omega), if_neg (by omega)] at i2
        exact i2
      clear ih ih0 yes noo
      have hC1 : CE g W P H I1 J1 := hC.k f.k
      refine v133_0_18 (d := d + 23) ⟨fun _ => xStart1 (d := d) hC1 (fun s' hs' es hse hsi I2 J2 f2 => ?_) (fun hsi => ?_), fun q => absurd (nI_lt (b := 64) (by omega) (by omega)) q⟩
      · have es : s = s' := nI_inj (by omega) (by omega) es
        subst es
        have so := @so_l g W H s
        have soB := @so_l g W H B
        by_cases z : B = 64
        · have hb : ldB g W H B s = true := by
            unfold ldB
            rw [hse, decide_eq_true z]
            rfl
          refine ⟨fun _ => tk hb I2 J2 f2, fun q => absurd ?_ q⟩
          rw [show lhI g W H B = -1 from if_pos z, Int32.lt_iff_toInt_lt, nI_toInt (by omega)]
          have e : (-1 : Int32).toInt = -1 := by decide
          omega
        · have hB : B < 64 ∧ seB g B = true := by
            rcases ls with w | w
            · exact absurd w z
            · exact ⟨by omega, w.2⟩
          have bb : ldB g W H B s = (decide (soN g W H B < soN g W H s) || decide (soN g W H s = soN g W H B ∧ gN g (70 + s / gN g 1) < gN g (70 + B / gN g 1))) := by
            unfold ldB
            rw [hse, decide_eq_false z, Bool.true_and, Bool.false_or]
          have el : lsI B = nI B := if_neg z
          have eh : lhI g W H B = nI (soN g W H B) := if_neg z
          rw [el, eh] at nx
          rw [el, eh]
          refine ⟨fun q => tk ?_ I2 J2 f2, fun q => ⟨fun w => absurd w (nI_n1 (by omega)), fun _ => ⟨fun w => ?_, fun w => nx ?_ I2 J2 f2⟩⟩⟩
          · rw [bb, decide_eq_true ((nI_ltI (by omega) (by omega)).mp q), Bool.true_or]
          · have hM2 := (hC1.k f2.k)
            have hp2 : ∀ r, r < 8 → I2 7 r = nI (gN g (70 + r)) := fun r hr => by
              rw [f2.1 7 (by decide), f.1 7 (by decide)]
              exact hp r hr
            have w := nI_inj (by omega) (by omega) w
            obtain ⟨-, hr1, -⟩ := seC hM2.1 hse
            obtain ⟨-, hr2, -⟩ := seC hM2.1 hB.2
            have h8 := hM2.1.1
            have pl1 := hpl (s / gN g 1) (by omega)
            have pl2 := hpl (B / gN g 1) (by omega)
            refine c26x (d := d + 21) hM2.1 hM2.2.1 hp2 hse (c26x (d := d + 21) hM2.1 hM2.2.1 hp2 hB.2 ⟨fun v => tk ?_ I2 J2 f2, fun v => nx ?_ I2 J2 f2⟩)
            · rw [bb, decide_eq_true (show soN g W H s = soN g W H B ∧ gN g (70 + s / gN g 1) < gN g (70 + B / gN g 1) from ⟨w, (nI_ltI (by omega) (by omega)).mp v⟩), Bool.or_true]
            · rw [bb, decide_eq_false (by omega), decide_eq_false (fun y => v (nI_lt y.2 (by omega)))]
              rfl
          · have q : ¬ soN g W H B < soN g W H s := fun y => q (nI_lt y (by omega))
            rw [bb, decide_eq_false q, decide_eq_false (fun y => w (by rw [y.1]))]
            rfl
      · rw [seI_n (by omega)] at hsi
        have hb : ldB g W H B s = false := by
          unfold ldB
          rw [hsi]
          rfl
        have soB := @so_l g W H B
        refine ⟨fun q => ?_, fun q => ⟨fun _ => nx hb I1 J1 F41.rf, fun _ => ⟨fun w => ?_, fun _ => nx hb I1 J1 F41.rf⟩⟩⟩
        · refine absurd q ?_
          unfold lhI
          split
          · decide
          · rw [Int32.lt_iff_toInt_lt, nI_toInt (by omega)]
            have e : (-1 : Int32).toInt = -1 := by decide
            omega
        · by_cases z : B = 64
          · rename_i v
            exact absurd (show lsI B = -1 from if_pos z) v
          · rw [show lhI g W H B = nI (soN g W H B) from if_neg z] at w
            exact absurd w.symm (nI_n1 (by omega))
  refine c133_0 ⟨fun q => ?_, fun q => ⟨fun q2 => ?_, fun q2 => ?_⟩⟩
  · rw [Int32.lt_iff_toInt_lt, e0] at q
    have kk := k I J F41.rf
    unfold leadV at kk
    rw [if_neg (fun z => by rw [z, e0] at q; omega), if_neg (fun z => by rw [z, e1] at q; omega)] at kk
    exact kk
  · rw [Int32.lt_iff_toInt_lt, e1] at q2
    have kk := k I J F41.rf
    unfold leadV at kk
    rw [if_neg (fun z => by rw [z, e0] at q2; omega), if_neg (fun z => by rw [z, e1] at q2; omega)] at kk
    exact kk
  · rw [Int32.lt_iff_toInt_lt, e0] at q
    rw [Int32.lt_iff_toInt_lt, e1] at q2
    refine lp 64 0 I J (by omega) F41.rf ?_
    by_cases z : p.toInt = 0
    · exact Or.inl (Int32.toInt_inj.mp (by rw [z, e0]))
    · exact Or.inr (Int32.toInt_inj.mp (by rw [e1]; omega))
end TR7
end
section
/-! trials: leader of the reference; parts -/
section TR8
variable {S : Nat × (Nat → Int32)} {d : Nat} {x : mX} {I I1 I2 : rI0} {J J1 J2 : rJ0} {g b : Nat → Int32} {W : Nat → lV} {P H : Nat → Bool}
theorem yLead {p : Int32} {Q : Int32 → rI0 → rJ0 → Prop} (hR : RH g W I J) (h3 : gN g 3 ≤ 64) (e17 : ∀ s, s < 64 → bits5 (J 43 17) s = H s) (k : ∀ I' J', FG I J I' J' → RH g W I' J' → Q (leadV g W H p) I' J') : wcI S (d + 6) 240 [.ref 43, .int p] x I J Q := by
  obtain ⟨z0, z1, -, -, -, -⟩ := k0c
  have e0 : (0 : Int32).toInt = 0 := by decide
  have e1 : (1 : Int32).toInt = 1 := by decide
  have hG := hR.1
  have hI := hR.2.1
  have rc : gN g 0 * gN g 1 ≤ 64 := Nat.le_trans (Nat.mul_le_mul hG.1 hG.2.1) (by decide)
  have hR1 : RH g W (mSet I 43 0 0) J := hR.t
  have lp : ∀ (j s : Nat) (I1 : rI0) (J1 : rJ0), s + j = gN g 0 * gN g 1 → FG I J I1 J1 → RH g W I1 J1 → (p = 0 ∨ p = 1) → wp S (d + 6) 240 23 [some (.ref 43), some (.int p), some (.int (lsI (ldN g W H s))), some (.int (lhI g W H (ldN g W H s))), some (.int (nI s)), none] [] (wv x I1 J1) (rI x Q) := by
    intro j
    induction j with
    | zero =>
      intro s I1 J1 hs f r hp01
      have kk := k I1 J1 f r
      unfold leadV at kk
      rw [ld_e (a := s) (fun u hu => by have := (hG.2.2.2.2.1 u hu).1; omega) 64 (by omega)] at kk
      refine v240_43_23 ⟨by decide, by decide, ?_⟩
      rw [z0, z1, r.2.2.2.2.1, hI.1 0 (by omega), hI.1 1 (by omega), nI_mu]
      refine ⟨fun q => absurd q (nI_nlt (by omega) (by omega)), fun _ => ⟨fun z => ?_, fun z => ?_⟩⟩
      · rw [if_pos z] at kk
        exact kk
      · rw [if_neg z, if_pos (hp01.resolve_left z)] at kk
        exact kk
    | succ j ih =>
      intro s I1 J1 hs f r hp01
      have yes := @ld_y g W H s
      have noo := @ld_n g W H s
      have ls := ld_s (g := g) (W := W) (H := H) s (by omega)
      have ih0 := ih (s + 1)
      revert yes noo ls ih0
      generalize ldN g W H (s + 1) = B1
      generalize ldN g W H s = B
      intro yes noo ls ih0
      have nx : ldB g W H B s = false → ∀ I2 J2, FG I J I2 J2 → RH g W I2 J2 → wp S (d + 6) 240 23 [some (.ref 43), some (.int p), some (.int (lsI B)), some (.int (lhI g W H B)), some (.int (nI s + 1)), none] [] (wv x I2 J2) (rI x Q) := by
        intro hb I2 J2 f2 r2
        have e := noo hb
        subst e
        rw [← nI_succ]
        exact ih0 I2 J2 (by omega) f2 r2 hp01
      have tk : ldB g W H B s = true → ∀ I2 J2, FG I J I2 J2 → RH g W I2 J2 → wp S (d + 6) 240 23 [some (.ref 43), some (.int p), some (.int (nI s)), some (.int (nI (soN g W H s))), some (.int (nI s + 1)), none] [] (wv x I2 J2) (rI x Q) := by
        intro hb I2 J2 f2 r2
        have e := yes hb
        subst e
        rw [← nI_succ]
        have i2 := ih0 I2 J2 (by omega) f2 r2 hp01
        unfold lsI lhI at i2
        rw [if_neg (by omega), if_neg (by omega)] at i2
        exact i2
      clear ih ih0 yes noo
      refine v240_43_23 (d := d + 5) ⟨by decide, by decide, ?_⟩
      rw [z0, z1, r.2.2.2.2.1, hI.1 0 (by omega), hI.1 1 (by omega), nI_mu]
      refine ⟨fun _ => rIs (d := d + 4) hG hI r.2.2.2.2.1 (fun s' hs' es hse hsi => ⟨fun z => absurd z (by decide), fun _ => ?_⟩) (fun hsi => ⟨fun _ => nx ?_ I1 J1 f r, fun z => absurd rfl z⟩), fun q => absurd (nI_lt (by omega) (by omega)) q⟩
      · have es : s = s' := nI_inj (by omega) (by omega) es
        subst es
        refine rht (d := d) (P := fun u => decide (u = s)) (H := H) r h3 (fun u hu => b5_1 hs') (by rw [f.2.2.2 17 (by omega)]; exact e17) (fun I2 J2 f2 h2 _ _ => ?_)
        have f3 : FG I J I2 J2 := f.tr f2.fg
        have r3 : RH g W I2 J2 := h2.h
        rw [show hgt g W (fun u => decide (u = s)) H 60 = soN g W H s from rfl]
        have so := @so_l g W H s
        have soB := @so_l g W H B
        by_cases z : B = 64
        · have hb : ldB g W H B s = true := by
            unfold ldB
            rw [hse, decide_eq_true z]
            rfl
          have e : (-1 : Int32).toInt = -1 := by decide
          rw [show lhI g W H B = -1 from if_pos z]
          refine ⟨fun q => ?_, fun _ => ⟨fun w => absurd w (nI_n1 (by omega)), fun _ => tk hb I2 J2 f3 r3⟩⟩
          rw [Int32.lt_iff_toInt_lt, nI_toInt (by omega)] at q
          omega
        · have hB : B < 64 ∧ seB g B = true := by
            rcases ls with w | w
            · exact absurd w z
            · exact ⟨by omega, w.2⟩
          have bb : ldB g W H B s = (decide (soN g W H B < soN g W H s) || decide (soN g W H s = soN g W H B ∧ gN g (70 + s / gN g 1) < gN g (70 + B / gN g 1))) := by
            unfold ldB
            rw [hse, decide_eq_false z, Bool.true_and, Bool.false_or]
          have el : lsI B = nI B := if_neg z
          have eh : lhI g W H B = nI (soN g W H B) := if_neg z
          rw [el, eh] at nx
          rw [el, eh]
          refine ⟨fun q => nx ?_ I2 J2 f3 r3, fun q => ⟨fun w => ?_, fun w => tk ?_ I2 J2 f3 r3⟩⟩
          · have q := (nI_ltI (by omega) (by omega)).mp q
            rw [bb, decide_eq_false (by omega), decide_eq_false (by omega)]
            rfl
          · have w := nI_inj (by omega) (by omega) w
            obtain ⟨-, hr1, -⟩ := seC hG hse
            obtain ⟨-, hr2, -⟩ := seC hG hB.2
            have h8 := hG.1
            have pl1 := (hI.2.2.1 (s / gN g 1) (by omega)).2.1
            have pl2 := (hI.2.2.1 (B / gN g 1) (by omega)).2.1
            refine r188x (d := d + 5) hG hI r3.2.2.2.2.1 hse (r188x (d := d + 5) hG hI r3.2.2.2.2.1 hB.2 ⟨fun v => tk ?_ I2 J2 f3 r3, fun v => nx ?_ I2 J2 f3 r3⟩)
            · rw [bb, decide_eq_true (show soN g W H s = soN g W H B ∧ gN g (70 + s / gN g 1) < gN g (70 + B / gN g 1) from ⟨w, (nI_ltI (by omega) (by omega)).mp v⟩), Bool.or_true]
            · rw [bb, decide_eq_false (by omega), decide_eq_false (fun y => v (nI_lt y.2 (by omega)))]
              rfl
          · have q : ¬ soN g W H s < soN g W H B := fun y => q (nI_lt y (by omega))
            have w : ¬ soN g W H s = soN g W H B := fun y => w (by rw [y])
            rw [bb, decide_eq_true (by omega), Bool.true_or]
      · rw [seI_n (by omega)] at hsi
        unfold ldB
        rw [hsi]
        rfl
  refine c240_43 (d := d + 5) (c151 ⟨fun q => ⟨fun _ => ?_, fun z => absurd rfl z⟩, fun q => ⟨fun q2 => ⟨fun _ => ?_, fun z => absurd rfl z⟩, fun q2 => ⟨fun z => absurd z (by decide), fun _ => ?_⟩⟩⟩)
  · rw [Int32.lt_iff_toInt_lt, e0] at q
    have kk := k _ _ (FG.t (v := 0)) hR1
    unfold leadV at kk
    rw [if_neg (fun z => by rw [z, e0] at q; omega), if_neg (fun z => by rw [z, e1] at q; omega)] at kk
    exact kk
  · rw [Int32.lt_iff_toInt_lt, e1] at q2
    have kk := k _ _ (FG.t (v := 0)) hR1
    unfold leadV at kk
    rw [if_neg (fun z => by rw [z, e0] at q2; omega), if_neg (fun z => by rw [z, e1] at q2; omega)] at kk
    exact kk
  · rw [Int32.lt_iff_toInt_lt, e0] at q
    rw [Int32.lt_iff_toInt_lt, e1] at q2
    refine lp (gN g 0 * gN g 1) 0 _ J (by omega) FG.t hR1 ?_
    by_cases z : p.toInt = 0
    · exact Or.inl (Int32.toInt_inj.mp (by rw [z, e0]))
    · exact Or.inr (Int32.toInt_inj.mp (by rw [e1]; omega))
def eq6 (p q : Nat → Bool) : Bool := decide (nb (fun s => p s != q s) 64 = 0)
theorem eq6_t {p q : Nat → Bool} (h : ∀ s, s < 64 → p s = q s) : eq6 p q = true := decide_eq_true (nb_none 64 (fun s hs => by rw [h s hs]; cases q s <;> rfl))
theorem eq6_f {p q : Nat → Bool} (h : ¬ ∀ s, s < 64 → p s = q s) : eq6 p q = false := by
  refine decide_eq_false (fun z => h (fun s hs => ?_))
  refine Classical.byContradiction (fun w => ?_)
  have : 0 < nb (fun s => p s != q s) 64 := (nb_pos 64).mpr ⟨s, hs, by cases y : p s <;> cases y2 : q s <;> rw [y, y2] at w <;> first | exact absurd rfl w | rfl⟩
  omega
/-- do two nights differ at t? -/
def dfB (g : Nat → Int32) (W : Nat → lV) (H : Nat → Bool) (s1 s2 t : Nat) : Bool := !(eq6 (fun s => decide (1 ≤ (nt g W (fun u => decide (u = s1)) H t).1 s)) (fun s => decide (1 ≤ (nt g W (fun u => decide (u = s2)) H t).1 s)) && eq6 (fun s => decide (2 ≤ (nt g W (fun u => decide (u = s1)) H t).1 s)) (fun s => decide (2 ≤ (nt g W (fun u => decide (u = s2)) H t).1 s)))
def partsV (g : Nat → Int32) (W : Nat → lV) (H : Nat → Bool) (p1 p2 : Int32) : Int32 := if (seI g p1 && seI g p2) = true then fnI (dfB g W H p1.toInt.toNat p2.toInt.toNat) 61 0 else -1
theorem lg_p {v w : Int64} {p q : Nat → Bool} (h1 : ∀ s, s < 64 → bits5 v s = p s) (h2 : ∀ s, s < 64 → bits5 w s = q s) : lg_cmp v w = 0 ↔ ∀ s, s < 64 → p s = q s := by
  rw [lg_eq]
  exact ⟨fun h s hs => by rw [← h1 s hs, h, h2 s hs], fun h => b5_ext (fun s hs => by rw [h1 s hs, h2 s hs]; exact h s hs)⟩
/-- the class: partOf -/
theorem c96x {s1 s2 : Nat} {Q : Int32 → rI0 → rJ0 → Prop} (hC : CE g W P H I J) (hs1 : s1 < 64) (hs2 : s2 < 64) (h1 : seB g s1 = true) (h2 : seB g s2 = true) (k : ∀ I' J', FA I J I' J' → Q (fnI (dfB g W H s1 s2) 61 0) I' J') : wcI S (d + 23) 96 [.ref 37, .long ((1 : Int64) <<< ((nI s1).toInt64 &&& 63)), .long ((1 : Int64) <<< ((nI s2).toInt64 &&& 63))] x I J Q := by
  have lp : ∀ (l1 l3 : Int64) (j t v1 v2 : Nat) (I1 : rI0) (J1 : rJ0), t + j = 61 → v1 ≤ t → v2 ≤ t → FA I J I1 J1 → NO41 g W (fun u => decide (u = s1)) H v1 I1 J1 → NO42 g W (fun u => decide (u = s2)) H v2 I1 J1 → (∀ I' J', FA I J I' J' → Q (fnI (dfB g W H s1 s2) j t) I' J') → wp S (d + 23) 96 33 [some (.ref 37), some (.long l1), none, some (.long l3), none, some (.int (nI t))] [] (wv x I1 J1) (rI x Q) := by
    intro l1 l3 j
    induction j with
    | zero =>
      intro t v1 v2 I1 J1 ht hv1 hv2 f n1 n2 c
      exact v96_37_33 ⟨fun _ => c I1 J1 f, fun q => absurd (nI_lt (a := 60) (by omega) (by omega)) q⟩
    | succ j ih =>
      intro t v1 v2 I1 J1 ht hv1 hv2 f n1 n2 c
      have c : ∀ I' J', FA I J I' J' → Q (if dfB g W H s1 s2 t = true then nI t else fnI (dfB g W H s1 s2) j (t + 1)) I' J' := c
      have hC1 := hC.a f
      refine v96_37_33 (d := d + 22) ⟨fun q => absurd q (nI_nlt (a := 60) (by omega) (by omega)), fun _ => go_41 (d := d) hC1.1 (one_s h1) (by omega) hv1 hC1.2.1 n1 (fun I2 J2 w1 f2 hw1 n1b ev1 => ?_)⟩
      have hC2 := hC1.a f2.a
      have n2b : NO42 g W (fun u => decide (u = s2)) H v2 I2 J2 := n2.mv (f2.1 42 (by decide)) (f2.2 42 (by decide))
      refine go_42 (d := d) hC2.1 (one_s h2) (by omega) hv2 hC2.2.1 n2b (fun I3 J3 w2 f3 hw2 n2c ev2 => ?_)
      have n1c : NO41 g W (fun u => decide (u = s1)) H w1 I3 J3 := n1b.mv (f3.1 41 (by decide)) (f3.2 41 (by decide))
      have f4 : FA I J I3 J3 := (f.tr f2.a).tr f3.a
      have p1 := n1c.np
      have p2 : NP 42 J3 (nt g W (fun u => decide (u = s2)) H w2).1 (nt g W (fun u => decide (u = s2)) H w2).2 := n2c.2.2.2.2.2.2.1
      rw [ev1] at p1
      rw [ev2] at p2
      have l8 := lg_p (fun s hs => (p1 s hs).1) (fun s hs => (p2 s hs).1)
      have l9 := lg_p (fun s hs => (p1 s hs).2.1) (fun s hs => (p2 s hs).2.1)
      rw [l8, l9, ← nI_succ]
      have df : ∀ x y, eq6 (fun s => decide (1 ≤ (nt g W (fun u => decide (u = s1)) H t).1 s)) (fun s => decide (1 ≤ (nt g W (fun u => decide (u = s2)) H t).1 s)) = x → eq6 (fun s => decide (2 ≤ (nt g W (fun u => decide (u = s1)) H t).1 s)) (fun s => decide (2 ≤ (nt g W (fun u => decide (u = s2)) H t).1 s)) = y → dfB g W H s1 s2 t = !(x && y) := by
        intro x y hx hy
        unfold dfB
        rw [hx, hy]
      refine ⟨fun z => ⟨fun z2 => ?_, fun z2 => ?_⟩, fun z => ?_⟩
      · rw [df true true (eq6_t z) (eq6_t z2)] at c
        exact ih (t + 1) w1 w2 I3 J3 (by omega) (by omega) (by omega) f4 n1c n2c c
      · rw [df true false (eq6_t z) (eq6_f z2)] at c
        exact c I3 J3 f4
      · rw [df false _ (eq6_f z) rfl] at c
        exact c I3 J3 f4
  refine c96_37 (d := d + 22) (be_41 (d := d + 19) (P := fun u => decide (u = s1)) (H := H) hC.1 hC.2.1 (one_s h1) (fun u hu => b5_1 hs1) hC.2.2.2.2.1 (fun I1 J1 f1 n1 => ?_))
  have hC1 := hC.a f1.a
  refine be_42 (d := d + 19) (P := fun u => decide (u = s2)) (H := H) hC1.1 hC1.2.1 (one_s h2) (fun u hu => b5_1 hs2) hC1.2.2.2.2.1 (fun I2 J2 f2 n2 => ?_)
  exact lp _ _ 61 0 0 0 I2 J2 (by omega) (by omega) (by omega) (f1.a.tr f2.a) (n1.mv (f2.1 41 (by decide)) (f2.2 41 (by decide))) n2 k
theorem xParts {p1 p2 : Int32} {Q : Int32 → rI0 → rJ0 → Prop} (hC : CE g W P H I J) (k : ∀ I' J', FA I J I' J' → Q (partsV g W H p1 p2) I' J') : wcI S (d + 24) 129 [.ref 0, .int p1, .int p2] x I J Q := by
  have no : (seI g p1 && seI g p2) = false → Q (-1) I J := by
    intro h
    have kk := k I J FA.rf
    unfold partsV at kk
    rw [h] at kk
    exact kk
  refine c129_0 (d := d + 23) (cIs hC.2.1.2.2.2.2.1 (fun s1 hs1 es1 hse1 hsi1 => ⟨fun z => absurd z (by decide), fun _ => cIs hC.2.1.2.2.2.2.1 (fun s2 hs2 es2 hse2 hsi2 => ⟨fun z => absurd z (by decide), fun _ => ?_⟩) (fun hsi => ⟨fun _ => no (by rw [hsi, Bool.and_false]), fun z => absurd rfl z⟩)⟩) (fun hsi => ⟨fun _ => no (by rw [hsi, Bool.false_and]), fun z => absurd rfl z⟩))
  subst es1
  subst es2
  refine c96x (d := d) hC hs1 hs2 hse1 hse2 (fun I' J' f => ?_)
  have kk := k I' J' f
  unfold partsV at kk
  rw [hsi1, hsi2, if_pos (show (true && true) = true from rfl), nI_tn (by omega), nI_tn (by omega)] at kk
  exact kk
end TR8
end
section
/-! trials: parts of the reference -/
section TR9
variable {S : Nat × (Nat → Int32)} {d : Nat} {x : mX} {I I1 I2 : rI0} {J J1 J2 : rJ0} {g b : Nat → Int32} {W : Nat → lV} {P H : Nat → Bool}
/-- what parts of the reference leaves as it was -/
def FP (I : rI0) (J : rJ0) (I' : rI0) (J' : rJ0) : Prop := (∀ b, b ≠ 43 → b ≠ 50 → I' b = I b) ∧ (∀ q, q ≠ 0 → q ≠ 30 → ¬ (42 ≤ q ∧ q ≤ 45) → I' 43 q = I 43 q) ∧ (∀ b, b ≠ 43 → ¬ (51 ≤ b ∧ b ≤ 55) → ¬ (61 ≤ b ∧ b ≤ 62) → J' b = J b) ∧ ∀ q, ¬ (36 ≤ q ∧ q ≤ 41) → J' 43 q = J 43 q
theorem FG.p (f : FG I J I1 J1) : FP I J I1 J1 := ⟨f.1, f.2.1, fun b h1 h2 _ => f.2.2.1 b h1 h2, f.2.2.2⟩
theorem FP.tr (f : FP I J I1 J1) (h : FP I1 J1 I2 J2) : FP I J I2 J2 := ⟨fun b h1 h2 => (h.1 b h1 h2).trans (f.1 b h1 h2), fun q h1 h2 h3 => (h.2.1 q h1 h2 h3).trans (f.2.1 q h1 h2 h3), fun b h1 h2 h3 => (h.2.2.1 b h1 h2 h3).trans (f.2.2.1 b h1 h2 h3), fun q h1 => (h.2.2.2 q h1).trans (f.2.2.2 q h1)⟩
theorem FP.j (h : ∀ b, ¬ (61 ≤ b ∧ b ≤ 62) → J1 b = J b) : FP I J I J1 := ⟨fun _ _ _ => rfl, fun _ _ _ _ => rfl, fun b _ _ h3 => h b h3, fun q _ => by rw [h 43 (by omega)]⟩
theorem RH.j (h : RH g W I J) (e : J1 51 = J 51) : RH g W I J1 := ⟨h.1, h.2.1, h.2.2.1, h.2.2.2.1, h.2.2.2.2.1, fun z => by
  have a := h.2.2.2.2.2 z
  unfold AR at a ⊢
  rw [e]
  exact a⟩
theorem yParts {p1 p2 : Int32} {Q : Int32 → rI0 → rJ0 → Prop} (hR : RH g W I J) (h3 : gN g 3 ≤ 64) (e17 : ∀ s, s < 64 → bits5 (J 43 17) s = H s) (k : ∀ I' J', FP I J I' J' → RH g W I' J' → Q (partsV g W H p1 p2) I' J') : wcI S (d + 6) 231 [.ref 43, .int p1, .int p2] x I J Q := by
  have hR1 : RH g W (mSet I 43 0 0) J := hR.t
  have no : (seI g p1 && seI g p2) = false → Q (-1) (mSet I 43 0 0) J := by
    intro h
    have kk := k _ _ (FG.t (v := 0)).p hR1
    unfold partsV at kk
    rw [h] at kk
    exact kk
  refine c231_43 (d := d + 5) (rIs (d := d + 4) hR1.1 hR1.2.1 hR1.2.2.2.2.1 (fun s1 hs1 es1 hse1 hsi1 => ⟨fun z => absurd z (by decide), fun _ => rIs (d := d + 4) hR1.1 hR1.2.1 hR1.2.2.2.2.1 (fun s2 hs2 es2 hse2 hsi2 => ⟨fun z => absurd z (by decide), fun _ => ?_⟩) (fun hsi => ⟨fun _ => no (by rw [hsi, Bool.and_false]), fun z => absurd rfl z⟩)⟩) (fun hsi => ⟨fun _ => no (by rw [hsi, Bool.false_and]), fun z => absurd rfl z⟩))
  subst es1
  subst es2
  have kk : ∀ I' J', FP I J I' J' → RH g W I' J' → Q (fnI (dfB g W H s1 s2) 61 0) I' J' := by
    intro I' J' h1 h2
    have kk := k I' J' h1 h2
    unfold partsV at kk
    rw [hsi1, hsi2, if_pos (show (true && true) = true from rfl), nI_tn (by omega), nI_tn (by omega)] at kk
    exact kk
  refine rht (d := d) (P := fun u => decide (u = s1)) (H := H) hR1 h3 (fun u hu => b5_1 hs1) e17 (fun I1 J1 f1 r1 _ _ => ?_)
  have lq : ∀ (I3 : rI0) (J3 : rJ0), FP I J I3 J3 → RN g W (fun u => decide (u = s2)) H 61 I3 J3 → (∀ u, u < 61 → J3 61 u = J1 52 u ∧ J3 62 u = J1 53 u) → ∀ (j t : Nat), t + j = 61 → Q (fnI (dfB g W H s1 s2) j t) I3 J3 → wp S (d + 6) 231 87 [some (.ref 43), some (.int (nI s1)), some (.int (nI s2)), some (.int (nI t))] [] (wv x I3 J3) (rI x Q) := by
    intro I3 J3 f3 r3 hc j
    induction j with
    | zero =>
      intro t ht c
      exact v231_43_87 ⟨fun _ => c, fun q => absurd (nI_lt (a := 60) (by omega) (by omega)) q⟩
    | succ j ih =>
      intro t ht c
      have c : Q (if dfB g W H s1 s2 t = true then nI t else fnI (dfB g W H s1 s2) j (t + 1)) I3 J3 := c
      have a1 := r1.2.2.2.2.2.2.2.2 t (by omega)
      have a3 := r3.2.2.2.2.2.2.2.2 t (by omega)
      refine v231_43_87 ⟨fun q => absurd q (nI_nlt (a := 60) (by omega) (by omega)), fun _ => ⟨nI_in (by omega) (by omega), nI_in (by omega) (by omega), ?_⟩⟩
      rw [nI_clamp (by omega), (hc t (by omega)).1, (hc t (by omega)).2]
      have l8 := lg_p (fun s hs => (a3 s hs).1) (fun s hs => (a1 s hs).1)
      have l9 := lg_p (fun s hs => (a3 s hs).2.1) (fun s hs => (a1 s hs).2.1)
      rw [l8, l9, ← nI_succ]
      have df : ∀ x y, eq6 (fun s => decide (1 ≤ (nt g W (fun u => decide (u = s1)) H t).1 s)) (fun s => decide (1 ≤ (nt g W (fun u => decide (u = s2)) H t).1 s)) = x → eq6 (fun s => decide (2 ≤ (nt g W (fun u => decide (u = s1)) H t).1 s)) (fun s => decide (2 ≤ (nt g W (fun u => decide (u = s2)) H t).1 s)) = y → dfB g W H s1 s2 t = !(x && y) := by
        intro x y hx hy
        unfold dfB
        rw [hx, hy]
      refine ⟨fun z => ⟨nI_in (by omega) (by omega), nI_in (by omega) (by omega), fun z2 => ?_, fun z2 => ?_⟩, fun z => ?_⟩
      · rw [df true true (eq6_t (fun s hs => (z s hs).symm)) (eq6_t (fun s hs => (z2 s hs).symm))] at c
        exact ih (t + 1) (by omega) c
      · rw [df true false (eq6_t (fun s hs => (z s hs).symm)) (eq6_f (fun w => z2 (fun s hs => (w s hs).symm)))] at c
        exact c
      · rw [df false _ (eq6_f (fun w => z (fun s hs => (w s hs).symm))) rfl] at c
        exact c
  have lp : ∀ (j t : Nat) (J2 : rJ0), t + j = 61 → (∀ b, ¬ (61 ≤ b ∧ b ≤ 62) → J2 b = J1 b) → (∀ u, u < t → J2 61 u = J1 52 u ∧ J2 62 u = J1 53 u) → wp S (d + 6) 231 37 [some (.ref 43), some (.int (nI s1)), some (.int (nI s2)), some (.int (nI t))] [] (wv x I1 J2) (rI x Q) := by
    intro j
    induction j with
    | zero =>
      intro t J2 ht f2 hc
      have ht : t = 61 := by omega
      subst ht
      have f3 : FP I J I1 J2 := ((FG.t (v := 0)).tr f1.fg).p.tr (FP.j f2)
      refine v231_43_37 (d := d + 5) ⟨fun _ => rht (d := d) (P := fun u => decide (u = s2)) (H := H) (r1.h.j (f2 51 (by omega))) h3 (fun u hu => b5_1 hs2) (fun s hs => by rw [f3.2.2.2 17 (by omega)]; exact e17 s hs) (fun I3 J3 f4 r3 _ _ => ?_), fun q => absurd (nI_lt (a := 60) (by omega) (by omega)) q⟩
      refine lq I3 J3 (f3.tr f4.fg.p) r3 (fun u hu => ?_) 61 0 (by omega) (kk I3 J3 (f3.tr f4.fg.p) r3.h)
      rw [f4.2.2.1 61 (by decide) (by omega), f4.2.2.1 62 (by decide) (by omega)]
      exact hc u hu
    | succ j ih =>
      intro t J2 ht f2 hc
      refine v231_43_37 (d := d + 5) ⟨fun q => absurd q (nI_nlt (a := 60) (by omega) (by omega)), fun _ => ⟨nI_in (by omega) (by omega), nI_in (by omega) (by omega), nI_in (by omega) (by omega), nI_in (by omega) (by omega), ?_⟩⟩
      rw [nI_clamp (by omega), ← nI_succ]
      refine ih (t + 1) _ (by omega) (fun b hb => by rw [mSet_ne (by omega), mSet_ne (by omega)]; exact f2 b hb) (fun u hu => ?_)
      have e61 : ∀ v w, mSet (mSet J2 61 t v) 62 t w 61 u = if u = t then v else J2 61 u := fun v w => by
        rw [mSet_ne (by decide)]
        unfold mSet va_up
        rw [if_pos rfl]
      have e62 : ∀ v w, mSet (mSet J2 61 t v) 62 t w 62 u = if u = t then w else J2 62 u := fun v w => by
        unfold mSet va_up
        rw [if_pos rfl]
        split
        · rfl
        · rw [if_neg (by decide)]
      rw [e61, e62, f2 52 (by omega), f2 53 (by omega)]
      by_cases z : u = t
      · rw [if_pos z, if_pos z, z]
        exact ⟨rfl, rfl⟩
      · rw [if_neg z, if_neg z]
        exact hc u (by omega)
  exact lp 61 0 J1 (by omega) (fun _ _ => rfl) (fun u hu => absurd hu (Nat.not_lt_zero _))
end TR9
end
