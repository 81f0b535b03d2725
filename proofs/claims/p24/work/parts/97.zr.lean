/-! trials: worthOf -/
section TR6
/-- what was told of the worths: n hands, what each adds -/
def WR (n : Nat) (a : Nat → Int) (I : rI0) (J : rJ0) : Prop := n ≤ 8 ∧ I 37 7 = nI n ∧ I 43 52 = nI n ∧ (∀ i, i < n → -82575360 ≤ a i ∧ a i ≤ 82575360 ∧ I 40 i = Int32.ofInt (a i) ∧ J 59 i = Int64.ofInt (a i)) ∧ (n = 0 ∨ J 43 53 = Int64.ofNat (faN n))
def wofV (n : Nat) (a : Nat → Int) (i : Nat) (what : Int32) : Int32 := if what = 0 then Int32.ofInt ((a i).tdiv (Nat.gcd (faN n) (a i).natAbs : Nat)) else nI (faN n / Nat.gcd (faN n) (a i).natAbs)
def wofB (n : Nat) (p1 p2 : Int32) : Bool := decide (p1.toInt < 0 ∨ (n : Int) ≤ p1.toInt ∨ p2.toInt < 0 ∨ 1 < p2.toInt)
theorem oi32 {v : Int} (h1 : -1000000000 ≤ v) (h2 : v ≤ 1000000000) : (Int32.ofInt v).toInt = v := by
  rw [Int32.toInt_ofInt]
  exact Int.bmod_eq_of_le (by show -((4294967296 : Int) / 2) ≤ v; omega) (by show v < ((4294967296 : Int) + 1) / 2; omega)
theorem oi64 {v : Int} (h1 : -1000000000 ≤ v) (h2 : v ≤ 1000000000) : (Int64.ofInt v).toInt = v := by
  rw [Int64.toInt_ofInt]
  exact Int.bmod_eq_of_le (by show -((18446744073709551616 : Int) / 2) ≤ v; omega) (by show v < ((18446744073709551616 : Int) + 1) / 2; omega)
theorem on64 {v : Nat} (h : v ≤ 1000000000) : (Int64.ofNat v).toInt = (v : Int) := by
  rw [← Int64.ofInt_eq_ofNat]
  exact oi64 (by omega) (by omega)
theorem dv32 {v : Int} {q : Nat} (h1 : -1000000000 ≤ v) (h2 : v ≤ 1000000000) (hq : q ≤ 1000000000) : Int32.ofInt v / nI q = Int32.ofInt (v.tdiv (q : Int)) := by
  have b := Int.natAbs_tdiv_le_natAbs v (q : Int)
  rw [← Int32.toInt_inj, Int32.toInt_div, oi32 h1 h2, nI_toInt (by omega), oi32 (by omega) (by omega)]
  exact Int.bmod_eq_of_le (by show -((4294967296 : Int) / 2) ≤ _; omega) (by show _ < ((4294967296 : Int) + 1) / 2; omega)
theorem dv64 {v : Int} {q : Nat} (h1 : -1000000000 ≤ v) (h2 : v ≤ 1000000000) (hq : q ≤ 1000000000) : Int64.ofInt v / Int64.ofNat q = Int64.ofInt (v.tdiv (q : Int)) := by
  have b := Int.natAbs_tdiv_le_natAbs v (q : Int)
  rw [← Int64.toInt_inj, Int64.toInt_div, oi64 h1 h2, on64 hq, oi64 (by omega) (by omega)]
  exact Int.bmod_eq_of_le (by show -((18446744073709551616 : Int) / 2) ≤ _; omega) (by show _ < ((18446744073709551616 : Int) + 1) / 2; omega)
theorem to32 {v : Int} (h1 : -1000000000 ≤ v) (h2 : v ≤ 1000000000) : (Int64.ofInt v).toInt32 = Int32.ofInt v := by
  rw [← Int32.toInt_inj, Int64.toInt_toInt32, oi64 h1 h2, oi32 h1 h2]
  exact Int.bmod_eq_of_le (by show -((4294967296 : Int) / 2) ≤ _; omega) (by show _ < ((4294967296 : Int) + 1) / 2; omega)
theorem dn32 {p q : Nat} (hp : p ≤ 1000000000) (hq : q ≤ 1000000000) : nI p / nI q = nI (p / q) := by
  rw [nI_oi p, dv32 (by omega) (by omega) hq, ← Int.ofNat_tdiv, ← nI_oi]
theorem dn64 {p q : Nat} (hp : p ≤ 1000000000) (hq : q ≤ 1000000000) : Int64.ofNat p / Int64.ofNat q = Int64.ofNat (p / q) := by
  rw [← Int64.ofInt_eq_ofNat (n := p), dv64 (by omega) (by omega) hq, ← Int.ofNat_tdiv, Int64.ofInt_eq_ofNat]
theorem md32 {p q : Nat} (hp : p ≤ 1000000000) (hq : q ≤ 1000000000) : nI p - nI p / nI q * nI q = nI (p % q) := by
  rw [dn32 hp hq, nI_mu]
  have e := Nat.mod_add_div p q
  have c : p / q * q = q * (p / q) := Nat.mul_comm _ _
  rw [← Int32.toInt_inj, i_sub (nI_toInt (by omega)) (nI_toInt (by omega)) (by omega), nI_toInt (by omega)]
  omega
theorem md64 {p q : Nat} (hp : p ≤ 1000000000) (hq : q ≤ 1000000000) : Int64.ofNat p - Int64.ofNat p / Int64.ofNat q * Int64.ofNat q = Int64.ofNat (p % q) := by
  rw [dn64 hp hq, ← Int64.ofNat_mul]
  have e := Nat.mod_add_div p q
  have c : p / q * q = q * (p / q) := Nat.mul_comm _ _
  have e2 : Int64.ofNat p = Int64.ofNat (p % q) + Int64.ofNat (p / q * q) := by
    rw [← Int64.ofNat_add, c, e]
  rw [e2, Int64.add_sub_cancel]
theorem lg_n {v : Int64} : lg_cmp v 0 < 0 ↔ v.toInt < 0 := by
  have e0 : (0 : Int64).toInt = 0 := by decide
  unfold lg_cmp
  split
  · rename_i h
    have h : (0 : Int64) < v := h
    rw [Int64.lt_iff_toInt_lt, e0] at h
    exact iff_of_false (by decide) (by omega)
  · rename_i h
    have h : ¬ (0 : Int64) < v := h
    rw [Int64.lt_iff_toInt_lt, e0] at h
    split
    · rename_i h2
      rw [h2, e0]
      exact iff_of_false (by decide) (by omega)
    · rename_i h2
      refine iff_of_true (by decide) ?_
      have : v.toInt ≠ 0 := fun z => h2 (Int64.toInt_inj.mp (by rw [z, e0]))
      omega
theorem on_0 {y : Nat} (h : y ≤ 1000000000) : Int64.ofNat y = 0 ↔ y = 0 := by
  constructor
  · intro z
    have := congrArg Int64.toInt z
    rw [on64 h] at this
    have e0 : (0 : Int64).toInt = 0 := by decide
    omega
  · intro z
    rw [z]
    rfl
theorem gcd_s {p q : Nat} : Nat.gcd p q = Nat.gcd q (p % q) := by
  rw [Nat.gcd_comm p q, Nat.gcd_rec, Nat.gcd_comm]
variable {S : Nat × (Nat → Int32)} {d : Nat} {x : mX} {I : rI0} {J : rJ0}
/-- the class: commonDivisor -/
theorem c91x {o y : Nat} {Q : Int32 → rI0 → rJ0 → Prop} (ho : o ≤ 1000000000) (hy : y < 2 ^ 27) (k : Q (nI (Nat.gcd o y)) I J) : wcI S d 91 [.ref 37, .int (nI o), .int (nI y)] x I J Q := by
  have out : ∀ (l1 l2 : Int32) (p r : Nat), Q (nI p) I J → wp S d 91 8 [some (.ref 37), some (.int l1), some (.int l2), some (.int (nI p)), some (.int (nI 0)), some (.int (nI r)), none] [] (wv x I J) (rI x Q) := by
    intro l1 l2 p r c
    exact v91_37_8 ⟨fun _ => ⟨fun q => absurd q (by decide), fun _ => c⟩, fun _ => c⟩
  have one : ∀ (l1 l2 : Int32) (p q r : Nat), p ≤ 1000000000 → q ≤ 1000000000 → 0 < q → r < 64 → wp S d 91 8 [some (.ref 37), some (.int l1), some (.int l2), some (.int (nI q)), some (.int (nI (p % q))), some (.int (nI (r + 1))), none] [] (wv x I J) (rI x Q) → wp S d 91 8 [some (.ref 37), some (.int l1), some (.int l2), some (.int (nI p)), some (.int (nI q)), some (.int (nI r)), none] [] (wv x I J) (rI x Q) := by
    intro l1 l2 p q r hp hq h0 hr c
    refine v91_37_8 ⟨fun _ => ⟨fun _ => ⟨fun z => ?_, ?_⟩, fun z => absurd (nI_lt (a := 0) h0 (by omega)) z⟩, fun z => absurd (nI_lt (b := 64) hr (by omega)) z⟩
    · have := nI_inj (c := 0) (by omega) (by omega) z
      omega
    · rw [md32 hp hq, ← nI_succ]
      exact c
  have lp : ∀ (l1 l2 : Int32) (kk p q r : Nat), q < 2 ^ kk → r + 2 * kk ≤ 64 → p ≤ 1000000000 → q ≤ 1000000000 → Q (nI (Nat.gcd p q)) I J → wp S d 91 8 [some (.ref 37), some (.int l1), some (.int l2), some (.int (nI p)), some (.int (nI q)), some (.int (nI r)), none] [] (wv x I J) (rI x Q) := by
    intro l1 l2 kk
    induction kk with
    | zero =>
      intro p q r hq hr hp hq2 c
      have : q = 0 := by
        have : q < 1 := hq
        omega
      subst this
      rw [Nat.gcd_zero_right] at c
      exact out l1 l2 p r c
    | succ kk ih =>
      intro p q r hq hr hp hq2 c
      by_cases z : q = 0
      · subst z
        rw [Nat.gcd_zero_right] at c
        exact out l1 l2 p r c
      · have m1 := Nat.mod_lt p (show 0 < q by omega)
        refine one l1 l2 p q r hp hq2 (by omega) (by omega) ?_
        rw [gcd_s] at c
        by_cases z2 : p % q = 0
        · rw [z2] at c ⊢
          rw [Nat.gcd_zero_right] at c
          exact out l1 l2 q (r + 1) c
        · have m2 := Nat.mod_lt q (show 0 < p % q by omega)
          refine one l1 l2 q (p % q) (r + 1) hq2 (by omega) (by omega) (by omega) ?_
          rw [gcd_s] at c
          have e := Nat.mod_add_div q (p % q)
          have g1 : p % q ≤ p % q * (q / (p % q)) := Nat.le_mul_of_pos_right _ (Nat.div_pos (by omega) (by omega))
          have pw : 2 ^ (kk + 1) = 2 * 2 ^ kk := by rw [Nat.pow_succ, Nat.mul_comm]
          exact ih (p % q) (q % (p % q)) (r + 2) (by omega) (by omega) (by omega) (by omega) c
  exact c91_37 (lp _ _ 27 o y 0 hy (by omega) ho (by omega) k)
theorem na_27 {a : Int} (h1 : -82575360 ≤ a) (h2 : a ≤ 82575360) : a.natAbs < 2 ^ 27 := by
  show a.natAbs < 134217728
  omega
theorem ab_32 {a : Int} (h1 : -82575360 ≤ a) (h2 : a ≤ 82575360) : (if 0 ≤ Int32.ofInt a then Int32.ofInt a else 0 - Int32.ofInt a) = nI a.natAbs := by
  have e := oi32 (v := a) (by omega) (by omega)
  have e0 : (0 : Int32).toInt = 0 := by decide
  split
  · rename_i h
    rw [Int32.le_iff_toInt_le, e, e0] at h
    rw [nI_oi, Int.natAbs_of_nonneg h]
  · rename_i h
    rw [Int32.le_iff_toInt_le, e, e0] at h
    rw [← Int32.toInt_inj, i_sub e0 e (by omega), nI_toInt (by omega)]
    omega
/-- the class: worthOf -/
theorem xWof {n : Nat} {a : Nat → Int} {p1 p2 : Int32} {T : mX → rI0 → rJ0 → Prop} {Q : Int32 → rI0 → rJ0 → Prop} (h : WR n a I J) (kt : wofB n p1 p2 = true → 68 + x.1.length < 1000000 ∧ T (xA x (0, 11) 6) (va_up I (68 + x.1.length) (fun _ => 0)) (va_up J (68 + x.1.length) (fun _ => 0))) (k : ∀ i, i < n → p1 = nI i → wofB n p1 p2 = false → Q (wofV n a i p2) I J) : wcT S (d + 1) 124 [.ref 0, .int p1, .int p2] x I J T Q := by
  obtain ⟨n8, e7, -, ha, -⟩ := h
  have e0 : (0 : Int32).toInt = 0 := by decide
  have e1 : (1 : Int32).toInt = 1 := by decide
  refine c124_0 ⟨fun q => kt ?_, fun q => ⟨fun q2 => ⟨fun q3 => kt ?_, fun q3 => ⟨fun q4 => kt ?_, fun q4 => ?_⟩⟩, fun q2 => kt ?_⟩⟩
  · rw [Int32.lt_iff_toInt_lt, e0] at q
    exact decide_eq_true (Or.inl q)
  · rw [Int32.lt_iff_toInt_lt, e0] at q3
    exact decide_eq_true (Or.inr (Or.inr (Or.inl q3)))
  · rw [Int32.lt_iff_toInt_lt, e1] at q4
    exact decide_eq_true (Or.inr (Or.inr (Or.inr q4)))
  · rw [Int32.lt_iff_toInt_lt, e0] at q q3
    rw [Int32.lt_iff_toInt_lt, e1] at q4
    rw [e7, Int32.lt_iff_toInt_lt, nI_toInt (by omega)] at q2
    have ep : p1 = nI p1.toInt.toNat := Int32.toInt_inj.mp (by rw [nI_toInt (by omega)]; omega)
    have hw : wofB n p1 p2 = false := decide_eq_false (by omega)
    have kk := k p1.toInt.toNat (by omega) ep hw
    obtain ⟨a1, a2, e40, -⟩ := ha p1.toInt.toNat (by omega)
    have il : p1.toInt.toNat < 8 := by omega
    revert ep kk a1 a2 e40 il
    generalize p1.toInt.toNat = i
    intro ep kk a1 a2 e40 il
    have f8 := fa_8 n (by omega)
    have g0 := Nat.gcd_pos_of_pos_left (a i).natAbs (show 0 < faN n by omega)
    have g1 := Nat.gcd_le_left (a i).natAbs (show 0 < faN n by omega)
    rw [e7, ep]
    refine c90x (m := n) n8 (nI_toInt (by omega)) ?_
    rw [nI_clamp (by omega), e40, ab_32 a1 a2]
    refine ⟨nI_in (by omega) (by omega), c91x (by omega) (na_27 a1 a2) ?_⟩
    rw [e40]
    unfold wofV at kk
    revert kk g0 g1
    generalize Nat.gcd (faN n) (a i).natAbs = G
    intro kk g0 g1
    have gn : ¬ nI G = 0 := fun z => by
      have := nI_inj (c := 0) (by omega) (by omega) z
      omega
    refine ⟨fun z => absurd z (nI_nlt (b := 1) (by omega) (by omega)), fun _ => ⟨fun z => ⟨nI_in (by omega) (by omega), gn, ?_⟩, fun z => ⟨gn, ?_⟩⟩⟩
    · rw [if_pos z] at kk
      rw [dv32 (by omega) (by omega) (by omega)]
      exact kk
    · rw [if_neg z] at kk
      rw [dn32 (by omega) (by omega)]
      exact kk
  · rw [e7, Int32.lt_iff_toInt_lt, nI_toInt (by omega)] at q2
    exact decide_eq_true (Or.inr (Or.inl (by omega)))
/-- the reference: worthOf -/
theorem r225x {n : Nat} {a : Nat → Int} {p1 p2 : Int32} {Q : Int32 → rI0 → rJ0 → Prop} (h : WR n a I J) (kt : wofB n p1 p2 = true → Q 0 (mSet I 43 0 1) J) (k : ∀ i, i < n → p1 = nI i → wofB n p1 p2 = false → Q (wofV n a i p2) (mSet I 43 0 0) J) : wcI S (d + 1) 225 [.ref 43, .int p1, .int p2] x I J Q := by
  obtain ⟨n8, -, e52, ha, h53⟩ := h
  have e0 : (0 : Int32).toInt = 0 := by decide
  have e1 : (1 : Int32).toInt = 1 := by decide
  have en : (nI n - 1).toInt = (n : Int) - 1 := by
    rw [i_sub (nI_toInt (by omega)) e1 (by omega)]
  have bad : wofB n p1 p2 = true → wp S (d + 1) 225 29 [some (.ref 43), some (.int p1), some (.int p2), none, none, none, none, none, none] [.int (1), .ref 43] (wv x I J) (rI x Q) := by
    intro w
    exact v225_43_29 (c146_43 ⟨fun z => absurd z (by decide), fun _ => ⟨Or.inr rfl, fun z => absurd z (by decide), fun _ => kt w⟩⟩)
  refine c225_43 (c151 ?_)
  rw [e52]
  refine ⟨fun q => ⟨fun _ => bad ?_, fun z => absurd rfl z⟩, fun q => ⟨fun q2 => ⟨fun _ => bad ?_, fun z => absurd rfl z⟩, fun q2 => ⟨fun z => absurd z (by decide), fun _ => c151 ⟨fun q3 => ⟨fun _ => bad ?_, fun z => absurd rfl z⟩, fun q3 => ⟨fun q4 => ⟨fun _ => bad ?_, fun z => absurd rfl z⟩, fun q4 => ⟨fun z => absurd z (by decide), fun _ => ?_⟩⟩⟩⟩⟩⟩
  · rw [Int32.lt_iff_toInt_lt, e0] at q
    exact decide_eq_true (Or.inl q)
  · rw [Int32.lt_iff_toInt_lt, en] at q2
    exact decide_eq_true (Or.inr (Or.inl (by omega)))
  · rw [Int32.lt_iff_toInt_lt, e0] at q3
    exact decide_eq_true (Or.inr (Or.inr (Or.inl q3)))
  · rw [Int32.lt_iff_toInt_lt, e1] at q4
    exact decide_eq_true (Or.inr (Or.inr (Or.inr q4)))
  · rw [Int32.lt_iff_toInt_lt, e0] at q q3
    rw [Int32.lt_iff_toInt_lt, e1] at q4
    rw [Int32.lt_iff_toInt_lt, en] at q2
    have ep : p1 = nI p1.toInt.toNat := Int32.toInt_inj.mp (by rw [nI_toInt (by omega)]; omega)
    have hw : wofB n p1 p2 = false := decide_eq_false (by omega)
    have kk := k p1.toInt.toNat (by omega) ep hw
    obtain ⟨a1, a2, -, e59⟩ := ha p1.toInt.toNat (by omega)
    have h53 : J 43 53 = Int64.ofNat (faN n) := by
      rcases h53 with z | z
      · omega
      · exact z
    have il : p1.toInt.toNat < 8 := by omega
    revert ep kk a1 a2 e59 il
    generalize p1.toInt.toNat = i
    intro ep kk a1 a2 e59 il
    have f8 := fa_8 n (by omega)
    have g0 := Nat.gcd_pos_of_pos_left (a i).natAbs (show 0 < faN n by omega)
    have g1 := Nat.gcd_le_left (a i).natAbs (show 0 < faN n by omega)
    have na : (a i).natAbs ≤ 82575360 := by omega
    unfold wofV at kk
    have io : ¬ mOut p1 8 := by
      rw [ep]
      exact nI_in (by omega) (by omega)
    have ec : J 59 p1.toNatClampNeg = Int64.ofInt (a i) := by
      rw [ep, nI_clamp (by omega)]
      exact e59
    have lp : ∀ (q p : Nat), p ≤ 1000000000 → q ≤ 1000000000 → Nat.gcd p q = Nat.gcd (faN n) (a i).natAbs → wp S (d + 1) 225 71 [some (.ref 43), some (.int p1), some (.int p2), some (.long (Int64.ofNat q)), none, some (.long (Int64.ofNat p)), none, none, none] [] (wv x (mSet I 43 0 0) J) (rI x Q) := by
      intro q
      induction q using Nat.strongRecOn with
      | ind q ih =>
        intro p hp hq hg
        by_cases z : q = 0
        · subst z
          rw [Nat.gcd_zero_right] at hg
          have pn : ¬ Int64.ofNat p = 0 := fun w => by
            have := (on_0 hp).mp w
            omega
          refine v225_43_71 ⟨fun _ => ⟨fun w => ⟨io, pn, ?_⟩, fun w => ⟨pn, ?_⟩⟩, fun w => absurd (lg_z.mpr rfl) w⟩
          · rw [if_pos w, ← hg] at kk
            have b := Int.natAbs_tdiv_le_natAbs (a i) (p : Int)
            rw [ec, dv64 (by omega) (by omega) hp, to32 (by omega) (by omega)]
            exact kk
          · rw [if_neg w, ← hg] at kk
            have b : faN n / p ≤ faN n := Nat.div_le_self _ _
            revert b kk
            rw [h53, dn64 (by omega) hp]
            generalize faN n / p = w
            intro kk b
            rw [← Int64.ofInt_eq_ofNat, to32 (by omega) (by omega), ← nI_oi]
            exact kk
        · have qn : ¬ Int64.ofNat q = 0 := fun w => z ((on_0 hq).mp w)
          refine v225_43_71 ⟨fun w => absurd (lg_z.mp w) qn, fun _ => ⟨qn, ?_⟩⟩
          rw [md64 hp hq]
          have m1 := Nat.mod_lt p (show 0 < q by omega)
          exact ih (p % q) m1 q hq (by omega) (by rw [← gcd_s]; exact hg)
    refine v225_43_29 (c146_43 ⟨fun _ => ⟨Or.inl rfl, fun _ => ⟨io, ?_⟩, fun z => absurd rfl z⟩, fun z => absurd rfl z⟩)
    have e := oi64 (v := a i) (by omega) (by omega)
    rw [ec, h53]
    refine ⟨fun w => ⟨io, ?_⟩, fun w => ⟨io, ?_⟩⟩
    · rw [lg_n, e] at w
      rw [← Int64.ofInt_neg, show -(a i) = (((a i).natAbs : Nat) : Int) by omega, Int64.ofInt_eq_ofNat]
      exact lp (a i).natAbs (faN n) (by omega) (by omega) rfl
    · rw [lg_n, e] at w
      rw [show a i = (((a i).natAbs : Nat) : Int) by omega, Int64.ofInt_eq_ofNat]
      exact lp (a i).natAbs (faN n) (by omega) (by omega) rfl
end TR6
