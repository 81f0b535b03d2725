/-! the reference's nights: levelOf, heldOf, lawLevel, moment -/
section RM0
/-- numbers of a row that are as they are read -/
def GI (g : Nat → Int32) : Prop := (∀ k, k ≤ 5 → g k = nI (gN g k)) ∧ (∀ s, s < 64 → g (6 + s) = nI (gN g (6 + s)) ∧ gN g (6 + s) ≤ 6) ∧ (∀ r, r < 8 → g (70 + r) = nI (gN g (70 + r)) ∧ gN g (70 + r) ≤ 999 ∧ g (78 + r) = nI (gN g (78 + r)) ∧ gN g (78 + r) ≤ 601) ∧ g 590 = nI (gN g 590) ∧ (∀ i, i < gN g 590 → g (591 + 3 * i) = nI (gN g (591 + 3 * i)) ∧ g (592 + 3 * i) = nI (gN g (592 + 3 * i)) ∧ (gN g (592 + 3 * i) ≠ 3 → g (593 + 3 * i) = nI (gN g (593 + 3 * i))))
def RP (J : rJ0) (N hd : Nat → Nat) : Prop := ∀ s, s < 64 → bits5 (J 43 38) s = decide (1 ≤ N s) ∧ bits5 (J 43 39) s = decide (2 ≤ N s) ∧ bits5 (J 43 40) s = decide (hd s % 2 = 1) ∧ bits5 (J 43 41) s = decide (2 ≤ hd s)
/-- ahead of t -/
def pvN (g : Nat → Int32) (W : Nat → lV) (P H : Nat → Bool) : Nat → (Nat → Nat) × (Nat → Nat)
  | 0 => (fun _ => 0, fun _ => 0)
  | t + 1 => nt g W P H t
/-- the reference's night, its next moment being t -/
def RSn (g : Nat → Int32) (W : Nat → lV) (P H : Nat → Bool) (t : Nat) (I : rI0) (J : rJ0) : Prop := I 43 42 = nI t ∧ I 43 43 = nI (prN g t) ∧ (∀ s, s < 64 → bits5 (J 43 36) s = cuP g 0 P (prN g t) s) ∧ (∀ s, s < 64 → bits5 (J 43 37) s = cuP g 1 H (prN g t) s) ∧ RP J (pvN g W P H t).1 (pvN g W P H t).2
/-- what a moment leaves as it was -/
def FM (I : rI0) (J : rJ0) (I' : rI0) (J' : rJ0) : Prop := (∀ b, b ≠ 43 → b ≠ 50 → I' b = I b) ∧ (∀ q, q ≠ 42 → q ≠ 43 → I' 43 q = I 43 q) ∧ (∀ b, b ≠ 43 → ¬ (52 ≤ b ∧ b ≤ 55) → J' b = J b) ∧ ∀ q, ¬ (36 ≤ q ∧ q ≤ 41) → J' 43 q = J 43 q
variable {S : Nat × (Nat → Int32)} {d : Nat} {x : mX} {I : rI0} {J : rJ0} {g : Nat → Int32} {W : Nat → lV} {N hd : Nat → Nat} {P H L : Nat → Bool} {py st : Bool}
theorem FM.rf : FM I J I J := ⟨fun _ _ _ => rfl, fun _ _ _ => rfl, fun _ _ _ => rfl, fun _ _ => rfl⟩
theorem FM.tr {I1 I2 : rI0} {J1 J2 : rJ0} (h : FM I J I1 J1) (h2 : FM I1 J1 I2 J2) : FM I J I2 J2 := ⟨fun b h3 h4 => (h2.1 b h3 h4).trans (h.1 b h3 h4), fun q h3 h4 => (h2.2.1 q h3 h4).trans (h.2.1 q h3 h4), fun b h3 h4 => (h2.2.2.1 b h3 h4).trans (h.2.2.1 b h3 h4), fun q h3 => (h2.2.2.2 q h3).trans (h.2.2.2 q h3)⟩
theorem hoX {p : Int64} {v : Nat} {Q : Int32 → rI0 → rJ0 → Prop} (hv : v < 64) (k : Q (nI (if bits5 p v = true then 1 else 0)) I J) : wcI S d 153 [.long p, .int (nI v)] x I J Q := by
  refine c153 ⟨fun z => ?_, fun z => ?_⟩
  · rw [if_pos (b5_SB.mp ((hb_iff hv).mp z))] at k
    exact k
  · rw [if_neg (show ¬ bits5 p v = true from fun y => z ((hb_iff hv).mpr (b5_SB.mpr y)))] at k
    exact k
theorem lvO {v : Nat} {Q : Int32 → rI0 → rJ0 → Prop} (hv : v < 64) (h : RP J N hd) (o : N v ≤ 2) (k : Q (nI (N v)) I J) : wcI S (d + 1) 196 [.ref 43, .int (nI v)] x I J Q := by
  obtain ⟨a1, a2, _, _⟩ := h v hv
  refine c196_43 (hoX hv ?_)
  rw [a2]
  rcases (show N v = 0 ∨ N v = 1 ∨ N v = 2 by omega) with z | z | z
  · rw [z] at k a1 ⊢
    refine ⟨fun _ => hoX hv ?_, fun y => absurd rfl y⟩
    rw [a1]
    exact ⟨fun _ => k, fun y => absurd rfl y⟩
  · rw [z] at k a1 ⊢
    refine ⟨fun _ => hoX hv ?_, fun y => absurd rfl y⟩
    rw [a1]
    exact ⟨fun y => absurd y (by decide), fun _ => k⟩
  · rw [z] at k ⊢
    exact ⟨fun y => absurd y (by decide), fun _ => k⟩
theorem hdO {v : Nat} {Q : Int32 → rI0 → rJ0 → Prop} (hv : v < 64) (h : RP J N hd) (o : hd v ≤ 3) (k : Q (nI (hd v)) I J) : wcI S (d + 1) 197 [.ref 43, .int (nI v)] x I J Q := by
  obtain ⟨_, _, a3, a4⟩ := h v hv
  refine c197_43 (hoX hv ?_)
  rw [a3]
  rcases (show hd v = 0 ∨ hd v = 1 ∨ hd v = 2 ∨ hd v = 3 by omega) with z | z | z | z
  · rw [z] at k a4 ⊢
    refine ⟨fun _ => hoX hv ?_, fun y => absurd rfl y⟩
    rw [a4]
    exact ⟨fun _ => k, fun y => absurd rfl y⟩
  · rw [z] at k a4 ⊢
    refine ⟨fun y => absurd y (by decide), fun _ => hoX hv ?_⟩
    rw [a4]
    exact ⟨fun _ => k, fun y => absurd rfl y⟩
  · rw [z] at k a4 ⊢
    refine ⟨fun _ => hoX hv ?_, fun y => absurd rfl y⟩
    rw [a4]
    exact ⟨fun y => absurd y (by decide), fun _ => k⟩
  · rw [z] at k a4 ⊢
    refine ⟨fun y => absurd y (by decide), fun _ => hoX hv ?_⟩
    rw [a4]
    exact ⟨fun y => absurd y (by decide), fun _ => k⟩
/-- a law's number in the row -/
theorem tl_i {l : Nat} : tlB g l = true ↔ (0 : Int32) < g (86 + 42 * l) := by
  unfold tlB
  rw [decide_eq_true_iff, Int32.lt_iff_toInt_lt]
  rfl
/-- lawLevel -/
theorem lwO {v : Nat} {p2 p3 : Int64} {Q : Int32 → rI0 → rJ0 → Prop} (hI : GI (I 45)) (hW : HW (I 45)) (hL : LR (I 45) W) (hA : AR (I 45) J) (hG : GA (I 45)) (hv : seB (I 45) v = true) (oN : okN (I 45) N) (oH : okH (I 45) hd) (b3 : ∀ u, u < 64 → bits5 p2 u = decide (1 ≤ N u)) (b4 : ∀ u, u < 64 → bits5 p3 u = decide (2 ≤ N u)) (k : ∀ I', (∀ b, b ≠ 50 → I' b = I b) → Q (nI (lwN (I 45) W N hd v)) I' J) : wcI S (d + 2) 198 [.ref 43, .int (nI v), .long p2, .long p3, .int (nI (N v)), .int (nI (hd v))] x I J Q := by
  have hv64 := seB_l hv
  obtain ⟨k1, k2⟩ := hI.2.1 v hv64
  have k3 := (hG.2.2.2.2.1 v hv).2
  have kp : gN (I 45) (6 + v) = kdN (I 45) v + 1 := by
    have hp : 0 < (I 45 (6 + v)).toInt := by
      unfold seB at hv
      rw [Bool.and_eq_true] at hv
      exact of_decide_eq_true hv.2
    unfold kdN
    have : 0 < gN (I 45) (6 + v) := by
      unfold gN
      omega
    omega
  have i1 : ((6 : Int32) + nI v).toNatClampNeg = 6 + v := by
    show (nI 6 + nI v).toNatClampNeg = _
    rw [nI_add, nI_clamp (by omega)]
  have o1 : ¬ mOut ((6 : Int32) + nI v) 681 := by
    show ¬ mOut (nI 6 + nI v) 681
    rw [nI_add]
    exact nI_in (by omega) (by omega)
  have e1 : (86 : Int32) + ((84 : Int32) * (I 45 (6 + v) - (1 : Int32))) = nI (86 + 42 * (2 * kdN (I 45) v)) := by
    rw [k1, kp, nI_pr]
    show nI 86 + (nI 84 * nI (kdN (I 45) v)) = _
    rw [nI_mu, nI_add]
    exact congrArg nI (by omega)
  have e2 : nI (86 + 42 * (2 * kdN (I 45) v)) + (42 : Int32) = nI (86 + 42 * (2 * kdN (I 45) v + 1)) := by
    show _ + nI 42 = _
    rw [nI_add]
    exact congrArg nI (by omega)
  have hn := (oN v).1
  have down : ∀ I1 : rI0, (∀ b, b ≠ 50 → I1 b = I b) → lwB (I 45) W N hd (2 * kdN (I 45) v) v = false → wp S (d + 2) 198 61 [some (.ref 43), some (.int (nI v)), some (.long p2), none, some (.long p3), none, some (.int (nI (N v))), some (.int (nI (hd v))), some (.int (nI (86 + 42 * (2 * kdN (I 45) v))))] [] (wv x I1 J) (rI x Q) := by
    intro I1 f hu
    refine v198_43_61 ?_
    rw [e2, nI_clamp (by omega), f 45 (by decide)]
    refine ⟨nI_in (by omega) (by omega), fun q => ?_, fun q => ?_⟩
    · have tl := tl_i.mpr q
      have h45 : I1 45 = I 45 := f 45 (by decide)
      refine ilw (I := I1) (W := W) (N := N) (hd := hd) (by rw [h45]; exact hW) (by rw [h45]; exact hL) (by rw [h45]; exact hA) (by omega) (by rw [h45]; exact tl) (by rw [h45]; exact hv) (by rw [h45]; exact oN) (by rw [h45]; exact oH) b3 b4 (fun I2 f2 => ?_)
      have f3 : ∀ b, b ≠ 50 → I2 b = I b := fun b hb => (f2 b hb).trans (f b hb)
      have kk := k I2 f3
      unfold lwN at kk
      rw [hu, if_neg (by decide)] at kk
      rw [h45]
      cases z : lwB (I 45) W N hd (2 * kdN (I 45) v + 1) v with
      | false =>
        rw [z, if_neg (by decide)] at kk
        exact ⟨fun _ => kk, fun y => absurd rfl y⟩
      | true =>
        rw [z, if_pos rfl] at kk
        refine ⟨fun y => absurd y (by decide), fun _ => ⟨fun y => ?_, fun y => ?_⟩⟩
        · have y : 0 < N v := (nI_ltI (a := 0) (by omega) (by omega)).mp y
          have e : nI (N v) - (1 : Int32) = nI (N v - 1) := by
            have := nI_pr (N v - 1)
            rw [show N v - 1 + 1 = N v by omega] at this
            exact this
          rw [e]
          exact kk
        · have y : N v = 0 := by
            rcases Nat.eq_zero_or_pos (N v) with w | w
            · exact w
            · exact absurd (nI_lt (a := 0) w (by omega)) y
          rw [y] at kk
          exact kk
    · have tl : tlB (I 45) (2 * kdN (I 45) v + 1) = false := ts_nt (fun y => q (tl_i.mp y))
      have kk := k I1 f
      unfold lwN at kk
      rw [hu, if_neg (by decide), show lwB (I 45) W N hd (2 * kdN (I 45) v + 1) v = false by unfold lwB; rw [tl]; rfl, if_neg (by decide)] at kk
      exact kk
  refine c198_43 ?_
  rw [i1, e1, nI_clamp (by omega)]
  refine ⟨o1, nI_in (by omega) (by omega), fun q => ?_, fun q => down I (fun _ _ => rfl) ?_⟩
  · have tl := tl_i.mpr q
    refine ilw (W := W) (N := N) (hd := hd) hW hL hA (by omega) tl hv oN oH b3 b4 (fun I2 f2 => ?_)
    cases z : lwB (I 45) W N hd (2 * kdN (I 45) v) v with
    | false => exact ⟨fun _ => down I2 f2 z, fun y => absurd rfl y⟩
    | true =>
      have kk := k I2 f2
      unfold lwN at kk
      rw [z, if_pos rfl] at kk
      refine ⟨fun y => absurd y (by decide), fun _ => ⟨fun y => ?_, fun y => ?_⟩⟩
      · have y : N v < 2 := (nI_ltI (b := 2) (by omega) (by omega)).mp y
        rw [if_pos y] at kk
        rw [← nI_succ]
        exact kk
      · have y : ¬ N v < 2 := fun w => y (nI_lt (b := 2) w (by omega))
        rw [if_neg y] at kk
        exact kk
  · unfold lwB
    rw [show tlB (I 45) (2 * kdN (I 45) v) = false from ts_nt (fun y => q (tl_i.mp y))]
    rfl
/-! rows, one behind another -/
theorem rw_e {r s : Nat} : rwB g r s = true ↔ r * gN g 1 ≤ s ∧ s < (r + 1) * gN g 1 := by
  unfold rwB
  rw [Bool.and_eq_true, decide_eq_true_iff, decide_eq_true_iff]
theorem rwN_old : ∀ r s, r * gN g 1 ≤ s → rwN g W P H L py st N hd r s = N s := by
  intro r
  induction r with
  | zero => intro s _; rfl
  | succ r ih =>
    intro s hs
    have e : (r + 1) * gN g 1 = r * gN g 1 + gN g 1 := Nat.succ_mul _ _
    show (if rwB g r s = true then _ else rwN g W P H L py st N hd r s) = _
    rw [if_neg (fun z => by have := (rw_e.mp z).2; omega)]
    exact ih s (by omega)
theorem rwN_fix {r s : Nat} (h : rwB g r s = true) : ∀ R, r < R → rwN g W P H L py st N hd R s = thN g W P H L py st (rwN g W P H L py st N hd r) hd s := by
  intro R
  induction R with
  | zero => intro h; exact absurd h (by omega)
  | succ R ih =>
    intro hR
    show (if rwB g R s = true then thN g W P H L py st (rwN g W P H L py st N hd R) hd s else rwN g W P H L py st N hd R s) = _
    by_cases z : r = R
    · subst z
      rw [if_pos h]
    · have e : (r + 1) * gN g 1 ≤ R * gN g 1 := Nat.mul_le_mul_right _ (by omega)
      rw [if_neg (fun y => by have := (rw_e.mp y).1; have := (rw_e.mp h).2; omega)]
      exact ih (by omega)
/-- what row r perceives -/
def Mr (g : Nat → Int32) (W : Nat → lV) (P H L : Nat → Bool) (py st : Bool) (N hd : Nat → Nat) (r : Nat) : Nat → Nat := if gN g 5 = 0 then N else rwN g W P H L py st N hd r
theorem Mr_o (h : okN g N) (r : Nat) : okN g (Mr g W P H L py st N hd r) := by
  unfold Mr
  split
  · exact h
  · exact rwN_o h r
theorem Mr_v {r s : Nat} (h : r * gN g 1 ≤ s) : Mr g W P H L py st N hd r s = N s := by
  unfold Mr
  split
  · rfl
  · exact rwN_old r s h
theorem nx_X {r s : Nat} (hr : r < gN g 0) (h : rwB g r s = true) (hs : seB g s = true) : nxN g W P H L py st N hd s = thN g W P H L py st (Mr g W P H L py st N hd r) hd s := by
  unfold nxN Mr
  split
  · show (if seB g s = true then _ else _) = _
    rw [if_pos hs]
  · exact rwN_fix h _ hr
/-- row by row: what the next row perceives -/
theorem Mr_n {r s : Nat} (h5 : gN g 5 ≠ 0) (hr : r < gN g 0) (o : okN g N) : Mr g W P H L py st N hd (r + 1) s = if s < (r + 1) * gN g 1 then nxN g W P H L py st N hd s else N s := by
  by_cases z : s < (r + 1) * gN g 1
  · rw [if_pos z]
    unfold Mr nxN
    rw [if_neg h5, if_neg h5]
    have hc : 0 < gN g 1 := by
      rcases Nat.eq_zero_or_pos (gN g 1) with y | y
      · rw [y] at z
        omega
      · exact y
    have e1 := Nat.div_add_mod s (gN g 1)
    have e2 := Nat.mod_lt s hc
    have e3 : (s / gN g 1 + 1) * gN g 1 = gN g 1 * (s / gN g 1) + gN g 1 := by rw [Nat.succ_mul, Nat.mul_comm]
    have hq : rwB g (s / gN g 1) s = true := rw_e.mpr ⟨Nat.div_mul_le_self s _, by omega⟩
    have hl : s / gN g 1 < r + 1 := Nat.div_lt_of_lt_mul (by rw [Nat.mul_comm]; exact z)
    rw [rwN_fix hq (r + 1) hl, rwN_fix hq (gN g 0) (by omega)]
  · rw [if_neg z]
    exact Mr_v (by omega)
end RM0
