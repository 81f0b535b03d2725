/-! trials: sides, whole -/
section TRC
variable {S : Nat × (Nat → Int32)} {d : Nat} {x : mX} {I I1 I2 : rI0} {J J1 J2 : rJ0} {g b : Nat → Int32} {W : Nat → lV} {P H : Nat → Bool} {A B : Nat}
theorem n1_i {n a : Nat} (hn : n ≤ 940) (ha : a ≤ 255) : ((nI n - 1) - nI a).toInt = (n : Int) - 1 - (a : Int) := by
  have e1 : (1 : Int32).toInt = 1 := by decide
  rw [i_sub (i_sub (nI_toInt (by omega)) e1 (by omega)) (nI_toInt (by omega)) (by omega)]
theorem sd_l {n : Nat} (hb0 : 0 ≤ (b 0).toInt ∧ (b 0).toInt ≤ 255) : sdA b n ≤ 255 := by
  unfold sdA
  split <;> omega
/-- the class: sides -/
theorem xSides {n : Nat} {Q : Int32 → rI0 → rJ0 → Prop} (hC : CE g W P H I J) (hb0 : 0 ≤ (I 2 0).toInt ∧ (I 2 0).toInt ≤ 255) (e1 : I 1 1 = nI n) (hn : n ≤ 940) (k0 : sdB g (I 2) n = false → Q (-1) (mSet I 1 1 0) J) (k1 : sdB g (I 2) n = true → ∀ I' J', FS (mSet I 1 1 0) J I' J' → I' 37 9 = nI (mxS (shN g W P H (I 2) (sdA (I 2) n)) (seS (shN g W P H (I 2) (sdA (I 2) n)) (sdA (I 2) n) (n - 1 - sdA (I 2) n)) (sdA (I 2) n)) → I' 37 10 = I 2 (1 + fiS (shN g W P H (I 2) (sdA (I 2) n)) (n - 1 - sdA (I 2) n) (sdA (I 2) n)) → I' 37 11 = I 2 (1 + (sdA (I 2) n + seS (shN g W P H (I 2) (sdA (I 2) n)) (sdA (I 2) n) (n - 1 - sdA (I 2) n))) → Q (nI (mnS (shN g W P H (I 2) (sdA (I 2) n)) (fiS (shN g W P H (I 2) (sdA (I 2) n)) (n - 1 - sdA (I 2) n) (sdA (I 2) n)) (n - 1 - sdA (I 2) n))) I' J') : wcI S (d + 24) 125 [.ref 0] x I J Q := by
  have sl := sd_l (n := n) hb0
  have one : (1 : Int32).toInt = 1 := by decide
  have six : (6 : Int32).toInt = 6 := by decide
  have core : wp S (d + 24) 125 25 [some (.ref 0), some (.int (nI n)), none, none] [.int (nI (sdA (I 2) n))] (wv x (mSet I 1 1 0) J) (rI x Q) := by
    have no : ¬ (1 ≤ sdA (I 2) n ∧ sdA (I 2) n ≤ 6 ∧ sdA (I 2) n + 2 ≤ n ∧ n ≤ sdA (I 2) n + 7) → Q (-1) (mSet I 1 1 0) J := fun z => k0 (by
      unfold sdB
      rw [decide_eq_false z, Bool.false_and])
    have ni := n1_i hn sl
    refine v125_0_25 (d := d + 23) ⟨fun q => no ?_, fun q => ⟨fun q2 => no ?_, fun q2 => ⟨fun q3 => no ?_, fun q3 => ⟨fun q4 => no ?_, fun q4 => ?_⟩⟩⟩⟩
    · rw [Int32.lt_iff_toInt_lt, one, nI_toInt (by omega)] at q
      omega
    · rw [Int32.lt_iff_toInt_lt, six, nI_toInt (by omega)] at q2
      omega
    · rw [Int32.lt_iff_toInt_lt, one, ni] at q3
      omega
    · rw [Int32.lt_iff_toInt_lt, six, ni] at q4
      omega
    · rw [Int32.lt_iff_toInt_lt, one, nI_toInt (by omega)] at q
      rw [Int32.lt_iff_toInt_lt, six, nI_toInt (by omega)] at q2
      rw [Int32.lt_iff_toInt_lt, one, ni] at q3
      rw [Int32.lt_iff_toInt_lt, six, ni] at q4
      have hk : 1 ≤ sdA (I 2) n ∧ sdA (I 2) n ≤ 6 ∧ sdA (I 2) n + 2 ≤ n ∧ n ≤ sdA (I 2) n + 7 := by omega
      have hC1 := hC.tk
      refine c81x (d := d + 22) (g := g) (b := I 2) (a := 1) hC1.2.1.2.2.2.2.1 rfl (by omega) hn ?_
      have eb : sdB g (I 2) n = ulB g (I 2) 1 (n - 1) := by
        unfold sdB
        rw [decide_eq_true hk, Bool.true_and]
      rw [← eb]
      cases y : sdB g (I 2) n with
      | false => exact ⟨fun _ => k0 y, fun z => absurd rfl z⟩
      | true =>
        refine ⟨fun z => absurd z (by decide), fun _ => ?_⟩
        have kk := k1 y
        rw [y] at eb
        have en : n = 1 + (sdA (I 2) n + (n - 1 - sdA (I 2) n)) := by omega
        have en2 : n - 1 = sdA (I 2) n + (n - 1 - sdA (I 2) n) := by omega
        rw [en2] at eb
        have cc := c92x (S := S) (d := d) (x := x) (A := sdA (I 2) n) (B := n - 1 - sdA (I 2) n) (b := I 2) (Q := Q) hC1 rfl (by omega) (by omega) (by omega) (by omega) eb.symm kk
        rw [← en] at cc
        exact cc
  refine c125_0 (d := d + 23) (c67_1 ?_)
  rw [e1]
  by_cases z : n = 0
  · have ea : sdA (I 2) n = 0 := if_pos z
    rw [ea] at core
    exact ⟨fun q => absurd q (by rw [z]; decide), fun _ => core⟩
  · have ea : nI (sdA (I 2) n) = I 2 0 := by
      rw [show sdA (I 2) n = (I 2 0).toInt.toNat from if_neg z, ← Int32.toInt_inj, nI_toInt (by omega)]
      omega
    rw [ea] at core
    exact ⟨fun _ => ⟨by decide, core⟩, fun q => absurd (nI_lt (a := 0) (by omega) (by omega)) q⟩
/-- the reference: sides -/
theorem ySides {n : Nat} {Q : Int32 → rI0 → rJ0 → Prop} (hR : RH g W I J) (h3 : gN g 3 ≤ 64) (e16 : ∀ s, s < 64 → bits5 (J 43 16) s = P s) (e17 : ∀ s, s < 64 → bits5 (J 43 17) s = H s) (hb : ∀ i, i < 940 → I 44 i &&& 255 = b i) (hb0 : 0 ≤ (b 0).toInt ∧ (b 0).toInt ≤ 255) (e2 : I 43 2 = nI n) (hn : n ≤ 940) (k0 : sdB g b n = false → ∀ I', FU I J I' J → RH g W I' J → Q (-1) I' J) (k1 : sdB g b n = true → ∀ I' J', FY I J I' J' → RH g W I' J' → I' 43 55 = 1 → I' 60 0 = nI (mxS (shN g W P H b (sdA b n)) (seS (shN g W P H b (sdA b n)) (sdA b n) (n - 1 - sdA b n)) (sdA b n)) → I' 60 1 = b (1 + fiS (shN g W P H b (sdA b n)) (n - 1 - sdA b n) (sdA b n)) → I' 60 2 = b (1 + (sdA b n + seS (shN g W P H b (sdA b n)) (sdA b n) (n - 1 - sdA b n))) → Q (nI (mnS (shN g W P H b (sdA b n)) (fiS (shN g W P H b (sdA b n)) (n - 1 - sdA b n) (sdA b n)) (n - 1 - sdA b n))) I' J') : wcI S (d + 6) 226 [.ref 43] x I J Q := by
  have sl := sd_l (n := n) hb0
  have one : (1 : Int32).toInt = 1 := by decide
  have six : (6 : Int32).toInt = 6 := by decide
  have hR1 : RH g W (mSet I 43 0 0) J := hR.t
  have f0 : FT (mSet I 43 0 0) (mSet (mSet (mSet (mSet (mSet I 43 0 0) 43 3 (mSet I 43 0 0 43 2)) 43 2 0) 43 4 0) 43 5 940) := ⟨fun r h _ => by rw [mSet_ne h, mSet_ne h, mSet_ne h, mSet_ne h], fun q h _ => by unfold mSet va_up; rw [if_pos rfl, if_neg (by omega), if_pos rfl, if_neg (by omega), if_pos rfl, if_neg (by omega), if_pos rfl, if_neg (by omega)], rfl⟩
  have e3 : (mSet (mSet (mSet (mSet (mSet I 43 0 0) 43 3 (mSet I 43 0 0 43 2)) 43 2 0) 43 4 0) 43 5 940) 43 3 = nI n := e2
  refine c226_43 (d := d + 5) (c150_43 ?_)
  revert f0 e3
  generalize mSet (mSet (mSet (mSet (mSet I 43 0 0) 43 3 (mSet I 43 0 0 43 2)) 43 2 0) 43 4 0) 43 5 940 = T
  intro f0 e3
  have rT := hR1.ft f0
  have bT : ∀ i, i < 940 → T 44 i &&& 255 = b i := fun i hi => by
    rw [f0.1 44 (by decide) (by decide), mSet_ne (by decide)]
    exact hb i hi
  have core : wp S (d + 6) 226 28 [some (.ref 43), none, none, none, none, none, none, none, none] [.int (nI (sdA b n))] (wv x T J) (rI x Q) := by
    have no : ¬ (1 ≤ sdA b n ∧ sdA b n ≤ 6 ∧ sdA b n + 2 ≤ n ∧ n ≤ sdA b n + 7) → Q (-1) T J := fun z => k0 (by
      unfold sdB
      rw [decide_eq_false z, Bool.false_and]) T f0.u rT
    have ni := n1_i hn sl
    refine v226_43_28 (d := d + 5) (c151 ⟨fun q => ⟨fun _ => no ?_, fun z => absurd rfl z⟩, fun q => ⟨fun q2 => ⟨fun _ => no ?_, fun z => absurd rfl z⟩, fun q2 => ⟨fun z => absurd z (by decide), fun _ => ?_⟩⟩⟩)
    · rw [Int32.lt_iff_toInt_lt, one, nI_toInt (by omega)] at q
      omega
    · rw [Int32.lt_iff_toInt_lt, six, nI_toInt (by omega)] at q2
      omega
    · rw [e3]
      refine c151 ⟨fun q3 => ⟨fun _ => no ?_, fun z => absurd rfl z⟩, fun q3 => ⟨fun q4 => ⟨fun _ => no ?_, fun z => absurd rfl z⟩, fun q4 => ⟨fun z => absurd z (by decide), fun _ => ?_⟩⟩⟩
      · rw [Int32.lt_iff_toInt_lt, one, ni] at q3
        omega
      · rw [Int32.lt_iff_toInt_lt, six, ni] at q4
        omega
      · rw [Int32.lt_iff_toInt_lt, one, nI_toInt (by omega)] at q
        rw [Int32.lt_iff_toInt_lt, six, nI_toInt (by omega)] at q2
        rw [Int32.lt_iff_toInt_lt, one, ni] at q3
        rw [Int32.lt_iff_toInt_lt, six, ni] at q4
        have hk : 1 ≤ sdA b n ∧ sdA b n ≤ 6 ∧ sdA b n + 2 ≤ n ∧ n ≤ sdA b n + 7 := by omega
        rw [e3]
        refine r216x (a := 1) (b := b) (d := d + 3) rT.1 rT.2.1 rT.2.2.2.2.1 bT (by omega) hn (by omega) (fun I3 f1 f2 h47 => ?_)
        have f3 : FT (mSet I 43 0 0) I3 := ⟨fun r h1 h2 => (f1 r h1 h2).trans (f0.1 r h1 h2), fun q h1 h2 => (f2 q h2).trans (f0.2.1 q h1 h2), (f2 2 (by decide)).trans f0.2.2⟩
        have r3 := hR1.ft f3
        have eb : sdB g b n = ulB g b 1 (n - 1) := by
          unfold sdB
          rw [decide_eq_true hk, Bool.true_and]
        rw [← eb] at h47 ⊢
        cases y : sdB g b n with
        | false => exact ⟨fun _ => k0 y I3 f3.u r3, fun z => absurd rfl z⟩
        | true =>
          refine ⟨fun z => absurd z (by decide), fun _ => ?_⟩
          obtain ⟨e47, h56⟩ := h47 y
          have kk := k1 y
          rw [y] at eb
          have en2 : n - 1 = sdA b n + (n - 1 - sdA b n) := by omega
          have eB : I3 43 47 - nI (sdA b n) = nI (n - 1 - sdA b n) := by
            rw [e47, ← Int32.toInt_inj, i_sub (nI_toInt (by omega)) (nI_toInt (by omega)) (by omega), nI_toInt (by omega)]
            omega
          rw [eB]
          rw [en2] at eb
          exact r226l (d := d) (A := sdA b n) (B := n - 1 - sdA b n) (b := b) h3 e16 e17 (by omega) (by omega) (by omega) (by omega) eb.symm (f3.u).y r3 (fun q hq => h56 q (by omega)) kk
  by_cases z : n = 0
  · have ea : sdA b n = 0 := if_pos z
    rw [ea] at core
    exact ⟨fun _ => core, fun q => absurd (by rw [e3, z]; rfl) q⟩
  · have ea : nI (sdA b n) = b 0 := by
      rw [show sdA b n = (b 0).toInt.toNat from if_neg z, ← Int32.toInt_inj, nI_toInt (by omega)]
      omega
    rw [ea] at core
    refine ⟨fun q => absurd q ?_, fun _ => c155_43 ⟨by decide, ?_⟩⟩
    · rw [e3]
      exact fun w => z (nI_inj (c := 0) (by omega) (by omega) w)
    · have c0 : (0 : Int32).toNatClampNeg = 0 := by decide
      rw [c0, bT 0 (by omega)]
      exact core
end TRC
