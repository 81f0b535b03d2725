section
/-! KINDS and areas of the class's house -/
section CK0
variable {S : Nat × (Nat → Int32)} {d : Nat} {x : mX} {I : rI0} {J : rJ0} {g : Nat → Int32}
/-- setKind -/
theorem sk_16 {s : Nat} {p2 : Int32} {Q : rI0 → rJ0 → Prop} (hs : s < 64) (k : ∀ J', (∀ b, b ≠ 18 → J' b = J b) → (∀ q, q < 6 → ∀ u, u < 64 → bits5 (J' 18 q) u = if u = s then decide (p2 = nI q) else bits5 (J 18 q) u) → Q (mSet I 17 s p2) J') : wcV S (d + 1) 31 [.ref 16, .int (nI s), .int p2] x I J Q := by
  have lp : ∀ (m kk : Nat) (J1 : rJ0), kk + m = 6 → (∀ b, b ≠ 18 → J1 b = J b) → (∀ q, q < 6 → ∀ u, u < 64 → bits5 (J1 18 q) u = if q < kk then (if u = s then decide (p2 = nI q) else bits5 (J 18 q) u) else bits5 (J 18 q) u) → wp S (d + 1) 31 2 [some (.ref 16), some (.int (nI s)), some (.int p2), some (.int (nI kk))] [] (wv x I J1) (rV x Q) := by
    intro m
    induction m with
    | zero =>
      intro kk J1 hk f h
      refine v31_16_2 ⟨fun q => absurd q (nI_nlt (b := 6) (by omega) (by omega)), fun _ => ⟨nI_in hs (by omega), ?_⟩⟩
      rw [nI_clamp (by omega)]
      refine k J1 f (fun q hq u hu => ?_)
      rw [h q hq u hu, if_pos (by omega)]
    | succ m ih =>
      intro kk J1 hk f h
      have k6 : kk < 6 := by omega
      have go : ∀ e : Nat, e ≤ 1 → decide (e = 1) = decide (p2 = nI kk) → ¬ mOut (nI kk) 6 ∧ wp S (d + 1) 31 2 [some (.ref 16), some (.int (nI s)), some (.int p2), some (.int (nI kk + (1 : Int32)))] [] (wv x I (mSet J1 18 kk ((J1 18 kk &&& (((1 : Int64) <<< ((nI s).toInt64 &&& 63)) ^^^ (-1 : Int64))) ||| ((nI e).toInt64 <<< ((nI s).toInt64 &&& 63))))) (rV x Q) := by
        intro e he ee
        refine ⟨nI_in k6 (by omega), ?_⟩
        rw [← nI_succ]
        refine ih (kk + 1) _ (by omega) (fun b hb => (mSet_ne hb).trans (f b hb)) (fun q hq u hu => ?_)
        have ev : ∀ v : Int64, mSet J1 18 kk v 18 q = if q = kk then v else J1 18 q := by
          intro v
          unfold mSet va_up
          rw [if_pos rfl]
        rw [ev]
        by_cases z : q = kk
        · subst z
          rw [if_pos rfl, b5_w hs he hu, ee, if_pos (show q < q + 1 by omega), h q hq u hu, if_neg (show ¬ q < q by omega)]
        · rw [if_neg z, h q hq u hu]
          by_cases y : q < kk
          · rw [if_pos y, if_pos (show q < kk + 1 by omega)]
          · rw [if_neg y, if_neg (show ¬ q < kk + 1 by omega)]
      refine v31_16_2 ⟨fun _ => ⟨nI_in k6 (by omega), ?_⟩, fun q => absurd (nI_lt (b := 6) k6 (by omega)) q⟩
      rw [nI_clamp (by omega)]
      refine ⟨fun q => c143 (go 1 (by omega) (by rw [decide_eq_true (show p2 = nI kk from q.symm)]; rfl)), fun q => c143 (go 0 (by omega) (by rw [decide_eq_false (show ¬ p2 = nI kk from fun y => q y.symm)]; rfl))⟩
  refine c31_16 (lp 6 0 J rfl (fun _ _ => rfl) (fun q hq u hu => ?_))
  rw [if_neg (by omega)]
/-- setKind -/
theorem sk_4 {s : Nat} {p2 : Int32} {Q : rI0 → rJ0 → Prop} (hs : s < 64) (k : ∀ J', (∀ b, b ≠ 6 → J' b = J b) → (∀ q, q < 6 → ∀ u, u < 64 → bits5 (J' 6 q) u = if u = s then decide (p2 = nI q) else bits5 (J 6 q) u) → Q (mSet I 5 s p2) J') : wcV S (d + 1) 31 [.ref 4, .int (nI s), .int p2] x I J Q := by
  have lp : ∀ (m kk : Nat) (J1 : rJ0), kk + m = 6 → (∀ b, b ≠ 6 → J1 b = J b) → (∀ q, q < 6 → ∀ u, u < 64 → bits5 (J1 6 q) u = if q < kk then (if u = s then decide (p2 = nI q) else bits5 (J 6 q) u) else bits5 (J 6 q) u) → wp S (d + 1) 31 2 [some (.ref 4), some (.int (nI s)), some (.int p2), some (.int (nI kk))] [] (wv x I J1) (rV x Q) := by
    intro m
    induction m with
    | zero =>
      intro kk J1 hk f h
      refine v31_4_2 ⟨fun q => absurd q (nI_nlt (b := 6) (by omega) (by omega)), fun _ => ⟨nI_in hs (by omega), ?_⟩⟩
      rw [nI_clamp (by omega)]
      refine k J1 f (fun q hq u hu => ?_)
      rw [h q hq u hu, if_pos (by omega)]
    | succ m ih =>
      intro kk J1 hk f h
      have k6 : kk < 6 := by omega
      have go : ∀ e : Nat, e ≤ 1 → decide (e = 1) = decide (p2 = nI kk) → ¬ mOut (nI kk) 6 ∧ wp S (d + 1) 31 2 [some (.ref 4), some (.int (nI s)), some (.int p2), some (.int (nI kk + (1 : Int32)))] [] (wv x I (mSet J1 6 kk ((J1 6 kk &&& (((1 : Int64) <<< ((nI s).toInt64 &&& 63)) ^^^ (-1 : Int64))) ||| ((nI e).toInt64 <<< ((nI s).toInt64 &&& 63))))) (rV x Q) := by
        intro e he ee
        refine ⟨nI_in k6 (by omega), ?_⟩
        rw [← nI_succ]
        refine ih (kk + 1) _ (by omega) (fun b hb => (mSet_ne hb).trans (f b hb)) (fun q hq u hu => ?_)
        have ev : ∀ v : Int64, mSet J1 6 kk v 6 q = if q = kk then v else J1 6 q := by
          intro v
          unfold mSet va_up
          rw [if_pos rfl]
        rw [ev]
        by_cases z : q = kk
        · subst z
          rw [if_pos rfl, b5_w hs he hu, ee, if_pos (show q < q + 1 by omega), h q hq u hu, if_neg (show ¬ q < q by omega)]
        · rw [if_neg z, h q hq u hu]
          by_cases y : q < kk
          · rw [if_pos y, if_pos (show q < kk + 1 by omega)]
          · rw [if_neg y, if_neg (show ¬ q < kk + 1 by omega)]
      refine v31_4_2 ⟨fun _ => ⟨nI_in k6 (by omega), ?_⟩, fun q => absurd (nI_lt (b := 6) k6 (by omega)) q⟩
      rw [nI_clamp (by omega)]
      refine ⟨fun q => c143 (go 1 (by omega) (by rw [decide_eq_true (show p2 = nI kk from q.symm)]; rfl)), fun q => c143 (go 0 (by omega) (by rw [decide_eq_false (show ¬ p2 = nI kk from fun y => q y.symm)]; rfl))⟩
  refine c31_4 (lp 6 0 J rfl (fun _ _ => rfl) (fun q hq u hu => ?_))
  rw [if_neg (by omega)]
/-- the draft's SEATS are those of g -/
def DS (g : Nat → Int32) (I : rI0) (J : rJ0) : Prop := gN g 0 ≤ 8 ∧ gN g 1 ≤ 8 ∧ (∀ s, seB g s = true → s < gN g 0 * gN g 1) ∧ I 16 0 = nI (gN g 0) ∧ I 16 1 = nI (gN g 1) ∧ ∀ s, s < 64 → bits5 (J 16 5) s = seB g s
theorem DS.mv {I' : rI0} {J' : rJ0} (h : DS g I J) (hi : I' 16 = I 16) (hj : J' 16 = J 16) : DS g I' J' := by
  unfold DS at *
  rw [hi, hj]
  exact h
def spB (g : Nat → Int32) (a : Int) (c w u : Nat) : Bool := seB g u && decide (((u / gN g 1 : Nat) : Int) = a ∧ u % gN g 1 ≤ c + w ∧ c ≤ u % gN g 1 + w)
theorem spn {p1 : Int32} {a : Int} {c w : Nat} {Q : Int64 → rI0 → rJ0 → Prop} (h : DS g I J) (hc : c < gN g 1) (hw : w ≤ 3) (e1 : p1.toInt = a) (k : ∀ v, (∀ u, u < 64 → bits5 v u = spB g a c w u) → Q v I J) : wcJ S (d + 1) 34 [.ref 16, .int p1, .int (nI c), .int (nI w)] x I J Q := by
  obtain ⟨h8, h8c, hs, hr, hC, hb⟩ := h
  have z : (∀ u, seB g u = true → ¬ ((u / gN g 1 : Nat) : Int) = a) → Q 0 I J := by
    intro y
    refine k 0 (fun u hu => ?_)
    rw [b5_0]
    unfold spB
    cases q : seB g u with
    | false => rfl
    | true =>
      rw [decide_eq_false (fun w => y u q w.1)]
      rfl
  have l0 : (0 : Int32).toInt = 0 := by decide
  refine c34_16 ⟨fun q => z (fun u hu y => ?_), fun q0 => ⟨fun q1 => ?_, fun q => z (fun u hu y => ?_)⟩⟩
  · have q := i_lt q
    have n1 : (0 : Int) ≤ ((u / gN g 1 : Nat) : Int) := Int.natCast_nonneg _
    omega
  · have q0 := i_nlt q0
    rw [hr] at q1
    have q1 := i_lt q1
    rw [nI_toInt (by omega)] at q1
    obtain ⟨r, hrr, er⟩ : ∃ r : Nat, r < gN g 0 ∧ p1 = nI r := ⟨p1.toInt.toNat, by omega, Int32.toInt_inj.mp (by rw [nI_toInt (by omega)]; omega)⟩
    subst er
    rw [nI_toInt (by omega)] at e1
    have m1 : (r + 1) * gN g 1 ≤ 8 * 8 := Nat.mul_le_mul (by omega) h8c
    have m2 : (r + 1) * gN g 1 = r * gN g 1 + gN g 1 := Nat.succ_mul _ _
    have eC : nI (gN g 1) - (1 : Int32) = nI (gN g 1 - 1) := by
      have := nI_pr (gN g 1 - 1)
      rw [show gN g 1 - 1 + 1 = gN g 1 by omega] at this
      exact this
    have eL : (if nI c + nI w < nI (gN g 1) - (1 : Int32) then nI c + nI w else nI (gN g 1) - (1 : Int32)) = nI (if c + w < gN g 1 - 1 then c + w else gN g 1 - 1) := by
      rw [eC, nI_add]
      by_cases y : c + w < gN g 1 - 1
      · rw [if_pos y, if_pos (nI_lt y (by omega))]
      · rw [if_neg y, if_neg (nI_nlt (by omega) (by omega))]
    have eF : (if (0 : Int32) < nI c - nI w then nI c - nI w else (0 : Int32)) = nI (c - w) := by
      have t : (nI c - nI w).toInt = (c : Int) - w := i_sub (nI_toInt (by omega)) (nI_toInt (by omega)) (by omega)
      by_cases y : w < c
      · rw [if_pos (Int32.lt_iff_toInt_lt.mpr (by omega))]
        rw [← Int32.toInt_inj, t, nI_toInt (by omega)]
        omega
      · rw [if_neg (fun q => by have := i_lt q; omega), show c - w = 0 by omega]
        rfl
    rw [hC, eL, eF]
    have lp : ∀ (m j : Nat) (l4 : Int64), j + m = (if c + w < gN g 1 - 1 then c + w else gN g 1 - 1) + 1 → c - w ≤ j → (∀ u, u < 64 → bits5 l4 u = decide (u / gN g 1 = r ∧ c - w ≤ u % gN g 1 ∧ u % gN g 1 < j)) → wp S (d + 1) 34 40 [some (.ref 16), some (.int (nI r)), some (.int (nI c)), some (.int (nI w)), some (.long l4), none, some (.int (nI (if c + w < gN g 1 - 1 then c + w else gN g 1 - 1))), some (.int (nI j))] [] (wv x I J) (rJ x Q) := by
      have hb2 : (if c + w < gN g 1 - 1 then c + w else gN g 1 - 1) ≤ 7 := by split <;> omega
      intro m
      induction m with
      | zero =>
        intro j l4 hj lo h4
        refine v34_16_40 ⟨fun _ => k _ (fun u hu => ?_), fun q => absurd (nI_lt (by omega) (by omega)) q⟩
        rw [b5_and, h4 u hu, hb u hu]
        unfold spB
        cases y : seB g u with
        | false => rw [Bool.and_false, Bool.false_and]
        | true =>
          rw [Bool.and_true, Bool.true_and]
          have := Nat.mod_lt u (show 0 < gN g 1 by omega)
          refine decide_eq_decide.mpr ?_
          split at hj <;> omega
      | succ m ih =>
        intro j l4 hj lo h4
        have jC : j < gN g 1 := by
          split at hj <;> omega
        have ei : nI r * nI (gN g 1) + nI j = nI (r * gN g 1 + j) := by rw [nI_mu, nI_add]
        refine v34_16_40 ⟨fun q => absurd q (nI_nlt (by omega) (by omega)), fun _ => ?_⟩
        rw [hC, ei, ← nI_succ]
        refine ih (j + 1) _ (by omega) (by omega) (fun u hu => ?_)
        have dv : (r * gN g 1 + j) / gN g 1 = r := by
          rw [Nat.mul_comm, Nat.mul_add_div (by omega), Nat.div_eq_of_lt jC]
          omega
        have md : (r * gN g 1 + j) % gN g 1 = j := by
          rw [Nat.mul_comm, Nat.mul_add_mod, Nat.mod_eq_of_lt jC]
        have eq : u = r * gN g 1 + j ↔ u / gN g 1 = r ∧ u % gN g 1 = j := by
          constructor
          · intro y
            rw [y, dv, md]
            exact ⟨rfl, rfl⟩
          · rintro ⟨y1, y2⟩
            exact uq (C := gN g 1) (by rw [y1, dv]) (by rw [y2, md])
        rw [b5_or, b5_1 (by omega), h4 u hu, ← Bool.decide_or]
        refine decide_eq_decide.mpr ?_
        rw [eq]
        omega
    refine lp ((if c + w < gN g 1 - 1 then c + w else gN g 1 - 1) + 1 - (c - w)) (c - w) 0 ?_ (Nat.le_refl _) (fun u hu => ?_)
    · split <;> omega
    · rw [b5_0]
      exact (decide_eq_false (by omega)).symm
  · have q := i_nlt q
    rw [hr, nI_toInt (by omega)] at q
    have h1 := hs u hu
    have hC0 : 0 < gN g 1 := by omega
    have : u / gN g 1 < gN g 0 := Nat.div_lt_of_lt_mul (by rw [Nat.mul_comm]; exact h1)
    omega
/-- the areas of the SEATS below v -/
def A23 (g : Nat → Int32) (v : Nat) (J : rJ0) : Prop := ∀ s, s < v → seB g s = true → ∀ a, a < 6 → ∀ u, u < 64 → bits5 (J 23 (64 * a + s)) u = arB g a s u
theorem sva {s : Nat} {Q : rI0 → rJ0 → Prop} (h : DS g I J) (hv : seB g s = true) (hA : A23 g s J) (k : ∀ J', (∀ b, b ≠ 23 → J' b = J b) → A23 g (s + 1) J' → Q I J') : wcV S (d + 2) 33 [.ref 16, .int (nI s)] x I J Q := by
  have h0 := h
  obtain ⟨h8, h8c, hs, hr, hC, hb⟩ := h
  have hRC : gN g 0 * gN g 1 ≤ 64 := Nat.le_trans (Nat.mul_le_mul h8 h8c) (by omega)
  have sl := hs s hv
  obtain ⟨hc, hrr, hm⟩ := seC2 sl
  have tC : (nI (gN g 1)).toInt = (gN g 1 : Int) := nI_toInt (by omega)
  have ts : (nI s).toInt = (s : Int) := nI_toInt (by omega)
  have dv := i_div ts tC (by omega) (by omega)
  have rm := i_rem ts tC (by omega) (by omega)
  have e1 : nI s / nI (gN g 1) = nI (s / gN g 1) := by
    rw [← Int32.toInt_inj, dv.1, nI_toInt (by omega)]
    exact (Int.natCast_ediv s (gN g 1)).symm
  have e2 : nI s - nI (s / gN g 1) * nI (gN g 1) = nI (s % gN g 1) := by
    have q1 : ((s / gN g 1 : Nat) : Int) = (s : Int) / (gN g 1 : Int) := Int.natCast_ediv s (gN g 1)
    have q2 := Nat.div_add_mod s (gN g 1)
    have q3 : ((gN g 1 * (s / gN g 1) + s % gN g 1 : Nat) : Int) = (s : Int) := congrArg _ q2
    rw [Int.natCast_add, Int.natCast_mul, q1, Int.mul_comm] at q3
    rw [← e1, ← Int32.toInt_inj, rm.2.2, nI_toInt (by omega)]
    omega
  have n1 : (0 : Int) ≤ ((s / gN g 1 : Nat) : Int) := Int.natCast_nonneg _
  have tr := nI_toInt (n := s / gN g 1) (by omega)
  have o1 : (1 : Int32).toInt = 1 := by decide
  have o2 : (2 : Int32).toInt = 2 := by decide
  have o3 : (3 : Int32).toInt = 3 := by decide
  have m1 := i_sub tr o1 (by omega)
  have m2 := i_sub tr o2 (by omega)
  have m3 := i_sub tr o3 (by omega)
  have p1 := i_add tr o1 (by omega)
  have ix : ∀ a, a < 6 → (nI (64 * a) + nI s) = nI (64 * a + s) := fun a _ => nI_add _ _
  have oo : ∀ a, a < 6 → ¬ mOut (nI (64 * a) + nI s) 384 := by
    intro a ha
    rw [ix a ha]
    exact nI_in (by omega) (by omega)
  have cl : ∀ a, a < 6 → (nI (64 * a) + nI s).toNatClampNeg = 64 * a + s := by
    intro a ha
    rw [ix a ha, nI_clamp (by omega)]
  have c1 : ((64 : Int32) + nI s).toNatClampNeg = 64 * 1 + s := cl 1 (by omega)
  have c2 : ((128 : Int32) + nI s).toNatClampNeg = 64 * 2 + s := cl 2 (by omega)
  have c3 : ((192 : Int32) + nI s).toNatClampNeg = 64 * 3 + s := cl 3 (by omega)
  have c4 : ((256 : Int32) + nI s).toNatClampNeg = 64 * 4 + s := cl 4 (by omega)
  have c5 : ((320 : Int32) + nI s).toNatClampNeg = 64 * 5 + s := cl 5 (by omega)
  have c0 : (nI s).toNatClampNeg = 64 * 0 + s := by rw [nI_clamp (by omega)]; omega
  refine c33_16 (c25_16 ⟨fun _ => ⟨fun q => absurd q (nI_nlt (b := 0) (by omega) (by omega)), fun _ => c23_16 ⟨fun _ => ⟨?_, ?_⟩, fun q => absurd ?_ q⟩⟩, fun q => absurd ?_ q⟩)
  · rw [hC]
    exact fun z => absurd (nI_ij (b := 0) (by omega) (by omega) z) (by omega)
  · rw [hC, e1, e2]
    rw [c1, c2, c3, c4, c5, c0]
    refine spn (d := d) h0 hm (w := 1) (by omega) tr (fun w2 b2 => spn (d := d) h0 hm (w := 0) (by omega) m1 (fun w3 b3 => spn (d := d) h0 hm (w := 1) (by omega) m1 (fun w4 b4 => spn (d := d) h0 hm (w := 1) (by omega) p1 (fun w5 b5 => ⟨nI_in (by omega) (by omega), oo 1 (by omega), oo 2 (by omega), ?_⟩))))
    have b2 : ∀ u, u < 64 → bits5 w2 u = spB g ((s / gN g 1 : Nat) : Int) (s % gN g 1) 1 u := b2
    have h1 : ∀ (f : rJ0), (∀ b, b ≠ 23 → f b = J b) → DS g I f := fun f hf => h0.mv rfl (hf 16 (by decide))
    refine spn (d := d) (h1 _ (fun b hb => by rw [mSet_ne hb, mSet_ne hb, mSet_ne hb])) hm (w := 0) (by omega) p1 (fun w6 b6 => ⟨oo 3 (by omega), spn (d := d) (h1 _ (fun b hb => by rw [mSet_ne hb, mSet_ne hb, mSet_ne hb, mSet_ne hb])) hm (w := 1) (by omega) m1 (fun w7 b7 => spn (d := d) (h1 _ (fun b hb => by rw [mSet_ne hb, mSet_ne hb, mSet_ne hb, mSet_ne hb])) hm (w := 2) (by omega) m2 (fun w8 b8 => spn (d := d) (h1 _ (fun b hb => by rw [mSet_ne hb, mSet_ne hb, mSet_ne hb, mSet_ne hb])) hm (w := 3) (by omega) m3 (fun w9 b9 => ?_)))⟩)
    have at_ : ∀ (f : rJ0) (k j : Nat) (v : Int64), mSet f 23 k v 23 j = if j = k then v else f 23 j := by
      intro f k j v
      unfold mSet va_up
      rw [if_pos rfl]
    -- the end, once what is seen is known
    have fin : ∀ v4 : Int64, (∀ u, u < 64 → bits5 v4 u = arB g 4 s u) → ¬ mOut ((256 : Int32) + nI s) 384 ∧ ¬ mOut ((320 : Int32) + nI s) 384 ∧ Q I (mSet (mSet (mSet (mSet (mSet (mSet J 23 (64 * 0 + s) ((w4 ||| (w2 &&& (((1 : Int64) <<< ((nI s).toInt64 &&& 63)) ^^^ (-1 : Int64)))) ||| w5)) 23 (64 * 1 + s) w3) 23 (64 * 2 + s) (w2 &&& (((1 : Int64) <<< ((nI s).toInt64 &&& 63)) ^^^ (-1 : Int64)))) 23 (64 * 3 + s) w6) 23 (64 * 4 + s) v4) 23 (64 * 5 + s) (J 16 5 &&& (((1 : Int64) <<< ((nI s).toInt64 &&& 63)) ^^^ (-1 : Int64)))) := by
      intro v4 h4
      refine ⟨oo 4 (by omega), oo 5 (by omega), k _ (fun b hb => by rw [mSet_ne hb, mSet_ne hb, mSet_ne hb, mSet_ne hb, mSet_ne hb, mSet_ne hb]) ?_⟩
      intro t ht htv a ha u hu
      rw [at_, at_, at_, at_, at_, at_]
      by_cases z : t = s
      · subst z
        have eu : u = t ↔ u / gN g 1 = t / gN g 1 ∧ u % gN g 1 = t % gN g 1 := ⟨fun y => by rw [y]; exact ⟨rfl, rfl⟩, fun y => uq y.1 y.2⟩
        have n2 : (0 : Int) ≤ ((u / gN g 1 : Nat) : Int) := Int.natCast_nonneg _
        rcases (show a = 0 ∨ a = 1 ∨ a = 2 ∨ a = 3 ∨ a = 4 ∨ a = 5 by omega) with y | y | y | y | y | y <;> subst y
        · rw [if_neg (by omega), if_neg (by omega), if_neg (by omega), if_neg (by omega), if_neg (by omega), if_pos rfl, b5_or, b5_or, b5_and, b5_not hu, b5_1 (by omega), b4 u hu, b2 u hu, b5 u hu]
          unfold spB arB
          cases w : seB g u with
          | false => simp
          | true =>
            rw [decide_eq_true (hs u w), if_pos rfl]
            simp only [Bool.true_and, ← Bool.decide_and, ← Bool.decide_or, ← decide_not]
            exact decide_eq_decide.mpr (by omega)
        · rw [if_neg (by omega), if_neg (by omega), if_neg (by omega), if_neg (by omega), if_pos rfl, b3 u hu]
          unfold spB arB
          cases w : seB g u with
          | false => simp
          | true =>
            rw [decide_eq_true (hs u w), if_neg (by omega), if_pos rfl]
            simp only [Bool.true_and, ← Bool.decide_and, ← Bool.decide_or, ← decide_not]
            exact decide_eq_decide.mpr (by omega)
        · rw [if_neg (by omega), if_neg (by omega), if_neg (by omega), if_pos rfl, b5_and, b5_not hu, b5_1 (by omega), b2 u hu]
          unfold spB arB
          cases w : seB g u with
          | false => simp
          | true =>
            rw [decide_eq_true (hs u w), if_neg (by omega), if_neg (by omega), if_pos rfl]
            simp only [Bool.true_and, ← Bool.decide_and, ← Bool.decide_or, ← decide_not]
            exact decide_eq_decide.mpr (by omega)
        · rw [if_neg (by omega), if_neg (by omega), if_pos rfl, b6 u hu]
          unfold spB arB
          cases w : seB g u with
          | false => simp
          | true =>
            rw [decide_eq_true (hs u w), if_neg (by omega), if_neg (by omega), if_neg (by omega), if_pos rfl]
            simp only [Bool.true_and, ← Bool.decide_and, ← Bool.decide_or, ← decide_not]
            exact decide_eq_decide.mpr (by omega)
        · rw [if_neg (by omega), if_pos rfl]
          exact h4 u hu
        · rw [if_pos rfl, b5_and, b5_not hu, b5_1 (by omega), hb u hu]
          unfold arB
          cases w : seB g u with
          | false => simp
          | true =>
            rw [decide_eq_true (hs u w), if_neg (by omega), if_neg (by omega), if_neg (by omega), if_neg (by omega), if_neg (by omega)]
            simp only [Bool.true_and, ← decide_not]
      · rw [if_neg (by omega), if_neg (by omega), if_neg (by omega), if_neg (by omega), if_neg (by omega), if_neg (by omega)]
        exact hA t (by omega) htv a ha u hu
    have hz : lg_cmp w3 0 = 0 ↔ ¬ (1 ≤ s / gN g 1 ∧ seB g (s - gN g 1) = true) := by
      rw [lg_z, b5_z]
      have hge : 1 ≤ s / gN g 1 → gN g 1 ≤ s ∧ (s - gN g 1) / gN g 1 + 1 = s / gN g 1 ∧ (s - gN g 1) % gN g 1 = s % gN g 1 := by
        intro y
        have h1 : 1 * gN g 1 ≤ s / gN g 1 * gN g 1 := Nat.mul_le_mul_right _ y
        have h2 := Nat.div_mul_le_self s (gN g 1)
        have h3 : gN g 1 ≤ s := by omega
        have h4 := Nat.div_eq_sub_div hc h3
        have h5 := Nat.mod_eq_sub_mod h3
        exact ⟨h3, by omega, by omega⟩
      constructor
      · rintro y ⟨y1, y2⟩
        obtain ⟨g1, g2, g3⟩ := hge y1
        have := y (s - gN g 1) (by omega)
        rw [b3 _ (by omega)] at this
        unfold spB at this
        rw [y2, Bool.true_and, decide_eq_false_iff_not] at this
        refine this ⟨?_, by omega, by omega⟩
        omega
      · intro y u hu
        rw [b3 u hu]
        unfold spB
        cases w : seB g u with
        | false => rfl
        | true =>
          rw [Bool.true_and]
          refine decide_eq_false (fun q => ?_)
          obtain ⟨q1, q2, q3⟩ := q
          have n2 : (0 : Int) ≤ ((u / gN g 1 : Nat) : Int) := Int.natCast_nonneg _
          have y1 : 1 ≤ s / gN g 1 := by omega
          obtain ⟨g1, g2, g3⟩ := hge y1
          have : u = s - gN g 1 := uq (C := gN g 1) (by omega) (by omega)
          rw [this] at w
          exact y ⟨y1, w⟩
    refine ⟨fun q => fin 0 (fun u hu => ?_), fun q => fin _ (fun u hu => ?_)⟩
    · have q := hz.mp q
      rw [b5_0]
      unfold arB
      rw [if_neg (by omega), if_neg (by omega), if_neg (by omega), if_neg (by omega), if_pos rfl]
      cases y : decide (1 ≤ s / gN g 1) with
      | false => simp
      | true =>
        rw [show seB g (s - gN g 1) = false from ts_nt (fun w => q ⟨of_decide_eq_true y, w⟩)]
        simp
    · have q : 1 ≤ s / gN g 1 ∧ seB g (s - gN g 1) = true := Classical.not_not.mp (fun w => q (hz.mpr w))
      have n2 : (0 : Int) ≤ ((u / gN g 1 : Nat) : Int) := Int.natCast_nonneg _
      rw [b5_or, b5_or, b7 u hu, b8 u hu, b9 u hu]
      unfold spB arB
      rw [if_neg (by omega), if_neg (by omega), if_neg (by omega), if_neg (by omega), if_pos rfl, decide_eq_true q.1, q.2]
      cases w : seB g u with
      | false => simp
      | true =>
        rw [decide_eq_true (hs u w)]
        simp only [Bool.true_and, ← Bool.decide_and, ← Bool.decide_or]
        exact decide_eq_decide.mpr (by omega)
  · rw [hr, hC, nI_mu]
    exact nI_lt sl (by omega)
  · rw [hC]
    exact nI_lt (a := 0) hc (by omega)
end CK0
end
section
/-! survey exactly; house() with KINDS and areas -/
section HX0
variable {S S' : Nat × (Nat → Int32)} {d d' : Nat} {x x' : mX} {I I' : rI0} {J J' : rJ0} {b : Nat → Int32} {n lim p R C : Nat}
/-- KINDS, their sets, and areas of the evening at t -/
def NX (t : Nat) (I : rI0) (J : rJ0) (g : Nat → Int32) : Prop := (∀ s, seB g s = true → kdN g s < 6 ∧ I (t + 2) s = nI (kdN g s)) ∧ (∀ q, q < 6 → ∀ s, s < 64 → bits5 (J (t + 3) q) s = (seB g s && decide (kdN g s = q))) ∧ ∀ a, a < 6 → ∀ s, seB g s = true → ∀ u, u < 64 → bits5 (J (t + 8) (64 * a + s)) u = arB g a s u
theorem is16 {s : Nat} {Q : Int32 → rI0 → rJ0 → Prop} (hs : s < 64) (k : Q (nI (if bits5 (J 16 5) s = true then 1 else 0)) I J) : wcI S d 24 [.ref 16, .int (nI s)] x I J Q := by
  refine c24_16 ⟨fun z => absurd z (nI_nlt (b := 0) (by omega) (by omega)), fun _ => ⟨fun _ => ?_, fun z => absurd (nI_lt (b := 64) hs (by omega)) z⟩⟩
  rw [wb_cu s hs]
  refine ⟨fun z => ?_, fun z => ?_⟩
  · have f := (ts_bit hs (u64n hs)).mp (lg_z.mp z)
    rw [show bits5 (J 16 5) s = false from f] at k
    exact k
  · have f : bits5 (J 16 5) s = true := ts_nf (fun hf => z (lg_z.mpr ((ts_bit hs (u64n hs)).mpr hf)))
    rw [f] at k
    exact k
theorem surveyX {g : Nat → Int32} {Q : rI0 → rJ0 → Prop} (h8 : gN g 0 ≤ 8) (h8c : gN g 1 ≤ 8) (eR : I 16 0 = nI (gN g 0)) (eC : I 16 1 = nI (gN g 1)) (hS : ∀ s, s < 64 → seB g s = (decide (s < gN g 0 * gN g 1) && decide (¬ I 17 s = -1))) (z18 : ∀ q, q < 6 → J 18 q = 0) (k : ∀ J', (∀ b, b ≠ 16 → b ≠ 18 → b ≠ 23 → J' b = J b) → (∀ q, q ≠ 5 → J' 16 q = J 16 q) → (∀ s, s < 64 → bits5 (J' 16 5) s = seB g s) → (∀ q, q < 6 → ∀ s, s < 64 → bits5 (J' 18 q) s = (decide (s < gN g 0 * gN g 1) && decide (I 17 s = nI q))) → (∀ s, s < 64 → seB g s = true → ∀ a, a < 6 → ∀ u, u < 64 → bits5 (J' 23 (64 * a + s)) u = arB g a s u) → Q I J') : wcV S (d + 3) 32 [.ref 16] x I J Q := by
  have hRC : gN g 0 * gN g 1 ≤ 64 := Nat.le_trans (Nat.mul_le_mul h8 h8c) (by omega)
  have sl : ∀ s, seB g s = true → s < gN g 0 * gN g 1 := by
    intro s y
    rw [hS s (seB_l y), Bool.and_eq_true] at y
    exact of_decide_eq_true y.1
  have l2 : ∀ (m c : Nat) (J1 : rJ0), c + m = 64 → (∀ b, b ≠ 16 → b ≠ 18 → b ≠ 23 → J1 b = J b) → (∀ q, q ≠ 5 → J1 16 q = J 16 q) → DS g I J1 → (∀ q, q < 6 → ∀ s, s < 64 → bits5 (J1 18 q) s = (decide (s < gN g 0 * gN g 1) && decide (I 17 s = nI q))) → A23 g c J1 → wp S (d + 3) 32 66 [some (.ref 16), some (.int (nI c))] [] (wv x I J1) (rV x Q) := by
    intro m
    induction m with
    | zero =>
      intro c J1 hc f f16 hD hK hA
      have hc : c = 64 := by omega
      subst hc
      exact v32_16_66 ⟨fun q => absurd q (nI_nlt (b := 64) (by omega) (by omega)), fun _ => k J1 f f16 hD.2.2.2.2.2 hK hA⟩
    | succ m ih =>
      intro c J1 hc f f16 hD hK hA
      refine v32_16_66 (d := d + 2) ⟨fun _ => is16 (by omega) ?_, fun q => absurd (nI_lt (b := 64) (by omega) (by omega)) q⟩
      rw [hD.2.2.2.2.2 c (by omega), ← nI_succ]
      cases y : seB g c with
      | false => exact ⟨fun _ => ih (c + 1) J1 (by omega) f f16 hD hK (fun s hs hv => by
          by_cases z : s = c
          · rw [z, y] at hv
            cases hv
          · exact hA s (by omega) hv), fun z => absurd rfl z⟩
      | true => exact ⟨fun z => absurd z (by decide), fun _ => sva (d := d) hD y hA (fun J2 f2 hA2 => ih (c + 1) J2 (by omega) (fun b h1 h2 h3 => (f2 b h3).trans (f b h1 h2 h3)) (fun q hq => by rw [f2 16 (by decide)]; exact f16 q hq) (hD.mv rfl (f2 16 (by decide))) (by rw [f2 18 (by decide)]; exact hK) hA2)⟩
  have l1 : ∀ (m c : Nat) (J1 : rJ0), c + m = gN g 0 * gN g 1 → (∀ b, b ≠ 16 → b ≠ 18 → b ≠ 23 → J1 b = J b) → (∀ q, q ≠ 5 → J1 16 q = J 16 q) → (∀ s, s < 64 → bits5 (J1 16 5) s = (decide (s < c) && seB g s)) → (∀ q, q < 6 → ∀ s, s < 64 → bits5 (J1 18 q) s = (decide (s < c) && decide (I 17 s = nI q))) → wp S (d + 3) 32 7 [some (.ref 16), some (.int (nI c))] [] (wv x I J1) (rV x Q) := by
    intro m
    induction m with
    | zero =>
      intro c J1 hc f f16 hb hK
      have hc : c = gN g 0 * gN g 1 := by omega
      have w := l2 64 0 J1 rfl f f16 ⟨h8, h8c, sl, eR, eC, fun s hs => by
        rw [hb s hs, hc]
        cases y : seB g s with
        | false => rw [Bool.and_false]
        | true => rw [decide_eq_true (sl s y), Bool.true_and]⟩ (by rw [hc] at hK; exact hK) (fun s hs => absurd hs (by omega))
      exact v32_16_7 (c23_16 ⟨fun q => absurd q (by rw [eR, eC, nI_mu]; exact nI_nlt (by omega) (by omega)), fun _ => w⟩)
    | succ m ih =>
      intro c J1 hc f f16 hb hK
      have c64 : c < 64 := by omega
      refine v32_16_7 (d := d + 2) (c23_16 ⟨fun _ => ⟨fun _ => ⟨nI_in c64 (by omega), sk_16 (d := d + 1) c64 (fun J2 f2 h2 => ?_)⟩, fun q => absurd (nI_lt (b := 64) c64 (by omega)) q⟩, fun q => absurd (by rw [eR, eC, nI_mu]; exact nI_lt (by omega) (by omega)) q⟩)
      rw [nI_clamp (by omega), mSet_self]
      rw [nI_clamp (by omega)] at h2
      have go : ∀ v : Int64, (∀ s, s < 64 → bits5 v s = (decide (s = c) && seB g c)) → wp S (d + 3) 32 7 [some (.ref 16), some (.int (nI c + (1 : Int32)))] [] (wv x I (mSet J2 16 5 (J2 16 5 ||| v))) (rV x Q) := by
        intro v hv
        rw [← nI_succ]
        refine ih (c + 1) _ (by omega) (fun b h1 h2 h3 => by rw [mSet_ne h1, f2 b h2]; exact f b h1 h2 h3) (fun q hq => ?_) (fun s hs => ?_) (fun q hq s hs => ?_)
        · show mSet J2 16 5 _ 16 q = _
          unfold mSet va_up
          rw [if_pos rfl, if_neg hq, f2 16 (by decide)]
          exact f16 q hq
        · show bits5 (J2 16 5 ||| v) s = _
          exact put1 (A := fun u => seB g u) (fun u hu => by rw [f2 16 (by decide)]; exact hb u hu) hv s hs
        · rw [mSet_ne (by decide), h2 q hq s hs]
          by_cases z : s = c
          · subst z
            rw [if_pos rfl, decide_eq_true (show s < s + 1 by omega), Bool.true_and]
          · rw [if_neg z, hK q hq s hs]
            congr 1
            exact decide_eq_decide.mpr (by omega)
      have ec : seB g c = decide (¬ I 17 c = -1) := by rw [hS c c64, decide_eq_true (by omega), Bool.true_and]
      refine ⟨nI_in c64 (by omega), fun q => go 0 (bit0 (by rw [ec]; exact decide_eq_false (fun w => w q))), fun q => go _ (bit1 c64 (by rw [ec]; exact decide_eq_true q))⟩
  refine c32_16 (l1 (gN g 0 * gN g 1) 0 _ (by omega) (fun b h1 _ _ => mSet_ne h1) (fun q hq => ?_) (fun s hs => ?_) (fun q hq s hs => ?_))
  · show mSet J 16 5 _ 16 q = _
    unfold mSet va_up
    rw [if_pos rfl, if_neg hq]
  · show bits5 0 s = _
    rw [b5_0, decide_eq_false (show ¬ s < 0 by omega)]
    rfl
  · rw [mSet_ne (by decide), z18 q hq, b5_0, decide_eq_false (show ¬ s < 0 by omega)]
    rfl
def hx0 (I : rI0) (J : rJ0) (I2 : rI0) (J2 : rJ0) : Prop := (∀ a, a ≠ 43 → a ≠ 46 → I2 a = I a) ∧ (∀ k, ¬ (k = 0 ∨ (2 ≤ k ∧ k ≤ 5) ∨ (9 ≤ k ∧ k ≤ 13) ∨ (19 ≤ k ∧ k ≤ 22)) → I2 43 k = I 43 k) ∧ (∀ a, a ≠ 43 → J2 a = J a) ∧ ∀ k, k ≠ 15 → J2 43 k = J 43 k
def hxC (I : rI0) (J : rJ0) (I1 : rI0) (J1 : rJ0) : Prop := (∀ b, ¬ (b ≤ 1 ∨ (3 ≤ b ∧ b ≤ 31)) → I1 b = I b) ∧ (∀ q, q ≠ 9 → I1 0 q = I 0 q) ∧ I1 1 1 = 0 ∧ ∀ b, ¬ (3 ≤ b ∧ b ≤ 23) → J1 b = J b
def hxR (I : rI0) (J : rJ0) (I2 : rI0) (J2 : rJ0) : Prop := (∀ b, ¬ (43 ≤ b ∧ b ≤ 49 ∧ b ≠ 44 ∧ b ≠ 47) → I2 b = I b) ∧ (∀ k, 31 ≤ k → I2 43 k = I 43 k) ∧ (∀ a, a ≠ 43 → J2 a = J a) ∧ ∀ k, k ≠ 15 → k ≠ 16 → k ≠ 17 → J2 43 k = J 43 k
/-- house(): both answer alike, and what stands then -/
def HOutX (S : Nat × (Nat → Int32)) (d : Nat) (x : mX) (I : rI0) (J : rJ0) (I' : rI0) (J' : rJ0) (v : Int32) (I1 : rI0) (J1 : rJ0) : Prop := ∃ I2 J2, I1 0 9 = I2 43 13 ∧ hxC I J I1 J1 ∧ hxR I' J' I2 J2 ∧ ((¬ I1 0 9 = 0 ∧ (∀ b, 3 ≤ b → b ≤ 14 → I1 b = I b ∧ J1 b = J b) ∧ I1 31 = I 31 ∧ I2 45 = I' 45 ∧ I2 43 30 = I' 43 30 ∧ J2 43 16 = J' 43 16 ∧ J2 43 17 = J' 43 17) ∨ (I1 0 9 = 0 ∧ NRw 3 I1 J1 (I2 45) ∧ NCu 3 I1 (I2 45) ∧ NX 3 I1 J1 (I2 45) ∧ J1 3 5 = 0 ∧ J1 3 6 = 0 ∧ J2 43 16 = 0 ∧ J2 43 17 = 0 ∧ I2 43 30 = 1 ∧ I1 31 6 = 0 ∧ I2 45 590 = 0)) ∧ ∀ Q' : Int32 → rI0 → rJ0 → Prop, Q' v I2 J2 → wcI S (d + 10) 181 [.ref 43] x I' J' Q'
theorem houseX {Q : Int32 → rI0 → rJ0 → Prop} (hn : n ≤ 940) (e1 : I 1 1 = nI n) (e2 : I' 43 2 = nI n) (hb : ∀ i, i < 940 → I' 44 i &&& 255 = I 2 i) (k : ∀ v I1 J1, HOutX S' d' x' I J I' J' v I1 J1 → Q v I1 J1) : wcI S (d + 30) 101 [.ref 0] x I J Q := by
  refine c101_0 (c14_15 (clearE (fun I1 J1 i1 j1 z0 z1 z2 z3 z4 z5 z18 z19 z20 z21 => c67_1 ?_)))
  have ea : (mSet I1 15 4 0) 1 1 = nI n := by
    show I1 1 1 = _
    rw [i1 1 (by omega)]
    exact e1
  rw [ea]
  refine openS (lim := 900) hn rfl (by omega) (fun I2 o2 _ e8 t2 => c36_29 ?_)
  have e22 : (mSet (mSet I1 15 4 0) 1 1 0) 2 = I 2 := by rw [mSet_ne (by decide), mSet_ne (by decide)]; exact i1 2 (by omega)
  rw [e22] at t2
  have cI : ∀ a, ¬ (a = 15 ∨ a = 1 ∨ a = 28) → I2 a = I1 a := fun a ha => by rw [o2 a (by omega), mSet_ne (by omega), mSet_ne (by omega)]
  -- the reference's start, up to its first token
  have st : ∃ I3 J3, (∀ k, k = 13 ∨ k = 19 ∨ (20 ≤ k ∧ k ≤ 22) → I3 43 k = 0) ∧ Nck (I 2) n 900 0 I3 J3 ∧ (∃ g, I3 46 = plainR g) ∧ I3 45 = I' 45 ∧ hx0 I' J' I3 J3 ∧ ∀ Q' : Int32 → rI0 → rJ0 → Prop, wp S' (d' + 10) 181 45 [some (.ref 43), none] [] (wv x' I3 J3) (rI x' Q') → wcI S' (d' + 10) 181 [.ref 43] x' I' J' Q' := by
    have key : wcV S' (d' + 9) 161 [.ref 43] x' (va_up (mSet (mSet (mSet (mSet (mSet (mSet (mSet (mSet (mSet (mSet I' 43 0 0) 43 3 (nI n)) 43 2 0) 43 4 0) 43 5 900) 43 13 0) 43 19 0) 43 20 0) 43 21 0) 43 22 0) 46 (plainR ((mSet (mSet (mSet (mSet (mSet (mSet (mSet (mSet (mSet (mSet I' 43 0 0) 43 3 (nI n)) 43 2 0) 43 4 0) 43 5 900) 43 13 0) 43 19 0) 43 20 0) 43 21 0) 43 22 0) 46))) J' (fun I3 J3 => Nf5 (va_up (mSet (mSet (mSet (mSet (mSet (mSet (mSet (mSet (mSet (mSet I' 43 0 0) 43 3 (nI n)) 43 2 0) 43 4 0) 43 5 900) 43 13 0) 43 19 0) 43 20 0) 43 21 0) 43 22 0) 46 (plainR ((mSet (mSet (mSet (mSet (mSet (mSet (mSet (mSet (mSet (mSet I' 43 0 0) 43 3 (nI n)) 43 2 0) 43 4 0) 43 5 900) 43 13 0) 43 19 0) 43 20 0) 43 21 0) 43 22 0) 46))) J' I3 J3 ∧ Nck (I 2) n 900 0 I3 J3) := by
      refine nextS (b := I 2) (n := n) (lim := 900) (p := 0) ⟨hn, by omega, by omega, fun i hi => ?_, ?_, ?_, ?_⟩ (fun I3 J3 f3 t3 => ⟨f3, t3⟩)
      · rw [vu_ne (by decide), mSet_ne (by decide), mSet_ne (by decide), mSet_ne (by decide), mSet_ne (by decide), mSet_ne (by decide), mSet_ne (by decide), mSet_ne (by decide), mSet_ne (by decide), mSet_ne (by decide), mSet_ne (by decide)]
        exact hb i hi
      · rw [vu_ne (by decide)]; rfl
      · rw [vu_ne (by decide)]; rfl
      · rw [vu_ne (by decide)]; rfl
    obtain ⟨nn, oo, ww, x1, I3, J3, x2, x3, f3, t3⟩ := key
    refine ⟨I3, J3, fun k hk => ?_, t3, ⟨_, (f3.1 46 (by decide)).trans (if_pos rfl)⟩, by rw [f3.1 45 (by decide), vu_ne (by decide), mSet_ne (by decide), mSet_ne (by decide), mSet_ne (by decide), mSet_ne (by decide), mSet_ne (by decide), mSet_ne (by decide), mSet_ne (by decide), mSet_ne (by decide), mSet_ne (by decide), mSet_ne (by decide)], ⟨fun a h1 h2 => ?_, fun k hk => ?_, f3.2.2.1, f3.2.2.2⟩, fun Q' q => c181_43 (c150_43 (mPlain ?_))⟩
    · rw [f3.2.1 k (by omega), vu_ne (by decide)]
      rcases hk with z | z | z
      · subst z; rfl
      · subst z; rfl
      · rcases (show k = 20 ∨ k = 21 ∨ k = 22 by omega) with z | z | z <;> subst z <;> rfl
    · rw [f3.1 a h1, vu_ne h2, mSet_ne h1, mSet_ne h1, mSet_ne h1, mSet_ne h1, mSet_ne h1, mSet_ne h1, mSet_ne h1, mSet_ne h1, mSet_ne h1, mSet_ne h1]
    · rw [f3.2.1 k (by omega), vu_ne (by decide)]
      unfold mSet va_up
      rw [if_pos rfl, if_neg (by omega), if_pos rfl, if_neg (by omega), if_pos rfl, if_neg (by omega), if_pos rfl, if_neg (by omega), if_pos rfl, if_neg (by omega), if_pos rfl, if_neg (by omega), if_pos rfl, if_neg (by omega), if_pos rfl, if_neg (by omega), if_pos rfl, if_neg (by omega), if_pos rfl, if_neg (by omega)]
    · have e2' : (mSet I' 43 0 0) 43 2 = nI n := e2
      rw [e2']
      exact ⟨nn, oo, ww, x1, I3, J3, x2, x3, q⟩
  obtain ⟨I3, J3, y43, t3, ⟨g, y46⟩, y45, y0, ev⟩ := st
  have h0 : HRl 0 0 (mSet (mSet (mSet I2 29 3 0) 29 4 0) 29 5 0) I3 := by
    refine HRl_0 (g := g) ?_ ?_ ?_ ?_ ?_ (fun r hr => ?_) (fun r hr => ?_) (fun l hl => ?_) rfl rfl rfl y46 (y43 20 (by omega)) (y43 21 (by omega)) (y43 22 (by omega))
    · rw [mSet_ne (by decide), mSet_ne (by decide), mSet_ne (by decide), cI 16 (by omega)]; exact z0
    · rw [mSet_ne (by decide), mSet_ne (by decide), mSet_ne (by decide), cI 16 (by omega)]; exact z1
    · rw [mSet_ne (by decide), mSet_ne (by decide), mSet_ne (by decide), cI 16 (by omega)]; exact z2
    · rw [mSet_ne (by decide), mSet_ne (by decide), mSet_ne (by decide), cI 16 (by omega)]; exact z3
    · rw [mSet_ne (by decide), mSet_ne (by decide), mSet_ne (by decide), cI 16 (by omega)]; exact z4
    · rw [mSet_ne (by decide), mSet_ne (by decide), mSet_ne (by decide), cI 19 (by omega)]; exact z19 r hr
    · rw [mSet_ne (by decide), mSet_ne (by decide), mSet_ne (by decide), cI 20 (by omega)]; exact z20 r hr
    · rw [mSet_ne (by decide), mSet_ne (by decide), mSet_ne (by decide), cI 21 (by omega)]; exact z21 l hl
  refine hLp (S' := S') (d' := d') (x' := x') 900 0 0 0 0 _ I3 J3 (by omega) (by omega) h0 (t2.s29.s29.s29) (by rw [mSet_ne (by decide), mSet_ne (by decide), mSet_ne (by decide)]; exact e8) t3 (y43 19 (by omega)) (fun l I4 f4 hl => ?_)
  have w4 : ∀ a, ¬ (a = 1 ∨ (15 ≤ a ∧ a ≤ 30)) → I4 a = I a := by
    intro a ha
    rw [f4 a (by omega), mSet_ne (by omega), mSet_ne (by omega), mSet_ne (by omega), cI a (by omega)]
    exact i1 a (by omega)
  have w1 : I4 1 1 = 0 := by
    rw [f4 1 (by omega), mSet_ne (by decide), mSet_ne (by decide), mSet_ne (by decide), o2 1 (by omega)]
    rfl
  have wr : ∀ (I5 : rI0) (J5 : rJ0), hrG I3 J3 I5 J5 → hxR I' J' I5 J5 ∧ J5 43 16 = J' 43 16 ∧ J5 43 17 = J' 43 17 ∧ I5 43 30 = I' 43 30 := by
    intro I5 J5 b2
    refine ⟨⟨fun b hb => (b2.1 b (by omega)).trans (y0.1 b (by omega) (by omega)), fun k hk => (b2.2.1 k (by omega)).trans (y0.2.1 k (by omega)), fun a ha => (b2.2.2.1 a ha).trans (y0.2.2.1 a ha), fun k h1 h2 h3 => (b2.2.2.2 k h1).trans (y0.2.2.2 k h1)⟩, (b2.2.2.2 16 (by decide)).trans (y0.2.2.2 16 (by decide)), (b2.2.2.2 17 (by decide)).trans (y0.2.2.2 17 (by decide)), (b2.2.1 30 (by omega)).trans (y0.2.1 30 (by omega))⟩
  rcases hl with ⟨b1, I5, J5, b2, b3, b4, b5⟩ | ⟨b1, I5, J5, R5, C5, b2, b3, b4, b5, b6⟩
  · refine v101_0_67 ⟨fun q => absurd q b1, fun _ => k _ _ _ ⟨I5, J5, b3.symm, ⟨fun b hb => ?_, fun q hq => ?_, w1, fun b hb => ?_⟩, (wr I5 J5 b2).1, Or.inl ⟨b1, fun a h3 h14 => ⟨?_, ?_⟩, ?_, (b2.1 45 (by omega)).trans y45, (wr I5 J5 b2).2.2.2, (wr I5 J5 b2).2.1, (wr I5 J5 b2).2.2.1⟩, fun Q' q => ev _ (b5 _ ?_)⟩⟩
    · rw [mSet_ne (by omega)]
      exact w4 b (by omega)
    · rw [show mSet I4 0 9 (I4 28 8) 0 q = I4 0 q from by unfold mSet va_up; rw [if_pos rfl, if_neg hq]]
      rw [w4 0 (by omega)]
    · rw [mSet_ne (by omega), mSet_ne (by omega)]
      exact j1 b (by omega) (by omega)
    · rw [mSet_ne (by omega), f4 a (by omega), mSet_ne (by omega), mSet_ne (by omega), mSet_ne (by omega), cI a (by omega)]
      exact i1 a (by omega)
    · rw [mSet_ne (by omega), mSet_ne (by omega)]
      exact j1 a (by omega) (by omega)
    · rw [mSet_ne (by decide)]
      exact w4 31 (by omega)
    · rw [b4]
      exact q
  · have ha := b3.1
    have h44 : I4 16 4 = 0 ∨ I4 16 4 = 1 := by
      obtain ⟨c0, c1, c2, q0, q1, q2, q3, q4, q5, -⟩ := b3.2.2.2.1
      rw [q5]
      rcases (show c2 = 0 ∨ c2 = 1 by omega) with z | z <;> subst z
      · exact Or.inl rfl
      · exact Or.inr rfl
    -- the reference's end
    have fin : ∃ I6 J6, I6 43 13 = 0 ∧ (∀ i, i < 681 → I6 45 i = if i < 590 then I5 46 i else 0) ∧ (hxR I' J' I6 J6 ∧ J6 43 16 = 0 ∧ J6 43 17 = 0 ∧ I6 43 30 = 1) ∧ ∀ Q' : Int32 → rI0 → rJ0 → Prop, Q' l I6 J6 → wcI S' (d' + 10) 181 [.ref 43] x' I' J' Q' := by
      have w : wp S' (d' + 10) 181 90 [some (.ref 43), some (.int (nI 0))] [] (wv x' I5 J5) (rI x' (fun v I6 J6 => v = l ∧ I6 43 13 = 0 ∧ (∀ i, i < 681 → I6 45 i = if i < 590 then I5 46 i else 0) ∧ (hxR I' J' I6 J6 ∧ J6 43 16 = 0 ∧ J6 43 17 = 0 ∧ I6 43 30 = 1))) := by
        refine s90 681 0 I5 rfl (fun I6 o6 _ g6 => ⟨b4, by rw [mSet_x (by omega), o6 43 (by decide), b5]; exact y43 13 (by omega), fun i hi => by rw [mSet_ne (by decide)]; exact g6 i (by omega) hi, ⟨fun b hb => ?_, fun k hk => ?_, fun a ha => ?_, fun k h1 h2 h3 => ?_⟩, rfl, rfl, rfl⟩)
        · by_cases z : b = 43
          · omega
          · rw [mSet_ne z, o6 b (by omega)]
            exact (wr I5 J5 b2).1.1 b (by omega)
        · rw [mSet_x (by omega), o6 43 (by decide)]
          exact (wr I5 J5 b2).1.2.1 k hk
        · rw [mSet_ne ha, mSet_ne ha]
          exact (wr I5 J5 b2).1.2.2.1 a ha
        · show mSet (mSet J5 43 16 0) 43 17 0 43 k = _
          unfold mSet va_up
          rw [if_pos rfl, if_neg h3, if_pos rfl, if_neg h2]
          exact (wr I5 J5 b2).1.2.2.2 k h1 h2 h3
      obtain ⟨nn, oo, ww, x1, v, I6, J6, x2, x3, rfl, x5, x6, x7⟩ := w
      exact ⟨I6, J6, x5, x6, x7, fun Q' q => ev _ (b6 _ ⟨nn, oo, ww, x1, v, I6, J6, x2, x3, q⟩)⟩
    obtain ⟨I6, J6, e6, g6, x7, ev6⟩ := fin
    -- the row that stands then
    have gk : ∀ i, i < 590 → I6 45 i = I5 46 i := fun i hi => by rw [g6 i (by omega), if_pos hi]
    have hRC : R5 * C5 ≤ 64 := Nat.le_trans (Nat.mul_le_mul ha.1 ha.2.1) (by omega)
    have gR : gN (I6 45) 0 = R5 := by
      unfold gN
      rw [gk 0 (by omega), ha.2.2.2.2.2.1, nI_toInt (by have := ha.1; omega)]
      omega
    have gC : gN (I6 45) 1 = C5 := by
      unfold gN
      rw [gk 1 (by omega), ha.2.2.2.2.2.2.2.1, nI_toInt (by have := ha.2.1; omega)]
      omega
    have gS : ∀ s, s < 64 → seB (I6 45) s = (decide (s < R5 * C5) && decide (¬ I4 17 s = -1)) := by
      intro s hs
      unfold seB
      rw [decide_eq_true hs, Bool.true_and, gk (6 + s) (by omega)]
      by_cases z : s < R5 * C5
      · obtain ⟨q1, q2⟩ := ha.2.2.2.2.2.2.2.2.1 s z
        rw [decide_eq_true z, Bool.true_and, q2]
        refine decide_eq_decide.mpr ?_
        rcases q1 with q1 | ⟨m, q3, q4⟩
        · rw [q1]
          exact iff_of_false (by decide) (fun w => w rfl)
        · rw [q4, ← nI_succ, nI_toInt (by omega)]
          exact iff_of_true (by omega) (nI_m5 m q3)
      · rw [decide_eq_false z, ha.2.2.2.2.2.2.2.2.2.1 s (by omega) hs]
        rfl
    have gK : ∀ s, seB (I6 45) s = true → kdN (I6 45) s < 6 ∧ I4 17 s = nI (kdN (I6 45) s) := by
      intro s y
      have hs := seB_l y
      rw [gS s hs, Bool.and_eq_true] at y
      obtain ⟨q1, q2⟩ := ha.2.2.2.2.2.2.2.2.1 s (of_decide_eq_true y.1)
      rcases q1 with q1 | ⟨m, q3, q4⟩
      · exact absurd q1 (of_decide_eq_true y.2)
      · have e : kdN (I6 45) s = m := by
          unfold kdN gN
          rw [gk (6 + s) (by omega), q2, q4, ← nI_succ, nI_toInt (by omega)]
          omega
        rw [e]
        exact ⟨by omega, q4⟩
    refine v101_0_67 ⟨fun _ => surveyX (g := I6 45) (I := mSet I4 0 9 (I4 28 8)) (by rw [gR]; exact ha.1) (by rw [gC]; exact ha.2.1) (by rw [gR]; exact ha.2.2.2.2.1) (by rw [gC]; exact ha.2.2.2.2.2.2.1) (by rw [gR, gC]; exact gS) (fun q hq => z18 q hq) (fun J7 o7 q7 s7 k7 a7 => c15_3_15 (takeHouseE (I := mSet I4 0 9 (I4 28 8)) h44 (fun I8 J8 i8 j8 t0 t5 tk tq t7 t8 t9 t10 t11 => takeCuesE (fun I9 i9 e9 c9 => c6_31 (k _ _ _ ⟨I6, J6, ?_, ⟨fun b hb => ?_, fun q hq => ?_, ?_, fun b hb => ?_⟩, x7.1, Or.inr ⟨?_, ?_, ?_, ⟨fun s hs => ?_, fun q hq s hs => ?_, fun a ha s hs u hu => ?_⟩, ?_, ?_, x7.2.1, x7.2.2.1, x7.2.2.2, ?_, ?_⟩, ev6⟩))))), fun q => absurd b1 q⟩
    · rw [mSet_ne (by decide), i9 0 (by decide) (by decide) (by decide) (by decide), i8 0 (by omega), e6]
      exact b1
    · rw [mSet_ne (by omega), i9 b (by omega) (by omega) (by omega) (by omega), i8 b (by omega), mSet_ne (by omega)]
      exact w4 b (by omega)
    · rw [mSet_ne (by decide), i9 0 (by decide) (by decide) (by decide) (by decide), i8 0 (by omega), show mSet I4 0 9 (I4 28 8) 0 q = I4 0 q from by unfold mSet va_up; rw [if_pos rfl, if_neg hq]]
      rw [w4 0 (by omega)]
    · rw [mSet_ne (by decide), i9 1 (by decide) (by decide) (by decide) (by decide), i8 1 (by omega), mSet_ne (by decide)]
      exact w1
    · rw [mSet_ne (by omega), mSet_ne (by omega), j8 b (by omega), o7 b (by omega) (by omega) (by omega), mSet_ne (by omega), mSet_ne (by omega)]
      exact j1 b (by omega) (by omega)
    · rw [mSet_ne (by decide), i9 0 (by decide) (by decide) (by decide) (by decide), i8 0 (by omega)]
      exact b1
    · have r9 : ∀ a, 4 ≤ a → a ≤ 11 → (mSet I9 31 6 0) a = I8 a := fun a h1 h2 => by rw [mSet_ne (by omega)]; exact i9 a (by omega) (by omega) (by omega) (by omega)
      refine NRw_h b3 (fun q hq => ?_) (fun s hs => ?_) (fun r hr => ?_) (fun r hr => ?_) (fun l hl => ?_) (fun i hi => ?_) (fun i hi => ?_)
      · rw [r9 4 (by omega) (by omega), t0 q hq, mSet_ne (by decide)]
      · show SB (J8 4 5) s ↔ _
        rw [t5]
        rw [b5_SB, s7 s hs, gS s hs, Bool.and_eq_true, decide_eq_true_iff, decide_eq_true_iff]
      · rw [r9 7 (by omega) (by omega), t7 r hr, mSet_ne (by decide)]
      · rw [r9 8 (by omega) (by omega), t8 r hr, mSet_ne (by decide)]
      · rw [r9 9 (by omega) (by omega), t9 l hl, mSet_ne (by decide)]
      · rw [r9 10 (by omega) (by omega), t10 i hi, mSet_ne (by decide)]
      · rw [g6 i (by omega), if_pos hi]
    · refine ⟨0, by omega, ?_, ?_, fun i hi => absurd hi (by omega)⟩
      · show I9 3 4 = nI 0
        rw [e9, i8 15 (by omega), mSet_ne (by decide), f4 15 (by omega), mSet_ne (by decide), mSet_ne (by decide), mSet_ne (by decide), o2 15 (by decide)]
        rfl
      · rw [g6 590 (by omega), if_neg (by omega)]
        rfl
    · have r5 : (mSet I9 31 6 0) 5 s = I4 17 s := by
        rw [mSet_ne (by decide), i9 5 (by decide) (by decide) (by decide) (by decide), tk s (seB_l hs), mSet_ne (by decide)]
      show kdN (I6 45) s < 6 ∧ (mSet I9 31 6 0) 5 s = _
      rw [r5]
      exact gK s hs
    · show bits5 (J8 6 q) s = _
      rw [tq q hq, k7 q hq s hs, gR, gC, mSet_ne (show 17 ≠ 0 by decide)]
      cases y : seB (I6 45) s with
      | false =>
        have y2 := gS s hs
        rw [y] at y2
        by_cases z : s < R5 * C5
        · rw [decide_eq_true z, Bool.true_and] at y2
          have y3 : I4 17 s = -1 := Classical.not_not.mp (of_decide_eq_false y2.symm)
          rw [y3, decide_eq_false (show ¬ (-1 : Int32) = nI q from fun w => nI_m5 q (by omega) w.symm), Bool.and_false]
          rfl
        · rw [decide_eq_false z]
          rfl
      | true =>
        have y2 := gS s hs
        rw [y] at y2
        have y3 := of_decide_eq_true (Bool.and_eq_true _ _ |>.mp y2.symm).1
        have y4 := gK s y
        rw [decide_eq_true y3, Bool.true_and, Bool.true_and, y4.2]
        exact decide_eq_decide.mpr ⟨fun w => nI_ij (by omega) (by omega) w, fun w => by rw [w]⟩
    · show bits5 (J8 11 (64 * a + s)) u = _
      have hs6 := seB_l hs
      rw [t11 (64 * a + s) (by omega)]
      exact a7 s hs6 hs a ha u hu
    · show J8 15 5 = 0
      rw [j8 15 (by omega), o7 15 (by decide) (by decide) (by decide)]
      rfl
    · show J8 15 6 = 0
      rw [j8 15 (by omega), o7 15 (by decide) (by decide) (by decide)]
      rfl
    · rfl
    · rw [g6 590 (by omega), if_neg (by omega)]
end HX0
end
