/-! KINDS and areas of the class's house -/
section CK0
variable {S : Nat × (Nat → Int32)} {d : Nat} {x : mX} {I : rI0} {J : rJ0} {g : Nat → Int32}
/-- setKind -/
theorem sk_16 {s : Nat} {p2 : Int32} {Q : rI0 → rJ0 → Prop} (hs : s < 64) (k : ∀ J', (∀ b, b ≠ 18 → J' b = J b) → (∀ q, q < 6 → ∀ u, u < 64 → bits5 (J' 18 q) u = if u = s then decide (p2 = nI q) else bits5 (J 18 q) u) → Q (mSet I 17 s p2) J') : wcV S (d + 1) 31 [.ref 16, .int (nI s), .int p2] x I J Q := by
  have lp : ∀ (m kk : Nat) (J1 : rJ0), kk + m = 6 → (∀ b, b ≠ 18 → J1 b = J b) → (∀ q, q < 6 → ∀ u, u < 64 → bits5 (J1 18 q) u = if q < kk then (if u = s then decide (p2 = nI q) else bits5 (J 18 q) u) else bits5 (J 18 q) u) → wp S (d + 1) 31 2 [some (.ref 16), some (.int (nI s)), some (.int p2), some (.int (nI kk))] [] (wv x I J1) (rV x Q) := by
    intro m
    induction m with
    | zero =>
      intro kk J1 hk f h
      refine v31_16_2 ⟨fun q => absurd q (nI_nlt (b := 6) (by omega) (by omega)), fun _ => ⟨nI_in hs (by omega), ?_⟩⟩
      rw [nI_clamp (by omega)]
      refine k J1 f (fun q hq u hu => ?_)
      rw [h q hq u hu, if_pos (by omega)]
    | succ m ih =>
      intro kk J1 hk f h
      have k6 : kk < 6 := by omega
      have go : ∀ e : Nat, e ≤ 1 → decide (e = 1) = decide (p2 = nI kk) → ¬ mOut (nI kk) 6 ∧ wp S (d + 1) 31 2 [some (.ref 16), some (.int (nI s)), some (.int p2), some (.int (nI kk + (1 : Int32)))] [] (wv x I (mSet J1 18 kk ((J1 18 kk &&& (((1 : Int64) <<< ((nI s).toInt64 &&& 63)) ^^^ (-1 : Int64))) ||| ((nI e).toInt64 <<< ((nI s).toInt64 &&& 63))))) (rV x Q) := by
        intro e he ee
        refine ⟨nI_in k6 (by omega), ?_⟩
        rw [← nI_succ]
        refine ih (kk + 1) _ (by omega) (fun b hb => (mSet_ne hb).trans (f b hb)) (fun q hq u hu => ?_)
        have ev : ∀ v : Int64, mSet J1 18 kk v 18 q = if q = kk then v else J1 18 q := by
          intro v
          unfold mSet va_up
          rw [if_pos rfl]
        rw [ev]
        by_cases z : q = kk
        · subst z
          rw [if_pos rfl, b5_w hs he hu, ee, if_pos (show q < q + 1 by omega), h q hq u hu, if_neg (show ¬ q < q by omega)]
        · rw [if_neg z, h q hq u hu]
          by_cases y : q < kk
          · rw [if_pos y, if_pos (show q < kk + 1 by omega)]
          · rw [if_neg y, if_neg (show ¬ q < kk + 1 by omega)]
      refine v31_16_2 ⟨fun _ => ⟨nI_in k6 (by omega), ?_⟩, fun q => absurd (nI_lt (b := 6) k6 (by omega)) q⟩
      rw [nI_clamp (by omega)]
      refine ⟨fun q => c143 (go 1 (by omega) (by rw [decide_eq_true (show p2 = nI kk from q.symm)]; rfl)), fun q => c143 (go 0 (by omega) (by rw [decide_eq_false (show ¬ p2 = nI kk from fun y => q y.symm)]; rfl))⟩
  refine c31_16 (lp 6 0 J rfl (fun _ _ => rfl) (fun q hq u hu => ?_))
  rw [if_neg (by omega)]
/-- setKind -/
theorem sk_4 {s : Nat} {p2 : Int32} {Q : rI0 → rJ0 → Prop} (hs : s < 64) (k : ∀ J', (∀ b, b ≠ 6 → J' b = J b) → (∀ q, q < 6 → ∀ u, u < 64 → bits5 (J' 6 q) u = if u = s then decide (p2 = nI q) else bits5 (J 6 q) u) → Q (mSet I 5 s p2) J') : wcV S (d + 1) 31 [.ref 4, .int (nI s), .int p2] x I J Q := by
  have lp : ∀ (m kk : Nat) (J1 : rJ0), kk + m = 6 → (∀ b, b ≠ 6 → J1 b = J b) → (∀ q, q < 6 → ∀ u, u < 64 → bits5 (J1 6 q) u = if q < kk then (if u = s then decide (p2 = nI q) else bits5 (J 6 q) u) else bits5 (J 6 q) u) → wp S (d + 1) 31 2 [some (.ref 4), some (.int (nI s)), some (.int p2), some (.int (nI kk))] [] (wv x I J1) (rV x Q) := by
    intro m
    induction m with
    | zero =>
      intro kk J1 hk f h
      refine v31_4_2 ⟨fun q => absurd q (nI_nlt (b := 6) (by omega) (by omega)), fun _ => ⟨nI_in hs (by omega), ?_⟩⟩
      rw [nI_clamp (by omega)]
      refine k J1 f (fun q hq u hu => ?_)
      rw [h q hq u hu, if_pos (by omega)]
    | succ m ih =>
      intro kk J1 hk f h
      have k6 : kk < 6 := by omega
      have go : ∀ e : Nat, e ≤ 1 → decide (e = 1) = decide (p2 = nI kk) → ¬ mOut (nI kk) 6 ∧ wp S (d + 1) 31 2 [some (.ref 4), some (.int (nI s)), some (.int p2), some (.int (nI kk + (1 : Int32)))] [] (wv x I (mSet J1 6 kk ((J1 6 kk &&& (((1 : Int64) <<< ((nI s).toInt64 &&& 63)) ^^^ (-1 : Int64))) ||| ((nI e).toInt64 <<< ((nI s).toInt64 &&& 63))))) (rV x Q) := by
        intro e he ee
        refine ⟨nI_in k6 (by omega), ?_⟩
        rw [← nI_succ]
        refine ih (kk + 1) _ (by omega) (fun b hb => (mSet_ne hb).trans (f b hb)) (fun q hq u hu => ?_)
        have ev : ∀ v : Int64, mSet J1 6 kk v 6 q = if q = kk then v else J1 6 q := by
          intro v
          unfold mSet va_up
          rw [if_pos rfl]
        rw [ev]
        by_cases z : q = kk
        · subst z
          rw [if_pos rfl, b5_w hs he hu, ee, if_pos (show q < q + 1 by omega), h q hq u hu, if_neg (show ¬ q < q by omega)]
        · rw [if_neg z, h q hq u hu]
          by_cases y : q < kk
          · rw [if_pos y, if_pos (show q < kk + 1 by omega)]
          · rw [if_neg y, if_neg (show ¬ q < kk + 1 by omega)]
      refine v31_4_2 ⟨fun _ => ⟨nI_in k6 (by omega), ?_⟩, fun q => absurd (nI_lt (b := 6) k6 (by omega)) q⟩
      rw [nI_clamp (by omega)]
      refine ⟨fun q => c143 (go 1 (by omega) (by rw [decide_eq_true (show p2 = nI kk from q.symm)]; rfl)), fun q => c143 (go 0 (by omega) (by rw [decide_eq_false (show ¬ p2 = nI kk from fun y => q y.symm)]; rfl))⟩
  refine c31_4 (lp 6 0 J rfl (fun _ _ => rfl) (fun q hq u hu => ?_))
  rw [if_neg (by omega)]
/-- the draft's SEATS are those of g -/
def DS (g : Nat → Int32) (I : rI0) (J : rJ0) : Prop := gN g 0 ≤ 8 ∧ gN g 1 ≤ 8 ∧ (∀ s, seB g s = true → s < gN g 0 * gN g 1) ∧ I 16 0 = nI (gN g 0) ∧ I 16 1 = nI (gN g 1) ∧ ∀ s, s < 64 → bits5 (J 16 5) s = seB g s
theorem DS.mv {I' : rI0} {J' : rJ0} (h : DS g I J) (hi : I' 16 = I 16) (hj : J' 16 = J 16) : DS g I' J' := by
  unfold DS at *
  rw [hi, hj]
  exact h
def spB (g : Nat → Int32) (a : Int) (c w u : Nat) : Bool := seB g u && decide (((u / gN g 1 : Nat) : Int) = a ∧ u % gN g 1 ≤ c + w ∧ c ≤ u % gN g 1 + w)
theorem spn {p1 : Int32} {a : Int} {c w : Nat} {Q : Int64 → rI0 → rJ0 → Prop} (h : DS g I J) (hc : c < gN g 1) (hw : w ≤ 3) (e1 : p1.toInt = a) (k : ∀ v, (∀ u, u < 64 → bits5 v u = spB g a c w u) → Q v I J) : wcJ S (d + 1) 34 [.ref 16, .int p1, .int (nI c), .int (nI w)] x I J Q := by
  obtain ⟨h8, h8c, hs, hr, hC, hb⟩ := h
  have z : (∀ u, seB g u = true → ¬ ((u / gN g 1 : Nat) : Int) = a) → Q 0 I J := by
    intro y
    refine k 0 (fun u hu => ?_)
    rw [b5_0]
    unfold spB
    cases q : seB g u with
    | false => rfl
    | true =>
      rw [decide_eq_false (fun w => y u q w.1)]
      rfl
  have l0 : (0 : Int32).toInt = 0 := by decide
  refine c34_16 ⟨fun q => z (fun u hu y => ?_), fun q0 => ⟨fun q1 => ?_, fun q => z (fun u hu y => ?_)⟩⟩
  · have q := i_lt q
    have n1 : (0 : Int) ≤ ((u / gN g 1 : Nat) : Int) := Int.natCast_nonneg _
    omega
  · have q0 := i_nlt q0
    rw [hr] at q1
    have q1 := i_lt q1
    rw [nI_toInt (by omega)] at q1
    obtain ⟨r, hrr, er⟩ : ∃ r : Nat, r < gN g 0 ∧ p1 = nI r := ⟨p1.toInt.toNat, by omega, Int32.toInt_inj.mp (by rw [nI_toInt (by omega)]; omega)⟩
    subst er
    rw [nI_toInt (by omega)] at e1
    have m1 : (r + 1) * gN g 1 ≤ 8 * 8 := Nat.mul_le_mul (by omega) h8c
    have m2 : (r + 1) * gN g 1 = r * gN g 1 + gN g 1 := Nat.succ_mul _ _
    have eC : nI (gN g 1) - (1 : Int32) = nI (gN g 1 - 1) := by
      have := nI_pr (gN g 1 - 1)
      rw [show gN g 1 - 1 + 1 = gN g 1 by omega] at this
      exact this
    have eL : (if nI c + nI w < nI (gN g 1) - (1 : Int32) then nI c + nI w else nI (gN g 1) - (1 : Int32)) = nI (if c + w < gN g 1 - 1 then c + w else gN g 1 - 1) := by
      rw [eC, nI_add]
      by_cases y : c + w < gN g 1 - 1
      · rw [if_pos y, if_pos (nI_lt y (by omega))]
      · rw [if_neg y, if_neg (nI_nlt (by omega) (by omega))]
    have eF : (if (0 : Int32) < nI c - nI w then nI c - nI w else (0 : Int32)) = nI (c - w) := by
      have t : (nI c - nI w).toInt = (c : Int) - w := i_sub (nI_toInt (by omega)) (nI_toInt (by omega)) (by omega)
      by_cases y : w < c
      · rw [if_pos (Int32.lt_iff_toInt_lt.mpr (by omega))]
        rw [← Int32.toInt_inj, t, nI_toInt (by omega)]
        omega
      · rw [if_neg (fun q => by have := i_lt q; omega), show c - w = 0 by omega]
        rfl
    rw [hC, eL, eF]
    have lp : ∀ (m j : Nat) (l4 : Int64), j + m = (if c + w < gN g 1 - 1 then c + w else gN g 1 - 1) + 1 → c - w ≤ j → (∀ u, u < 64 → bits5 l4 u = decide (u / gN g 1 = r ∧ c - w ≤ u % gN g 1 ∧ u % gN g 1 < j)) → wp S (d + 1) 34 40 [some (.ref 16), some (.int (nI r)), some (.int (nI c)), some (.int (nI w)), some (.long l4), none, some (.int (nI (if c + w < gN g 1 - 1 then c + w else gN g 1 - 1))), some (.int (nI j))] [] (wv x I J) (rJ x Q) := by
      have hb2 : (if c + w < gN g 1 - 1 then c + w else gN g 1 - 1) ≤ 7 := by split <;> omega
      intro m
      induction m with
      | zero =>
        intro j l4 hj lo h4
        refine v34_16_40 ⟨fun _ => k _ (fun u hu => ?_), fun q => absurd (nI_lt (by omega) (by omega)) q⟩
        rw [b5_and, h4 u hu, hb u hu]
        unfold spB
        cases y : seB g u with
        | false => rw [Bool.and_false, Bool.false_and]
        | true =>
          rw [Bool.and_true, Bool.true_and]
          have := Nat.mod_lt u (show 0 < gN g 1 by omega)
          refine decide_eq_decide.mpr ?_
          split at hj <;> omega
      | succ m ih =>
        intro j l4 hj lo h4
        have jC : j < gN g 1 := by
          split at hj <;> omega
        have ei : nI r * nI (gN g 1) + nI j = nI (r * gN g 1 + j) := by rw [nI_mu, nI_add]
        refine v34_16_40 ⟨fun q => absurd q (nI_nlt (by omega) (by omega)), fun _ => ?_⟩
        rw [hC, ei, ← nI_succ]
        refine ih (j + 1) _ (by omega) (by omega) (fun u hu => ?_)
        have dv : (r * gN g 1 + j) / gN g 1 = r := by
          rw [Nat.mul_comm, Nat.mul_add_div (by omega), Nat.div_eq_of_lt jC]
          omega
        have md : (r * gN g 1 + j) % gN g 1 = j := by
          rw [Nat.mul_comm, Nat.mul_add_mod, Nat.mod_eq_of_lt jC]
        have eq : u = r * gN g 1 + j ↔ u / gN g 1 = r ∧ u % gN g 1 = j := by
          constructor
          · intro y
            rw [y, dv, md]
            exact ⟨rfl, rfl⟩
          · rintro ⟨y1, y2⟩
            exact uq (C := gN g 1) (by rw [y1, dv]) (by rw [y2, md])
        rw [b5_or, b5_1 (by omega), h4 u hu, ← Bool.decide_or]
        refine decide_eq_decide.mpr ?_
        rw [eq]
        omega
    refine lp ((if c + w < gN g 1 - 1 then c + w else gN g 1 - 1) + 1 - (c - w)) (c - w) 0 ?_ (Nat.le_refl _) (fun u hu => ?_)
    · split <;> omega
    · rw [b5_0]
      exact (decide_eq_false (by omega)).symm
  · have q := i_nlt q
    rw [hr, nI_toInt (by omega)] at q
    have h1 := hs u hu
    have hC0 : 0 < gN g 1 := by omega
    have : u / gN g 1 < gN g 0 := Nat.div_lt_of_lt_mul (by rw [Nat.mul_comm]; exact h1)
    omega
/-- the areas of the SEATS below v -/
def A23 (g : Nat → Int32) (v : Nat) (J : rJ0) : Prop := ∀ s, s < v → seB g s = true → ∀ a, a < 6 → ∀ u, u < 64 → bits5 (J 23 (64 * a + s)) u = arB g a s u
theorem sva {s : Nat} {Q : rI0 → rJ0 → Prop} (h : DS g I J) (hv : seB g s = true) (hA : A23 g s J) (k : ∀ J', (∀ b, b ≠ 23 → J' b = J b) → A23 g (s + 1) J' → Q I J') : wcV S (d + 2) 33 [.ref 16, .int (nI s)] x I J Q := by
  have h0 := h
  obtain ⟨h8, h8c, hs, hr, hC, hb⟩ := h
  have hRC : gN g 0 * gN g 1 ≤ 64 := Nat.le_trans (Nat.mul_le_mul h8 h8c) (by omega)
  have sl := hs s hv
  obtain ⟨hc, hrr, hm⟩ := seC2 sl
  have tC : (nI (gN g 1)).toInt = (gN g 1 : Int) := nI_toInt (by omega)
  have ts : (nI s).toInt = (s : Int) := nI_toInt (by omega)
  have dv := i_div ts tC (by omega) (by omega)
  have rm := i_rem ts tC (by omega) (by omega)
  have e1 : nI s / nI (gN g 1) = nI (s / gN g 1) := by
    rw [← Int32.toInt_inj, dv.1, nI_toInt (by omega)]
    exact (Int.natCast_ediv s (gN g 1)).symm
  have e2 : nI s - nI (s / gN g 1) * nI (gN g 1) = nI (s % gN g 1) := by
    have q1 : ((s / gN g 1 : Nat) : Int) = (s : Int) / (gN g 1 : Int) := Int.natCast_ediv s (gN g 1)
    have q2 := Nat.div_add_mod s (gN g 1)
    have q3 : ((gN g 1 * (s / gN g 1) + s % gN g 1 : Nat) : Int) = (s : Int) := congrArg _ q2
    rw [Int.natCast_add, Int.natCast_mul, q1, Int.mul_comm] at q3
    rw [← e1, ← Int32.toInt_inj, rm.2.2, nI_toInt (by omega)]
    omega
  have n1 : (0 : Int) ≤ ((s / gN g 1 : Nat) : Int) := Int.natCast_nonneg _
  have tr := nI_toInt (n := s / gN g 1) (by omega)
  have o1 : (1 : Int32).toInt = 1 := by decide
  have o2 : (2 : Int32).toInt = 2 := by decide
  have o3 : (3 : Int32).toInt = 3 := by decide
  have m1 := i_sub tr o1 (by omega)
  have m2 := i_sub tr o2 (by omega)
  have m3 := i_sub tr o3 (by omega)
  have p1 := i_add tr o1 (by omega)
  have ix : ∀ a, a < 6 → (nI (64 * a) + nI s) = nI (64 * a + s) := fun a _ => nI_add _ _
  have oo : ∀ a, a < 6 → ¬ mOut (nI (64 * a) + nI s) 384 := by
    intro a ha
    rw [ix a ha]
    exact nI_in (by omega) (by omega)
  have cl : ∀ a, a < 6 → (nI (64 * a) + nI s).toNatClampNeg = 64 * a + s := by
    intro a ha
    rw [ix a ha, nI_clamp (by omega)]
  have c1 : ((64 : Int32) + nI s).toNatClampNeg = 64 * 1 + s := cl 1 (by omega)
  have c2 : ((128 : Int32) + nI s).toNatClampNeg = 64 * 2 + s := cl 2 (by omega)
  have c3 : ((192 : Int32) + nI s).toNatClampNeg = 64 * 3 + s := cl 3 (by omega)
  have c4 : ((256 : Int32) + nI s).toNatClampNeg = 64 * 4 + s := cl 4 (by omega)
  have c5 : ((320 : Int32) + nI s).toNatClampNeg = 64 * 5 + s := cl 5 (by omega)
  have c0 : (nI s).toNatClampNeg = 64 * 0 + s := by rw [nI_clamp (by omega)]; omega
  refine c33_16 (c25_16 ⟨fun _ => ⟨fun q => absurd q (nI_nlt (b := 0) (by omega) (by omega)), fun _ => c23_16 ⟨fun _ => ⟨?_, ?_⟩, fun q => absurd ?_ q⟩⟩, fun q => absurd ?_ q⟩)
  · rw [hC]
    exact fun z => absurd (nI_ij (b := 0) (by omega) (by omega) z) (by omega)
  · rw [hC, e1, e2]
    rw [c1, c2, c3, c4, c5, c0]
    refine spn (d := d) h0 hm (w := 1) (by omega) tr (fun w2 b2 => spn (d := d) h0 hm (w := 0) (by omega) m1 (fun w3 b3 => spn (d := d) h0 hm (w := 1) (by omega) m1 (fun w4 b4 => spn (d := d) h0 hm (w := 1) (by omega) p1 (fun w5 b5 => ⟨nI_in (by omega) (by omega), oo 1 (by omega), oo 2 (by omega), ?_⟩))))
    have b2 : ∀ u, u < 64 → bits5 w2 u = spB g ((s / gN g 1 : Nat) : Int) (s % gN g 1) 1 u := b2
    have h1 : ∀ (f : rJ0), (∀ b, b ≠ 23 → f b = J b) → DS g I f := fun f hf => h0.mv rfl (hf 16 (by decide))
    refine spn (d := d) (h1 _ (fun b hb => by rw [mSet_ne hb, mSet_ne hb, mSet_ne hb])) hm (w := 0) (by omega) p1 (fun w6 b6 => ⟨oo 3 (by omega), spn (d := d) (h1 _ (fun b hb => by rw [mSet_ne hb, mSet_ne hb, mSet_ne hb, mSet_ne hb])) hm (w := 1) (by omega) m1 (fun w7 b7 => spn (d := d) (h1 _ (fun b hb => by rw [mSet_ne hb, mSet_ne hb, mSet_ne hb, mSet_ne hb])) hm (w := 2) (by omega) m2 (fun w8 b8 => spn (d := d) (h1 _ (fun b hb => by rw [mSet_ne hb, mSet_ne hb, mSet_ne hb, mSet_ne hb])) hm (w := 3) (by omega) m3 (fun w9 b9 => ?_)))⟩)
    have at_ : ∀ (f : rJ0) (k j : Nat) (v : Int64), mSet f 23 k v 23 j = if j = k then v else f 23 j := by
      intro f k j v
      unfold mSet va_up
      rw [if_pos rfl]
    -- the end, once what is seen is known
    have fin : ∀ v4 : Int64, (∀ u, u < 64 → bits5 v4 u = arB g 4 s u) → ¬ mOut ((256 : Int32) + nI s) 384 ∧ ¬ mOut ((320 : Int32) + nI s) 384 ∧ Q I (mSet (mSet (mSet (mSet (mSet (mSet J 23 (64 * 0 + s) ((w4 ||| (w2 &&& (((1 : Int64) <<< ((nI s).toInt64 &&& 63)) ^^^ (-1 : Int64)))) ||| w5)) 23 (64 * 1 + s) w3) 23 (64 * 2 + s) (w2 &&& (((1 : Int64) <<< ((nI s).toInt64 &&& 63)) ^^^ (-1 : Int64)))) 23 (64 * 3 + s) w6) 23 (64 * 4 + s) v4) 23 (64 * 5 + s) (J 16 5 &&& (((1 : Int64) <<< ((nI s).toInt64 &&& 63)) ^^^ (-1 : Int64)))) := by
      intro v4 h4
      refine ⟨oo 4 (by omega), oo 5 (by omega), k _ (fun b hb => by rw [mSet_ne hb, mSet_ne hb, mSet_ne hb, mSet_ne hb, mSet_ne hb, mSet_ne hb]) ?_⟩
      intro t ht htv a ha u hu
      rw [at_, at_, at_, at_, at_, at_]
      by_cases z : t = s
      · subst z
        have eu : u = t ↔ u / gN g 1 = t / gN g 1 ∧ u % gN g 1 = t % gN g 1 := ⟨fun y => by rw [y]; exact ⟨rfl, rfl⟩, fun y => uq y.1 y.2⟩
        have n2 : (0 : Int) ≤ ((u / gN g 1 : Nat) : Int) := Int.natCast_nonneg _
        rcases (show a = 0 ∨ a = 1 ∨ a = 2 ∨ a = 3 ∨ a = 4 ∨ a = 5 by omega) with y | y | y | y | y | y <;> subst y
        · rw [if_neg (by omega), if_neg (by omega), if_neg (by omega), if_neg (by omega), if_neg (by omega), if_pos rfl, b5_or, b5_or, b5_and, b5_not hu, b5_1 (by omega), b4 u hu, b2 u hu, b5 u hu]
          unfold spB arB
          cases w : seB g u with
          | false => simp
          | true =>
            rw [decide_eq_true (hs u w), if_pos rfl]
            simp only [Bool.true_and, ← Bool.decide_and, ← Bool.decide_or, ← decide_not]
            exact decide_eq_decide.mpr (by omega)
        · rw [if_neg (by omega), if_neg (by omega), if_neg (by omega), if_neg (by omega), if_pos rfl, b3 u hu]
          unfold spB arB
          cases w : seB g u with
          | false => simp
          | true =>
            rw [decide_eq_true (hs u w), if_neg (by omega), if_pos rfl]
            simp only [Bool.true_and, ← Bool.decide_and, ← Bool.decide_or, ← decide_not]
            exact decide_eq_decide.mpr (by omega)
        · rw [if_neg (by omega), if_neg (by omega), if_neg (by omega), if_pos rfl, b5_and, b5_not hu, b5_1 (by omega), b2 u hu]
          unfold spB arB
          cases w : seB g u with
          | false => simp
          | true =>
            rw [decide_eq_true (hs u w), if_neg (by omega), if_neg (by omega), if_pos rfl]
            simp only [Bool.true_and, ← Bool.decide_and, ← Bool.decide_or, ← decide_not]
            exact decide_eq_decide.mpr (by omega)
        · rw [if_neg (by omega), if_neg (by omega), if_pos rfl, b6 u hu]
          unfold spB arB
          cases w : seB g u with
          | false => simp
          | true =>
            rw [decide_eq_true (hs u w), if_neg (by omega), if_neg (by omega), if_neg (by omega), if_pos rfl]
            simp only [Bool.true_and, ← Bool.decide_and, ← Bool.decide_or, ← decide_not]
            exact decide_eq_decide.mpr (by omega)
        · rw [if_neg (by omega), if_pos rfl]
          exact h4 u hu
        · rw [if_pos rfl, b5_and, b5_not hu, b5_1 (by omega), hb u hu]
          unfold arB
          cases w : seB g u with
          | false => simp
          | true =>
            rw [decide_eq_true (hs u w), if_neg (by omega), if_neg (by omega), if_neg (by omega), if_neg (by omega), if_neg (by omega)]
            simp only [Bool.true_and, ← decide_not]
      · rw [if_neg (by omega), if_neg (by omega), if_neg (by omega), if_neg (by omega), if_neg (by omega), if_neg (by omega)]
        exact hA t (by omega) htv a ha u hu
    have hz : lg_cmp w3 0 = 0 ↔ ¬ (1 ≤ s / gN g 1 ∧ seB g (s - gN g 1) = true) := by
      rw [lg_z, b5_z]
      have hge : 1 ≤ s / gN g 1 → gN g 1 ≤ s ∧ (s - gN g 1) / gN g 1 + 1 = s / gN g 1 ∧ (s - gN g 1) % gN g 1 = s % gN g 1 := by
        intro y
        have h1 : 1 * gN g 1 ≤ s / gN g 1 * gN g 1 := Nat.mul_le_mul_right _ y
        have h2 := Nat.div_mul_le_self s (gN g 1)
        have h3 : gN g 1 ≤ s := by omega
        have h4 := Nat.div_eq_sub_div hc h3
        have h5 := Nat.mod_eq_sub_mod h3
        exact ⟨h3, by omega, by omega⟩
      constructor
      · rintro y ⟨y1, y2⟩
        obtain ⟨g1, g2, g3⟩ := hge y1
        have := y (s - gN g 1) (by omega)
        rw [b3 _ (by omega)] at this
        unfold spB at this
        rw [y2, Bool.true_and, decide_eq_false_iff_not] at this
        refine this ⟨?_, by omega, by omega⟩
        omega
      · intro y u hu
        rw [b3 u hu]
        unfold spB
        cases w : seB g u with
        | false => rfl
        | true =>
          rw [Bool.true_and]
          refine decide_eq_false (fun q => ?_)
          obtain ⟨q1, q2, q3⟩ := q
          have n2 : (0 : Int) ≤ ((u / gN g 1 : Nat) : Int) := Int.natCast_nonneg _
          have y1 : 1 ≤ s / gN g 1 := by omega
          obtain ⟨g1, g2, g3⟩ := hge y1
          have : u = s - gN g 1 := uq (C := gN g 1) (by omega) (by omega)
          rw [this] at w
          exact y ⟨y1, w⟩
    refine ⟨fun q => fin 0 (fun u hu => ?_), fun q => fin _ (fun u hu => ?_)⟩
    · have q := hz.mp q
      rw [b5_0]
      unfold arB
      rw [if_neg (by omega), if_neg (by omega), if_neg (by omega), if_neg (by omega), if_pos rfl]
      cases y : decide (1 ≤ s / gN g 1) with
      | false => simp
      | true =>
        rw [show seB g (s - gN g 1) = false from ts_nt (fun w => q ⟨of_decide_eq_true y, w⟩)]
        simp
    · have q : 1 ≤ s / gN g 1 ∧ seB g (s - gN g 1) = true := Classical.not_not.mp (fun w => q (hz.mpr w))
      have n2 : (0 : Int) ≤ ((u / gN g 1 : Nat) : Int) := Int.natCast_nonneg _
      rw [b5_or, b5_or, b7 u hu, b8 u hu, b9 u hu]
      unfold spB arB
      rw [if_neg (by omega), if_neg (by omega), if_neg (by omega), if_neg (by omega), if_pos rfl, decide_eq_true q.1, q.2]
      cases w : seB g u with
      | false => simp
      | true =>
        rw [decide_eq_true (hs u w)]
        simp only [Bool.true_and, ← Bool.decide_and, ← Bool.decide_or]
        exact decide_eq_decide.mpr (by omega)
  · rw [hr, hC, nI_mu]
    exact nI_lt sl (by omega)
  · rw [hC]
    exact nI_lt (a := 0) hc (by omega)
end CK0
