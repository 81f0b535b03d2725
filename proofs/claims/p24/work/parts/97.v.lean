/-! lastEvent -/
section NV0
variable {S : Nat × (Nat → Int32)} {d : Nat} {x : mX} {I : rI0} {J : rJ0} {g : Nat → Int32} {W : Nat → lV}
theorem lvI (hM : HM g W I J) {r : Nat} (hr : r < 8) : (I 8 r).toInt = (gN g (78 + r) : Int) - 1 ∧ gN g (78 + r) ≤ 601 := by
  rcases hM.2.2.2.2.2.2.1 r hr with ⟨a1, a2⟩ | ⟨m, a1, a2, a3⟩
  · rw [a1, a2]
    exact ⟨by decide, by omega⟩
  · rw [a2, a3, nI_toInt (by omega)]
    omega
theorem max_i {a b : Int32} : (if a < b then b else a).toInt = if a.toInt < b.toInt then b.toInt else a.toInt := by
  by_cases z : a < b
  · rw [if_pos z, if_pos (i_lt z)]
  · rw [if_neg z, if_neg (by have := i_nlt z; omega)]
theorem ll_lp (hG : GA g) (hM : HM g W I J) {Q : Int32 → rI0 → rJ0 → Prop} (k : ∀ v : Int32, -1 ≤ v.toInt → v.toInt ≤ 600 → (∀ Z : Int, -1 ≤ Z → (v.toInt ≤ Z ↔ ∀ r, r < gN g 0 → (gN g (78 + r) : Int) - 1 ≤ Z)) → Q v I J) : ∀ (m r : Nat) (v : Int32), r + m = gN g 0 → -1 ≤ v.toInt → v.toInt ≤ 600 → (∀ Z : Int, -1 ≤ Z → (v.toInt ≤ Z ↔ ∀ q, q < r → (gN g (78 + q) : Int) - 1 ≤ Z)) → wp S (d + 1) 29 4 [some (.ref 4), some (.int v), some (.int (nI r))] [] (wv x I J) (rI x Q) := by
  have h8 := hG.1
  intro m
  induction m with
  | zero =>
    intro r v hr h1 h6 hz
    have hr : r = gN g 0 := by omega
    subst hr
    exact v29_4_4 ⟨fun q => absurd q (by rw [hM.1]; exact nI_nlt (by omega) (by omega)), fun _ => k v h1 h6 hz⟩
  | succ m ih =>
    intro r v hr h1 h6 hz
    have hl := lvI hM (r := r) (by omega)
    refine v29_4_4 ⟨fun _ => ⟨nI_in (by omega) (by omega), ?_⟩, fun q => absurd (by rw [hM.1]; exact nI_lt (by omega) (by omega)) q⟩
    rw [nI_clamp (by omega), ← nI_succ]
    have em := max_i (a := v) (b := I 8 r)
    refine ih (r + 1) _ (by omega) ?_ ?_ (fun Z hZ => ?_)
    · rw [em]
      split <;> omega
    · rw [em]
      split <;> omega
    · rw [em]
      have hz := hz Z hZ
      constructor
      · intro y q hq
        have y1 : v.toInt ≤ Z := by
          split at y <;> omega
        by_cases w : q = r
        · rw [w]
          split at y <;> omega
        · exact hz.mp y1 q (by omega)
      · intro y
        have y1 := hz.mpr (fun q hq => y q (by omega))
        have y2 := y r (by omega)
        split <;> omega
/-- the moment of the last 'leaves' or CUE -/
theorem le_17 (hG : GA g) (hM : HM g W I J) {Q : Int32 → rI0 → rJ0 → Prop} (k : ∀ v : Int32, -1 ≤ v.toInt → v.toInt ≤ 600 → (∀ Z : Int, -1 ≤ Z → (v.toInt ≤ Z ↔ (∀ r, r < gN g 0 → (gN g (78 + r) : Int) - 1 ≤ Z) ∧ ∀ i, i < gN g 590 → (gN g (591 + 3 * i) : Int) ≤ Z)) → Q v I J) : wcI S (d + 2) 17 [.ref 3] x I J Q := by
  have h30 := hG.2.2.2.2.2.1
  have m1 : (-1 : Int32).toInt = -1 := by decide
  have e0 : ∀ Z : Int, -1 ≤ Z → ((-1 : Int32).toInt ≤ Z ↔ ∀ q, q < 0 → (gN g (78 + q) : Int) - 1 ≤ Z) := fun Z hZ => iff_of_true (by omega) (fun q hq => absurd hq (by omega))
  have hn := hM.2.2.2.2.2.2.2.2.2.1
  refine c17_3 ⟨fun q => ⟨fun q2 => absurd q2 (by rw [hn]; exact nI_nlt (a := 30) (by omega) (by omega)), fun _ => ⟨?_, ?_⟩⟩, fun q => ?_⟩
  · rw [hn] at q
    have q : 0 < gN g 590 := (nI_ltI (a := 0) (by omega) (by omega)).mp q
    rw [hn, show gN g 590 = gN g 590 - 1 + 1 by omega, nI_pr]
    exact nI_in (by omega) (by omega)
  · rw [hn] at q
    have q : 0 < gN g 590 := (nI_ltI (a := 0) (by omega) (by omega)).mp q
    refine c29_4 (ll_lp hG hM (fun v h1 h6 hz => ?_) (gN g 0) 0 (-1) (by omega) (by omega) (by omega) e0)
    have ei : ((I 3 4) - (1 : Int32)).toNatClampNeg = gN g 590 - 1 := by
      rw [hn, show gN g 590 = gN g 590 - 1 + 1 by omega, nI_pr, nI_clamp (by omega)]
      omega
    have c := hM.2.2.2.2.2.2.2.2.2.2 (gN g 590 - 1) (by omega)
    have b := (hG.2.2.2.2.2.2.1 (gN g 590 - 1) (by omega)).1
    rw [ei, c.1]
    have em := max_i (a := v) (b := nI (gN g (591 + 3 * (gN g 590 - 1))))
    rw [nI_toInt (by omega)] at em
    refine k _ ?_ ?_ (fun Z hZ => ?_)
    · rw [em]
      split <;> omega
    · rw [em]
      split <;> omega
    · rw [em]
      have hz := hz Z hZ
      constructor
      · intro y
        refine ⟨hz.mp (by split at y <;> omega), fun i hi => ?_⟩
        have := hG.2.2.2.2.2.2.2 i (gN g 590 - 1) (by omega) (by omega)
        split at y <;> omega
      · rintro ⟨y1, y2⟩
        have y1 := hz.mpr y1
        have y2 := y2 (gN g 590 - 1) (by omega)
        split <;> omega
  · rw [hn] at q
    have q : gN g 590 = 0 := by
      rcases Nat.eq_zero_or_pos (gN g 590) with z | z
      · exact z
      · exact absurd (nI_lt (a := 0) z (by omega)) q
    refine c29_4 (ll_lp hG hM (fun v h1 h6 hz => ?_) (gN g 0) 0 (-1) (by omega) (by omega) (by omega) e0)
    rw [if_neg (fun z => by have := i_lt z; omega)]
    refine k v h1 h6 (fun Z hZ => (hz Z hZ).trans ⟨fun y => ⟨y, fun i hi => absurd hi (by omega)⟩, fun y => y.1⟩)
/-- so many who stand -/
theorem pcN {n : Nat} {N hd : Nat → Nat} (h : NP n J N hd) : pc (J n 9) = nb (fun s => decide (2 ≤ N s)) 64 := nb_cg 64 (fun s hs => (h s hs).2.1)
theorem pcC {n : Nat} {N hd : Nat → Nat} (h : NP n J N hd) : pc (J n 8) = nb (fun s => decide (1 ≤ N s)) 64 := nb_cg 64 (fun s hs => (h s hs).1)
end NV0
section NV36
variable {S : Nat × (Nat → Int32)} {d : Nat} {x : mX} {I : rI0} {J : rJ0} {g : Nat → Int32} {W : Nat → lV} {P H : Nat → Bool}
/-- begin -/
theorem be_36 {p1 p2 : Int64} {Q : rI0 → rJ0 → Prop} (hG : GA g) (hM : HM g W I J) (hP : ∀ s, P s = true → seB g s = true) (e1 : ∀ s, s < 64 → bits5 p1 s = P s) (e2 : ∀ s, s < 64 → bits5 p2 s = H s) (k : ∀ I' J', F36 I J I' J' → NO36 g W P H 0 I' J' → Q I' J') : wcV S (d + 3) 52 [.ref 36, .long p1, .long p2] x I J Q := by
  have h4 := hG.2.2.1
  have fI : ∀ b, b ≠ 36 → mSet (mSet (mSet I 36 2 (0 : Int32)) 36 3 (0 : Int32)) 36 12 (0 : Int32) b = I b := fun b hb => by rw [mSet_ne hb, mSet_ne hb, mSet_ne hb]
  have fJ : ∀ b, b ≠ 36 → mSet (mSet (mSet J 36 5 p1) 36 6 p2) 36 7 (0 : Int64) b = J b := fun b hb => by rw [mSet_ne hb, mSet_ne hb, mSet_ne hb]
  have hM0 : HM g W (mSet (mSet (mSet I 36 2 (0 : Int32)) 36 3 (0 : Int32)) 36 12 (0 : Int32)) (mSet (mSet (mSet J 36 5 p1) 36 6 p2) 36 7 (0 : Int64)) := hM.n36 ⟨fI, fJ⟩
  refine c52_36 (le_17 hG hM0 (fun v hv1 hv6 hz => ?_))
  have A : ∀ w : Int32, (∀ u : Nat, w.toInt < (u : Int) → evB g u) → wp S (d + 3) 52 72 [some (.ref 36), some (.long p1), none, some (.long p2), none] [] (wv x (mSet (mSet (mSet (mSet I 36 2 (0 : Int32)) 36 3 (0 : Int32)) 36 12 (0 : Int32)) 36 4 w) (mSet (mSet (mSet J 36 5 p1) 36 6 p2) 36 7 (0 : Int64))) (rV x Q) := by
    intro w hw
    have hM1 := hM0.n36 (I' := mSet (mSet (mSet (mSet I 36 2 (0 : Int32)) 36 3 (0 : Int32)) 36 12 (0 : Int32)) 36 4 w) ⟨fun b hb => mSet_ne hb, fun _ _ => rfl⟩
    have e0 : (0 : Int32) = nI (if stB g (prN g 0) 0 = true then 1 else 0) := by
      rw [show stB g (prN g 0) 0 = false from stB_0]
      rfl
    refine v52_36_72 (c56_36 ?_)
    rw [e0]
    refine dc_36 (d := d + 1) (P := P) (H := H) hG (show 0 ≤ 600 by omega) (cuN g 0) 0 _ _ (by omega) (Nat.le_refl _) hM1 rfl rfl e1 e2 (fun I1 J1 f1 fi1 fj1 c3 c5 c6 => ?_)
    have hM2 : HM g W I1 J1 := hM1.n36 f1
    have m1 : I1 36 2 = nI 0 := (fi1 2 (by decide)).trans rfl
    refine c57_36 (so_36 (d := d + 1) hG (show 0 ≤ 600 by omega) (gN g 0) 0 J1 (by omega) hM2 m1 (fun s hs => ?_) (fun J2 f2 fj2 l7 => ?_))
    · rw [fj1 7 (by decide) (by decide), Nat.zero_mul, decide_eq_false (show ¬ s < 0 by omega), Bool.false_and, Bool.or_false]
      exact b5_0
    have hM3 : HM g W I1 J2 := hM2.n36 f2
    have p5 : ∀ s, s < 64 → bits5 (J2 36 5) s = cuP g 0 P (cuN g 0) s := fun s hs => by rw [fj2 5 (by decide)]; exact c5 s hs
    have p6 : ∀ s, s < 64 → bits5 (J2 36 6) s = cuP g 1 H (cuN g 0) s := fun s hs => by rw [fj2 6 (by decide)]; exact c6 s hs
    refine sd_36 hG hM3 (show 0 ≤ 600 by omega) m1 p5 p6 l7 (fun r hr => ?_)
    have bit : ∀ s, s < 64 → bits5 r s = decide (1 ≤ n0N g P H s) ∧ bits5 r s = decide (2 ≤ n0N g P H s) := by
      intro s hs
      have hse := cuP_se hG hP (cuN g 0) cuN_l s (q := 0)
      rw [hr s hs, decide_eq_true (Nat.zero_le _)]
      unfold n0N
      cases y1 : cuP g 0 P (cuN g 0) s with
      | false => cases seB g s <;> exact ⟨rfl, rfl⟩
      | true =>
        rw [hse y1]
        cases cuP g 1 H (cuN g 0) s <;> cases lfB g 0 s <;> exact ⟨rfl, rfl⟩
    refine k _ _ (F36.tr (F36.tr ⟨fI, fJ⟩ ⟨fun b hb => mSet_ne hb, fun _ _ => rfl⟩) (F36.tr f1 (F36.tr f2 ⟨fun _ _ => rfl, fun b hb => by rw [mSet_ne hb, mSet_ne hb, mSet_ne hb, mSet_ne hb]⟩))) ⟨m1, c3, ?_, fun s hs => p5 s hs, fun s hs => p6 s hs, fun s hs => l7 s hs, fun s hs => ⟨(bit s hs).1, (bit s hs).2, b5_0, b5_0⟩, Or.inl ?_⟩
    · rw [fi1 4 (by decide)]
      exact hw
    · rw [fi1 12 (by decide)]
      rfl
  have ev : ∀ w : Int32, v.toInt ≤ w.toInt → (gN g 4 < 600 → (gN g 4 : Int) ≤ w.toInt) → ∀ u : Nat, w.toInt < (u : Int) → evB g u := by
    intro w h1 h2 u hu
    have z := (hz w.toInt (by omega)).mp h1
    refine ⟨fun i hi => ?_, fun r hr => ?_, fun y => ?_⟩
    · have := z.2 i hi
      omega
    · have := z.1 r hr
      omega
    · have := h2 y
      omega
  refine ⟨fun q => ?_, fun q => ?_⟩
  · rw [hM0.2.2.1] at q
    have q := (nI_ltI (b := 600) (by omega) (by omega)).mp q
    have em := max_i (a := v) (b := nI (gN g 4))
    rw [nI_toInt (by omega)] at em
    rw [hM0.2.2.1, show ∀ (f : rI0) (a b : Int32), mSet (mSet f 36 4 a) 36 4 b = mSet f 36 4 b from fun f a b => by
      funext i j
      unfold mSet va_up
      by_cases z : i = 36
      · rw [if_pos z, if_pos z]
        by_cases y : j = 4
        · rw [if_pos y, if_pos y]
        · rw [if_neg y, if_neg y, if_pos rfl, if_neg y]
      · rw [if_neg z, if_neg z, if_neg z]]
    refine A _ (ev _ ?_ (fun _ => ?_))
    · rw [em]
      split <;> omega
    · rw [em]
      split <;> omega
  · rw [hM0.2.2.1] at q
    have q := mt (nI_ltI (b := 600) (by omega) (by omega)).mpr q
    exact A v (ev v (Int.le_refl _) (fun y => absurd y q))
end NV36
