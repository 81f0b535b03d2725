section NV42
variable {S : Nat × (Nat → Int32)} {d : Nat} {x : mX} {I : rI0} {J : rJ0} {g : Nat → Int32} {W : Nat → lV} {P H : Nat → Bool}
/-- begin -/
theorem be_42 {p1 p2 : Int64} {Q : rI0 → rJ0 → Prop} (hG : GA g) (hM : HM g W I J) (hP : ∀ s, P s = true → seB g s = true) (e1 : ∀ s, s < 64 → bits5 p1 s = P s) (e2 : ∀ s, s < 64 → bits5 p2 s = H s) (k : ∀ I' J', F42 I J I' J' → NO42 g W P H 0 I' J' → Q I' J') : wcV S (d + 3) 52 [.ref 42, .long p1, .long p2] x I J Q := by
  have h4 := hG.2.2.1
  have fI : ∀ b, b ≠ 42 → mSet (mSet (mSet I 42 2 (0 : Int32)) 42 3 (0 : Int32)) 42 12 (0 : Int32) b = I b := fun b hb => by rw [mSet_ne hb, mSet_ne hb, mSet_ne hb]
  have fJ : ∀ b, b ≠ 42 → mSet (mSet (mSet J 42 5 p1) 42 6 p2) 42 7 (0 : Int64) b = J b := fun b hb => by rw [mSet_ne hb, mSet_ne hb, mSet_ne hb]
  have hM0 : HM g W (mSet (mSet (mSet I 42 2 (0 : Int32)) 42 3 (0 : Int32)) 42 12 (0 : Int32)) (mSet (mSet (mSet J 42 5 p1) 42 6 p2) 42 7 (0 : Int64)) := hM.n42 ⟨fI, fJ⟩
  refine c52_42 (le_17 hG hM0 (fun v hv1 hv6 hz => ?_))
  have A : ∀ w : Int32, (∀ u : Nat, w.toInt < (u : Int) → evB g u) → wp S (d + 3) 52 72 [some (.ref 42), some (.long p1), none, some (.long p2), none] [] (wv x (mSet (mSet (mSet (mSet I 42 2 (0 : Int32)) 42 3 (0 : Int32)) 42 12 (0 : Int32)) 42 4 w) (mSet (mSet (mSet J 42 5 p1) 42 6 p2) 42 7 (0 : Int64))) (rV x Q) := by
    intro w hw
    have hM1 := hM0.n42 (I' := mSet (mSet (mSet (mSet I 42 2 (0 : Int32)) 42 3 (0 : Int32)) 42 12 (0 : Int32)) 42 4 w) ⟨fun b hb => mSet_ne hb, fun _ _ => rfl⟩
    have e0 : (0 : Int32) = nI (if stB g (prN g 0) 0 = true then 1 else 0) := by
      rw [show stB g (prN g 0) 0 = false from stB_0]
      rfl
    refine v52_42_72 (c56_42 ?_)
    rw [e0]
    refine dc_42 (d := d + 1) (P := P) (H := H) hG (show 0 ≤ 600 by omega) (cuN g 0) 0 _ _ (by omega) (Nat.le_refl _) hM1 rfl rfl e1 e2 (fun I1 J1 f1 fi1 fj1 c3 c5 c6 => ?_)
    have hM2 : HM g W I1 J1 := hM1.n42 f1
    have m1 : I1 42 2 = nI 0 := (fi1 2 (by decide)).trans rfl
    refine c57_42 (so_42 (d := d + 1) hG (show 0 ≤ 600 by omega) (gN g 0) 0 J1 (by omega) hM2 m1 (fun s hs => ?_) (fun J2 f2 fj2 l7 => ?_))
    · rw [fj1 7 (by decide) (by decide), Nat.zero_mul, decide_eq_false (show ¬ s < 0 by omega), Bool.false_and, Bool.or_false]
      exact b5_0
    have hM3 : HM g W I1 J2 := hM2.n42 f2
    have p5 : ∀ s, s < 64 → bits5 (J2 42 5) s = cuP g 0 P (cuN g 0) s := fun s hs => by rw [fj2 5 (by decide)]; exact c5 s hs
    have p6 : ∀ s, s < 64 → bits5 (J2 42 6) s = cuP g 1 H (cuN g 0) s := fun s hs => by rw [fj2 6 (by decide)]; exact c6 s hs
    refine sd_42 hG hM3 (show 0 ≤ 600 by omega) m1 p5 p6 l7 (fun r hr => ?_)
    have bit : ∀ s, s < 64 → bits5 r s = decide (1 ≤ n0N g P H s) ∧ bits5 r s = decide (2 ≤ n0N g P H s) := by
      intro s hs
      have hse := cuP_se hG hP (cuN g 0) cuN_l s (q := 0)
      rw [hr s hs, decide_eq_true (Nat.zero_le _)]
      unfold n0N
      cases y1 : cuP g 0 P (cuN g 0) s with
      | false => cases seB g s <;> exact ⟨rfl, rfl⟩
      | true =>
        rw [hse y1]
        cases cuP g 1 H (cuN g 0) s <;> cases lfB g 0 s <;> exact ⟨rfl, rfl⟩
    refine k _ _ (F42.tr (F42.tr ⟨fI, fJ⟩ ⟨fun b hb => mSet_ne hb, fun _ _ => rfl⟩) (F42.tr f1 (F42.tr f2 ⟨fun _ _ => rfl, fun b hb => by rw [mSet_ne hb, mSet_ne hb, mSet_ne hb, mSet_ne hb]⟩))) ⟨m1, c3, ?_, fun s hs => p5 s hs, fun s hs => p6 s hs, fun s hs => l7 s hs, fun s hs => ⟨(bit s hs).1, (bit s hs).2, b5_0, b5_0⟩, Or.inl ?_⟩
    · rw [fi1 4 (by decide)]
      exact hw
    · rw [fi1 12 (by decide)]
      rfl
  have ev : ∀ w : Int32, v.toInt ≤ w.toInt → (gN g 4 < 600 → (gN g 4 : Int) ≤ w.toInt) → ∀ u : Nat, w.toInt < (u : Int) → evB g u := by
    intro w h1 h2 u hu
    have z := (hz w.toInt (by omega)).mp h1
    refine ⟨fun i hi => ?_, fun r hr => ?_, fun y => ?_⟩
    · have := z.2 i hi
      omega
    · have := z.1 r hr
      omega
    · have := h2 y
      omega
  refine ⟨fun q => ?_, fun q => ?_⟩
  · rw [hM0.2.2.1] at q
    have q := (nI_ltI (b := 600) (by omega) (by omega)).mp q
    have em := max_i (a := v) (b := nI (gN g 4))
    rw [nI_toInt (by omega)] at em
    rw [hM0.2.2.1, show ∀ (f : rI0) (a b : Int32), mSet (mSet f 42 4 a) 42 4 b = mSet f 42 4 b from fun f a b => by
      funext i j
      unfold mSet va_up
      by_cases z : i = 42
      · rw [if_pos z, if_pos z]
        by_cases y : j = 4
        · rw [if_pos y, if_pos y]
        · rw [if_neg y, if_neg y, if_pos rfl, if_neg y]
      · rw [if_neg z, if_neg z, if_neg z]]
    refine A _ (ev _ ?_ (fun _ => ?_))
    · rw [em]
      split <;> omega
    · rw [em]
      split <;> omega
  · rw [hM0.2.2.1] at q
    have q := mt (nI_ltI (b := 600) (by omega) (by omega)).mpr q
    exact A v (ev v (Int.le_refl _) (fun y => absurd y q))
/-- goTo -/
theorem gt_42 {t : Nat} {Q : rI0 → rJ0 → Prop} (hG : GA g) (hP : ∀ s, P s = true → seB g s = true) (ht : t ≤ 600) : ∀ (m i : Nat) (I : rI0) (J : rJ0), i + m = t → HM g W I J → NO42 g W P H i I J → (∀ I' J' v, F42 I J I' J' → v ≤ t → NO42 g W P H v I' J' → nt g W P H v = nt g W P H t → Q I' J') → wp S (d + 22) 53 5 [some (.ref 42), some (.int (nI t)), some (.int (nI i))] [] (wv x I J) (rV x Q) := by
  intro m
  induction m with
  | zero =>
    intro i I J hi hM h k
    have hi : i = t := by omega
    subst hi
    exact v53_42_5 (d := d + 21) ⟨fun q => absurd q (nI_nlt (Nat.le_refl _) (by omega)), fun _ => k I J i F42.rf (Nat.le_refl _) h rfl⟩
  | succ m ih =>
    intro i I J hi hM h k
    refine v53_42_5 (d := d + 21) ⟨fun _ => ⟨fun _ => st_42 hG hM hP (by omega) h (fun I1 J1 f1 h1 => ?_), fun q => ?_⟩, fun q => absurd (nI_lt (by omega) (by omega)) q⟩
    · rw [← nI_succ]
      exact ih (i + 1) I1 J1 (by omega) (hM.n42 f1) h1 (fun I2 J2 v f2 hv h2 e2 => k I2 J2 v (F42.tr f1 f2) hv h2 e2)
    · rcases h.2.2.2.2.2.2.2 with z | ⟨z1, z2⟩
      · exact absurd z q
      · exact k I J i F42.rf (by omega) h (z2 t (by omega) ht).symm
theorem go_42 {t i : Nat} {Q : rI0 → rJ0 → Prop} (hG : GA g) (hP : ∀ s, P s = true → seB g s = true) (ht : t ≤ 600) (hi : i ≤ t) (hM : HM g W I J) (h : NO42 g W P H i I J) (k : ∀ I' J' v, F42 I J I' J' → v ≤ t → NO42 g W P H v I' J' → nt g W P H v = nt g W P H t → Q I' J') : wcV S (d + 22) 53 [.ref 42, .int (nI t)] x I J Q := by
  refine c53_42 ?_
  rw [h.1]
  exact gt_42 hG hP ht (t - i) i I J (by omega) hM h k
end NV42
