/-! trials: starts, leader -/
section TR7
/-- HEIGHT with s alone PAID -/
def soN (g : Nat → Int32) (W : Nat → lV) (H : Nat → Bool) (s : Nat) : Nat := hgt g W (fun u => decide (u = s)) H 60
def startsV (g : Nat → Int32) (W : Nat → lV) (H : Nat → Bool) (p : Int32) : Int32 := if seI g p = true then nI (soN g W H p.toInt.toNat) else -1
/-- the leader among the SEATS below s: 64 for none -/
def ldB (g : Nat → Int32) (W : Nat → lV) (H : Nat → Bool) (B s : Nat) : Bool := seB g s && (decide (B = 64) || (decide (soN g W H B < soN g W H s) || decide (soN g W H s = soN g W H B ∧ gN g (70 + s / gN g 1) < gN g (70 + B / gN g 1))))
def ldN (g : Nat → Int32) (W : Nat → lV) (H : Nat → Bool) : Nat → Nat
  | 0 => 64
  | s + 1 => if ldB g W H (ldN g W H s) s = true then s else ldN g W H s
def lsI (B : Nat) : Int32 := if B = 64 then -1 else nI B
def lhI (g : Nat → Int32) (W : Nat → lV) (H : Nat → Bool) (B : Nat) : Int32 := if B = 64 then -1 else nI (soN g W H B)
def leadV (g : Nat → Int32) (W : Nat → lV) (H : Nat → Bool) (p : Int32) : Int32 := if p = 0 then lsI (ldN g W H 64) else if p = 1 then lhI g W H (ldN g W H 64) else -1
variable {S : Nat × (Nat → Int32)} {d : Nat} {x : mX} {I I1 I2 : rI0} {J J1 J2 : rJ0} {g b : Nat → Int32} {W : Nat → lV} {P H : Nat → Bool}
theorem so_l {s : Nat} : soN g W H s ≤ 64 := hgt_l
theorem ld_s : ∀ s, s ≤ 64 → ldN g W H s = 64 ∨ (ldN g W H s < s ∧ seB g (ldN g W H s) = true) := by
  intro s
  induction s with
  | zero => exact fun _ => Or.inl rfl
  | succ s ih =>
    intro h
    show (if ldB g W H (ldN g W H s) s = true then s else ldN g W H s) = 64 ∨ ((if ldB g W H (ldN g W H s) s = true then s else ldN g W H s) < s + 1 ∧ seB g (if ldB g W H (ldN g W H s) s = true then s else ldN g W H s) = true)
    split
    · rename_i z
      unfold ldB at z
      rw [Bool.and_eq_true] at z
      exact Or.inr ⟨by omega, z.1⟩
    · exact (ih (by omega)).elim Or.inl (fun z => Or.inr ⟨by omega, z.2⟩)
theorem ld_y {s : Nat} (h : ldB g W H (ldN g W H s) s = true) : ldN g W H (s + 1) = s := by
  show (if ldB g W H (ldN g W H s) s = true then s else ldN g W H s) = _
  rw [if_pos h]
theorem ld_n {s : Nat} (h : ldB g W H (ldN g W H s) s = false) : ldN g W H (s + 1) = ldN g W H s := by
  show (if ldB g W H (ldN g W H s) s = true then s else ldN g W H s) = _
  rw [h]
  rfl
theorem ld_e {a : Nat} (h : ∀ s, seB g s = true → s < a) : ∀ s, a ≤ s → ldN g W H s = ldN g W H a := by
  intro s
  induction s with
  | zero => intro h; rw [show a = 0 by omega]
  | succ s ih =>
    intro h2
    by_cases z : a = s + 1
    · rw [z]
    · rw [ld_n, ih (by omega)]
      unfold ldB
      cases y : seB g s with
      | true =>
        have := h s y
        omega
      | false => rfl
theorem one_s {s : Nat} (hse : seB g s = true) : ∀ u, decide (u = s) = true → seB g u = true := by
  intro u hu
  rw [of_decide_eq_true hu]
  exact hse
/-- the class: starts -/
theorem xStart1 {p : Int32} {Q : Int32 → rI0 → rJ0 → Prop} (hC : CE g W P H I J) (k1 : ∀ s, s < 64 → p = nI s → seB g s = true → seI g p = true → ∀ I' J', F41 I J I' J' → Q (nI (soN g W H s)) I' J') (k0 : seI g p = false → Q (-1) I J) : wcI S (d + 23) 132 [.ref 0, .int p] x I J Q := by
  refine c132_0 (d := d + 22) (cIs hC.2.1.2.2.2.2.1 (fun s hs es hse hsi => ⟨fun z => absurd z (by decide), fun _ => ?_⟩) (fun hsi => ⟨fun _ => k0 hsi, fun z => absurd rfl z⟩))
  have kk := k1 s hs es hse hsi
  subst es
  refine ht_41 (d := d) (P := fun u => decide (u = s)) (H := H) hC.1 hC.2.1 (one_s hse) (fun u hu => b5_1 hs) hC.2.2.2.2.1 (fun I' J' r f h1 h2 => ?_)
  have a := hgt_l (g := g) (W := W) (P := fun u => decide (u = s)) (H := H) (t := 60)
  have e : (64 : Int32).toInt = 64 := by decide
  rw [e] at h2
  have er : r = soN g W H s := by
    show r = hgt g W (fun u => decide (u = s)) H 60
    omega
  rw [er]
  exact kk I' J' f
theorem xStarts {p : Int32} {Q : Int32 → rI0 → rJ0 → Prop} (hC : CE g W P H I J) (k : ∀ I' J', F41 I J I' J' → Q (startsV g W H p) I' J') : wcI S (d + 23) 132 [.ref 0, .int p] x I J Q := by
  refine xStart1 hC (fun s hs es hse hsi I' J' f => ?_) (fun hsi => ?_)
  · have kk := k I' J' f
    unfold startsV at kk
    rw [hsi, if_pos rfl, es, nI_tn (by omega)] at kk
    exact kk
  · have kk := k I J F41.rf
    unfold startsV at kk
    rw [hsi] at kk
    exact kk
/-- the reference: starts -/
theorem yStarts {p : Int32} {Q : Int32 → rI0 → rJ0 → Prop} (hR : RH g W I J) (h3 : gN g 3 ≤ 64) (e17 : ∀ s, s < 64 → bits5 (J 43 17) s = H s) (k : ∀ I' J', FG I J I' J' → RH g W I' J' → Q (startsV g W H p) I' J') : wcI S (d + 6) 239 [.ref 43, .int p] x I J Q := by
  have hR1 : RH g W (mSet I 43 0 0) J := hR.t
  refine c239_43 (d := d + 5) (rIs (d := d + 4) hR1.1 hR1.2.1 hR1.2.2.2.2.1 (fun s hs es hse hsi => ⟨fun z => absurd z (by decide), fun _ => ?_⟩) (fun hsi => ⟨fun _ => ?_, fun z => absurd rfl z⟩))
  · subst es
    refine rht (d := d) (P := fun u => decide (u = s)) (H := H) hR1 h3 (fun u hu => b5_1 hs) e17 (fun I' J' f h _ _ => ?_)
    have kk := k I' J' (FG.t.tr f.fg) h.h
    unfold startsV at kk
    rw [hsi, if_pos rfl, nI_tn (by omega)] at kk
    exact kk
  · have kk := k _ _ (FG.t (v := 0)) hR1
    unfold startsV at kk
    rw [hsi] at kk
    exact kk
/-- the class: leader -/
theorem xLead {p : Int32} {Q : Int32 → rI0 → rJ0 → Prop} (hC : CE g W P H I J) (hp : ∀ r, r < 8 → I 7 r = nI (gN g (70 + r))) (hpl : ∀ r, r < 8 → gN g (70 + r) ≤ 999) (k : ∀ I' J', F41 I J I' J' → Q (leadV g W H p) I' J') : wcI S (d + 24) 133 [.ref 0, .int p] x I J Q := by
  have e0 : (0 : Int32).toInt = 0 := by decide
  have e1 : (1 : Int32).toInt = 1 := by decide
  have lp : ∀ (j s : Nat) (I1 : rI0) (J1 : rJ0), s + j = 64 → F41 I J I1 J1 → (p = 0 ∨ p = 1) → wp S (d + 24) 133 18 [some (.ref 0), some (.int p), some (.int (lsI (ldN g W H s))), some (.int (lhI g W H (ldN g W H s))), some (.int (nI s)), none] [] (wv x I1 J1) (rI x Q) := by
    intro j
    induction j with
    | zero =>
      intro s I1 J1 hs f hp01
      have hs : s = 64 := by omega
      subst hs
      have kk := k I1 J1 f
      unfold leadV at kk
      refine v133_0_18 ⟨fun q => absurd q (nI_nlt (b := 64) (Nat.le_refl _) (by omega)), fun _ => ⟨fun z => ?_, fun z => ?_⟩⟩
      · rw [if_pos z] at kk
        exact kk
      · rw [if_neg z, if_pos (hp01.resolve_left z)] at kk
        exact kk
    | succ j ih =>
      intro s I1 J1 hs f hp01
      have yes := @ld_y g W H s
      have noo := @ld_n g W H s
      have ls := ld_s (g := g) (W := W) (H := H) s (by omega)
      have ih0 := ih (s + 1)
      revert yes noo ls ih0
      generalize ldN g W H (s + 1) = B1
      generalize ldN g W H s = B
      intro yes noo ls ih0
      have nx : ldB g W H B s = false → ∀ I2 J2, F41 I1 J1 I2 J2 → wp S (d + 24) 133 18 [some (.ref 0), some (.int p), some (.int (lsI B)), some (.int (lhI g W H B)), some (.int (nI s + 1)), none] [] (wv x I2 J2) (rI x Q) := by
        intro hb I2 J2 f2
        have e := noo hb
        subst e
        rw [← nI_succ]
        exact ih0 I2 J2 (by omega) (f.tr f2) hp01
      have tk : ldB g W H B s = true → ∀ I2 J2, F41 I1 J1 I2 J2 → wp S (d + 24) 133 18 [some (.ref 0), some (.int p), some (.int (nI s)), some (.int (nI (soN g W H s))), some (.int (nI s + 1)), none] [] (wv x I2 J2) (rI x Q) := by
        intro hb I2 J2 f2
        have e := yes hb
        subst e
        rw [← nI_succ]
        have i2 := ih0 I2 J2 (by omega) (f.tr f2) hp01
        unfold lsI lhI at i2
        rw [if_neg (by omega), if_neg (by omega)] at i2
        exact i2
      clear ih ih0 yes noo
      have hC1 : CE g W P H I1 J1 := hC.k f.k
      refine v133_0_18 (d := d + 23) ⟨fun _ => xStart1 (d := d) hC1 (fun s' hs' es hse hsi I2 J2 f2 => ?_) (fun hsi => ?_), fun q => absurd (nI_lt (b := 64) (by omega) (by omega)) q⟩
      · have es : s = s' := nI_inj (by omega) (by omega) es
        subst es
        have so := @so_l g W H s
        have soB := @so_l g W H B
        by_cases z : B = 64
        · have hb : ldB g W H B s = true := by
            unfold ldB
            rw [hse, decide_eq_true z]
            rfl
          refine ⟨fun _ => tk hb I2 J2 f2, fun q => absurd ?_ q⟩
          rw [show lhI g W H B = -1 from if_pos z, Int32.lt_iff_toInt_lt, nI_toInt (by omega)]
          have e : (-1 : Int32).toInt = -1 := by decide
          omega
        · have hB : B < 64 ∧ seB g B = true := by
            rcases ls with w | w
            · exact absurd w z
            · exact ⟨by omega, w.2⟩
          have bb : ldB g W H B s = (decide (soN g W H B < soN g W H s) || decide (soN g W H s = soN g W H B ∧ gN g (70 + s / gN g 1) < gN g (70 + B / gN g 1))) := by
            unfold ldB
            rw [hse, decide_eq_false z, Bool.true_and, Bool.false_or]
          have el : lsI B = nI B := if_neg z
          have eh : lhI g W H B = nI (soN g W H B) := if_neg z
          rw [el, eh] at nx
          rw [el, eh]
          refine ⟨fun q => tk ?_ I2 J2 f2, fun q => ⟨fun w => absurd w (nI_n1 (by omega)), fun _ => ⟨fun w => ?_, fun w => nx ?_ I2 J2 f2⟩⟩⟩
          · rw [bb, decide_eq_true ((nI_ltI (by omega) (by omega)).mp q), Bool.true_or]
          · have hM2 := (hC1.k f2.k)
            have hp2 : ∀ r, r < 8 → I2 7 r = nI (gN g (70 + r)) := fun r hr => by
              rw [f2.1 7 (by decide), f.1 7 (by decide)]
              exact hp r hr
            have w := nI_inj (by omega) (by omega) w
            obtain ⟨-, hr1, -⟩ := seC hM2.1 hse
            obtain ⟨-, hr2, -⟩ := seC hM2.1 hB.2
            have h8 := hM2.1.1
            have pl1 := hpl (s / gN g 1) (by omega)
            have pl2 := hpl (B / gN g 1) (by omega)
            refine c26x (d := d + 21) hM2.1 hM2.2.1 hp2 hse (c26x (d := d + 21) hM2.1 hM2.2.1 hp2 hB.2 ⟨fun v => tk ?_ I2 J2 f2, fun v => nx ?_ I2 J2 f2⟩)
            · rw [bb, decide_eq_true (show soN g W H s = soN g W H B ∧ gN g (70 + s / gN g 1) < gN g (70 + B / gN g 1) from ⟨w, (nI_ltI (by omega) (by omega)).mp v⟩), Bool.or_true]
            · rw [bb, decide_eq_false (by omega), decide_eq_false (fun y => v (nI_lt y.2 (by omega)))]
              rfl
          · have q : ¬ soN g W H B < soN g W H s := fun y => q (nI_lt y (by omega))
            rw [bb, decide_eq_false q, decide_eq_false (fun y => w (by rw [y.1]))]
            rfl
      · rw [seI_n (by omega)] at hsi
        have hb : ldB g W H B s = false := by
          unfold ldB
          rw [hsi]
          rfl
        have soB := @so_l g W H B
        refine ⟨fun q => ?_, fun q => ⟨fun _ => nx hb I1 J1 F41.rf, fun _ => ⟨fun w => ?_, fun _ => nx hb I1 J1 F41.rf⟩⟩⟩
        · refine absurd q ?_
          unfold lhI
          split
          · decide
          · rw [Int32.lt_iff_toInt_lt, nI_toInt (by omega)]
            have e : (-1 : Int32).toInt = -1 := by decide
            omega
        · by_cases z : B = 64
          · rename_i v
            exact absurd (show lsI B = -1 from if_pos z) v
          · rw [show lhI g W H B = nI (soN g W H B) from if_neg z] at w
            exact absurd w.symm (nI_n1 (by omega))
  refine c133_0 ⟨fun q => ?_, fun q => ⟨fun q2 => ?_, fun q2 => ?_⟩⟩
  · rw [Int32.lt_iff_toInt_lt, e0] at q
    have kk := k I J F41.rf
    unfold leadV at kk
    rw [if_neg (fun z => by rw [z, e0] at q; omega), if_neg (fun z => by rw [z, e1] at q; omega)] at kk
    exact kk
  · rw [Int32.lt_iff_toInt_lt, e1] at q2
    have kk := k I J F41.rf
    unfold leadV at kk
    rw [if_neg (fun z => by rw [z, e0] at q2; omega), if_neg (fun z => by rw [z, e1] at q2; omega)] at kk
    exact kk
  · rw [Int32.lt_iff_toInt_lt, e0] at q
    rw [Int32.lt_iff_toInt_lt, e1] at q2
    refine lp 64 0 I J (by omega) F41.rf ?_
    by_cases z : p.toInt = 0
    · exact Or.inl (Int32.toInt_inj.mp (by rw [z, e0]))
    · exact Or.inr (Int32.toInt_inj.mp (by rw [e1]; omega))
end TR7
