/-! trials: leader of the reference; parts -/
section TR8
variable {S : Nat × (Nat → Int32)} {d : Nat} {x : mX} {I I1 I2 : rI0} {J J1 J2 : rJ0} {g b : Nat → Int32} {W : Nat → lV} {P H : Nat → Bool}
theorem yLead {p : Int32} {Q : Int32 → rI0 → rJ0 → Prop} (hR : RH g W I J) (h3 : gN g 3 ≤ 64) (e17 : ∀ s, s < 64 → bits5 (J 43 17) s = H s) (k : ∀ I' J', FG I J I' J' → RH g W I' J' → Q (leadV g W H p) I' J') : wcI S (d + 6) 240 [.ref 43, .int p] x I J Q := by
  obtain ⟨z0, z1, -, -, -, -⟩ := k0c
  have e0 : (0 : Int32).toInt = 0 := by decide
  have e1 : (1 : Int32).toInt = 1 := by decide
  have hG := hR.1
  have hI := hR.2.1
  have rc : gN g 0 * gN g 1 ≤ 64 := Nat.le_trans (Nat.mul_le_mul hG.1 hG.2.1) (by decide)
  have hR1 : RH g W (mSet I 43 0 0) J := hR.t
  have lp : ∀ (j s : Nat) (I1 : rI0) (J1 : rJ0), s + j = gN g 0 * gN g 1 → FG I J I1 J1 → RH g W I1 J1 → (p = 0 ∨ p = 1) → wp S (d + 6) 240 23 [some (.ref 43), some (.int p), some (.int (lsI (ldN g W H s))), some (.int (lhI g W H (ldN g W H s))), some (.int (nI s)), none] [] (wv x I1 J1) (rI x Q) := by
    intro j
    induction j with
    | zero =>
      intro s I1 J1 hs f r hp01
      have kk := k I1 J1 f r
      unfold leadV at kk
      rw [ld_e (a := s) (fun u hu => by have := (hG.2.2.2.2.1 u hu).1; omega) 64 (by omega)] at kk
      refine v240_43_23 ⟨by decide, by decide, ?_⟩
      rw [z0, z1, r.2.2.2.2.1, hI.1 0 (by omega), hI.1 1 (by omega), nI_mu]
      refine ⟨fun q => absurd q (nI_nlt (by omega) (by omega)), fun _ => ⟨fun z => ?_, fun z => ?_⟩⟩
      · rw [if_pos z] at kk
        exact kk
      · rw [if_neg z, if_pos (hp01.resolve_left z)] at kk
        exact kk
    | succ j ih =>
      intro s I1 J1 hs f r hp01
      have yes := @ld_y g W H s
      have noo := @ld_n g W H s
      have ls := ld_s (g := g) (W := W) (H := H) s (by omega)
      have ih0 := ih (s + 1)
      revert yes noo ls ih0
      generalize ldN g W H (s + 1) = B1
      generalize ldN g W H s = B
      intro yes noo ls ih0
      have nx : ldB g W H B s = false → ∀ I2 J2, FG I J I2 J2 → RH g W I2 J2 → wp S (d + 6) 240 23 [some (.ref 43), some (.int p), some (.int (lsI B)), some (.int (lhI g W H B)), some (.int (nI s + 1)), none] [] (wv x I2 J2) (rI x Q) := by
        intro hb I2 J2 f2 r2
        have e := noo hb
        subst e
        rw [← nI_succ]
        exact ih0 I2 J2 (by omega) f2 r2 hp01
      have tk : ldB g W H B s = true → ∀ I2 J2, FG I J I2 J2 → RH g W I2 J2 → wp S (d + 6) 240 23 [some (.ref 43), some (.int p), some (.int (nI s)), some (.int (nI (soN g W H s))), some (.int (nI s + 1)), none] [] (wv x I2 J2) (rI x Q) := by
        intro hb I2 J2 f2 r2
        have e := yes hb
        subst e
        rw [← nI_succ]
        have i2 := ih0 I2 J2 (by omega) f2 r2 hp01
        unfold lsI lhI at i2
        rw [if_neg (by omega), if_neg (by omega)] at i2
        exact i2
      clear ih ih0 yes noo
      refine v240_43_23 (d := d + 5) ⟨by decide, by decide, ?_⟩
      rw [z0, z1, r.2.2.2.2.1, hI.1 0 (by omega), hI.1 1 (by omega), nI_mu]
      refine ⟨fun _ => rIs (d := d + 4) hG hI r.2.2.2.2.1 (fun s' hs' es hse hsi => ⟨fun z => absurd z (by decide), fun _ => ?_⟩) (fun hsi => ⟨fun _ => nx ?_ I1 J1 f r, fun z => absurd rfl z⟩), fun q => absurd (nI_lt (by omega) (by omega)) q⟩
      · have es : s = s' := nI_inj (by omega) (by omega) es
        subst es
        refine rht (d := d) (P := fun u => decide (u = s)) (H := H) r h3 (fun u hu => b5_1 hs') (by rw [f.2.2.2 17 (by omega)]; exact e17) (fun I2 J2 f2 h2 _ _ => ?_)
        have f3 : FG I J I2 J2 := f.tr f2.fg
        have r3 : RH g W I2 J2 := h2.h
        rw [show hgt g W (fun u => decide (u = s)) H 60 = soN g W H s from rfl]
        have so := @so_l g W H s
        have soB := @so_l g W H B
        by_cases z : B = 64
        · have hb : ldB g W H B s = true := by
            unfold ldB
            rw [hse, decide_eq_true z]
            rfl
          have e : (-1 : Int32).toInt = -1 := by decide
          rw [show lhI g W H B = -1 from if_pos z]
          refine ⟨fun q => ?_, fun _ => ⟨fun w => absurd w (nI_n1 (by omega)), fun _ => tk hb I2 J2 f3 r3⟩⟩
          rw [Int32.lt_iff_toInt_lt, nI_toInt (by omega)] at q
          omega
        · have hB : B < 64 ∧ seB g B = true := by
            rcases ls with w | w
            · exact absurd w z
            · exact ⟨by omega, w.2⟩
          have bb : ldB g W H B s = (decide (soN g W H B < soN g W H s) || decide (soN g W H s = soN g W H B ∧ gN g (70 + s / gN g 1) < gN g (70 + B / gN g 1))) := by
            unfold ldB
            rw [hse, decide_eq_false z, Bool.true_and, Bool.false_or]
          have el : lsI B = nI B := if_neg z
          have eh : lhI g W H B = nI (soN g W H B) := if_neg z
          rw [el, eh] at nx
          rw [el, eh]
          refine ⟨fun q => nx ?_ I2 J2 f3 r3, fun q => ⟨fun w => ?_, fun w => tk ?_ I2 J2 f3 r3⟩⟩
          · have q := (nI_ltI (by omega) (by omega)).mp q
            rw [bb, decide_eq_false (by omega), decide_eq_false (by omega)]
            rfl
          · have w := nI_inj (by omega) (by omega) w
            obtain ⟨-, hr1, -⟩ := seC hG hse
            obtain ⟨-, hr2, -⟩ := seC hG hB.2
            have h8 := hG.1
            have pl1 := (hI.2.2.1 (s / gN g 1) (by omega)).2.1
            have pl2 := (hI.2.2.1 (B / gN g 1) (by omega)).2.1
            refine r188x (d := d + 5) hG hI r3.2.2.2.2.1 hse (r188x (d := d + 5) hG hI r3.2.2.2.2.1 hB.2 ⟨fun v => tk ?_ I2 J2 f3 r3, fun v => nx ?_ I2 J2 f3 r3⟩)
            · rw [bb, decide_eq_true (show soN g W H s = soN g W H B ∧ gN g (70 + s / gN g 1) < gN g (70 + B / gN g 1) from ⟨w, (nI_ltI (by omega) (by omega)).mp v⟩), Bool.or_true]
            · rw [bb, decide_eq_false (by omega), decide_eq_false (fun y => v (nI_lt y.2 (by omega)))]
              rfl
          · have q : ¬ soN g W H s < soN g W H B := fun y => q (nI_lt y (by omega))
            have w : ¬ soN g W H s = soN g W H B := fun y => w (by rw [y])
            rw [bb, decide_eq_true (by omega), Bool.true_or]
      · rw [seI_n (by omega)] at hsi
        unfold ldB
        rw [hsi]
        rfl
  refine c240_43 (d := d + 5) (c151 ⟨fun q => ⟨fun _ => ?_, fun z => absurd rfl z⟩, fun q => ⟨fun q2 => ⟨fun _ => ?_, fun z => absurd rfl z⟩, fun q2 => ⟨fun z => absurd z (by decide), fun _ => ?_⟩⟩⟩)
  · rw [Int32.lt_iff_toInt_lt, e0] at q
    have kk := k _ _ (FG.t (v := 0)) hR1
    unfold leadV at kk
    rw [if_neg (fun z => by rw [z, e0] at q; omega), if_neg (fun z => by rw [z, e1] at q; omega)] at kk
    exact kk
  · rw [Int32.lt_iff_toInt_lt, e1] at q2
    have kk := k _ _ (FG.t (v := 0)) hR1
    unfold leadV at kk
    rw [if_neg (fun z => by rw [z, e0] at q2; omega), if_neg (fun z => by rw [z, e1] at q2; omega)] at kk
    exact kk
  · rw [Int32.lt_iff_toInt_lt, e0] at q
    rw [Int32.lt_iff_toInt_lt, e1] at q2
    refine lp (gN g 0 * gN g 1) 0 _ J (by omega) FG.t hR1 ?_
    by_cases z : p.toInt = 0
    · exact Or.inl (Int32.toInt_inj.mp (by rw [z, e0]))
    · exact Or.inr (Int32.toInt_inj.mp (by rw [e1]; omega))
def eq6 (p q : Nat → Bool) : Bool := decide (nb (fun s => p s != q s) 64 = 0)
theorem eq6_t {p q : Nat → Bool} (h : ∀ s, s < 64 → p s = q s) : eq6 p q = true := decide_eq_true (nb_none 64 (fun s hs => by rw [h s hs]; cases q s <;> rfl))
theorem eq6_f {p q : Nat → Bool} (h : ¬ ∀ s, s < 64 → p s = q s) : eq6 p q = false := by
  refine decide_eq_false (fun z => h (fun s hs => ?_))
  refine Classical.byContradiction (fun w => ?_)
  have : 0 < nb (fun s => p s != q s) 64 := (nb_pos 64).mpr ⟨s, hs, by cases y : p s <;> cases y2 : q s <;> rw [y, y2] at w <;> first | exact absurd rfl w | rfl⟩
  omega
/-- do two nights differ at t? -/
def dfB (g : Nat → Int32) (W : Nat → lV) (H : Nat → Bool) (s1 s2 t : Nat) : Bool := !(eq6 (fun s => decide (1 ≤ (nt g W (fun u => decide (u = s1)) H t).1 s)) (fun s => decide (1 ≤ (nt g W (fun u => decide (u = s2)) H t).1 s)) && eq6 (fun s => decide (2 ≤ (nt g W (fun u => decide (u = s1)) H t).1 s)) (fun s => decide (2 ≤ (nt g W (fun u => decide (u = s2)) H t).1 s)))
def partsV (g : Nat → Int32) (W : Nat → lV) (H : Nat → Bool) (p1 p2 : Int32) : Int32 := if (seI g p1 && seI g p2) = true then fnI (dfB g W H p1.toInt.toNat p2.toInt.toNat) 61 0 else -1
theorem lg_p {v w : Int64} {p q : Nat → Bool} (h1 : ∀ s, s < 64 → bits5 v s = p s) (h2 : ∀ s, s < 64 → bits5 w s = q s) : lg_cmp v w = 0 ↔ ∀ s, s < 64 → p s = q s := by
  rw [lg_eq]
  exact ⟨fun h s hs => by rw [← h1 s hs, h, h2 s hs], fun h => b5_ext (fun s hs => by rw [h1 s hs, h2 s hs]; exact h s hs)⟩
/-- the class: partOf -/
theorem c96x {s1 s2 : Nat} {Q : Int32 → rI0 → rJ0 → Prop} (hC : CE g W P H I J) (hs1 : s1 < 64) (hs2 : s2 < 64) (h1 : seB g s1 = true) (h2 : seB g s2 = true) (k : ∀ I' J', FA I J I' J' → Q (fnI (dfB g W H s1 s2) 61 0) I' J') : wcI S (d + 23) 96 [.ref 37, .long ((1 : Int64) <<< ((nI s1).toInt64 &&& 63)), .long ((1 : Int64) <<< ((nI s2).toInt64 &&& 63))] x I J Q := by
  have lp : ∀ (l1 l3 : Int64) (j t v1 v2 : Nat) (I1 : rI0) (J1 : rJ0), t + j = 61 → v1 ≤ t → v2 ≤ t → FA I J I1 J1 → NO41 g W (fun u => decide (u = s1)) H v1 I1 J1 → NO42 g W (fun u => decide (u = s2)) H v2 I1 J1 → (∀ I' J', FA I J I' J' → Q (fnI (dfB g W H s1 s2) j t) I' J') → wp S (d + 23) 96 33 [some (.ref 37), some (.long l1), none, some (.long l3), none, some (.int (nI t))] [] (wv x I1 J1) (rI x Q) := by
    intro l1 l3 j
    induction j with
    | zero =>
      intro t v1 v2 I1 J1 ht hv1 hv2 f n1 n2 c
      exact v96_37_33 ⟨fun _ => c I1 J1 f, fun q => absurd (nI_lt (a := 60) (by omega) (by omega)) q⟩
    | succ j ih =>
      intro t v1 v2 I1 J1 ht hv1 hv2 f n1 n2 c
      have c : ∀ I' J', FA I J I' J' → Q (if dfB g W H s1 s2 t = true then nI t else fnI (dfB g W H s1 s2) j (t + 1)) I' J' := c
      have hC1 := hC.a f
      refine v96_37_33 (d := d + 22) ⟨fun q => absurd q (nI_nlt (a := 60) (by omega) (by omega)), fun _ => go_41 (d := d) hC1.1 (one_s h1) (by omega) hv1 hC1.2.1 n1 (fun I2 J2 w1 f2 hw1 n1b ev1 => ?_)⟩
      have hC2 := hC1.a f2.a
      have n2b : NO42 g W (fun u => decide (u = s2)) H v2 I2 J2 := n2.mv (f2.1 42 (by decide)) (f2.2 42 (by decide))
      refine go_42 (d := d) hC2.1 (one_s h2) (by omega) hv2 hC2.2.1 n2b (fun I3 J3 w2 f3 hw2 n2c ev2 => ?_)
      have n1c : NO41 g W (fun u => decide (u = s1)) H w1 I3 J3 := n1b.mv (f3.1 41 (by decide)) (f3.2 41 (by decide))
      have f4 : FA I J I3 J3 := (f.tr f2.a).tr f3.a
      have p1 := n1c.np
      have p2 : NP 42 J3 (nt g W (fun u => decide (u = s2)) H w2).1 (nt g W (fun u => decide (u = s2)) H w2).2 := n2c.2.2.2.2.2.2.1
      rw [ev1] at p1
      rw [ev2] at p2
      have l8 := lg_p (fun s hs => (p1 s hs).1) (fun s hs => (p2 s hs).1)
      have l9 := lg_p (fun s hs => (p1 s hs).2.1) (fun s hs => (p2 s hs).2.1)
      rw [l8, l9, ← nI_succ]
      have df : ∀ x y, eq6 (fun s => decide (1 ≤ (nt g W (fun u => decide (u = s1)) H t).1 s)) (fun s => decide (1 ≤ (nt g W (fun u => decide (u = s2)) H t).1 s)) = x → eq6 (fun s => decide (2 ≤ (nt g W (fun u => decide (u = s1)) H t).1 s)) (fun s => decide (2 ≤ (nt g W (fun u => decide (u = s2)) H t).1 s)) = y → dfB g W H s1 s2 t = !(x && y) := by
        intro x y hx hy
        unfold dfB
        rw [hx, hy]
      refine ⟨fun z => ⟨fun z2 => ?_, fun z2 => ?_⟩, fun z => ?_⟩
      · rw [df true true (eq6_t z) (eq6_t z2)] at c
        exact ih (t + 1) w1 w2 I3 J3 (by omega) (by omega) (by omega) f4 n1c n2c c
      · rw [df true false (eq6_t z) (eq6_f z2)] at c
        exact c I3 J3 f4
      · rw [df false _ (eq6_f z) rfl] at c
        exact c I3 J3 f4
  refine c96_37 (d := d + 22) (be_41 (d := d + 19) (P := fun u => decide (u = s1)) (H := H) hC.1 hC.2.1 (one_s h1) (fun u hu => b5_1 hs1) hC.2.2.2.2.1 (fun I1 J1 f1 n1 => ?_))
  have hC1 := hC.a f1.a
  refine be_42 (d := d + 19) (P := fun u => decide (u = s2)) (H := H) hC1.1 hC1.2.1 (one_s h2) (fun u hu => b5_1 hs2) hC1.2.2.2.2.1 (fun I2 J2 f2 n2 => ?_)
  exact lp _ _ 61 0 0 0 I2 J2 (by omega) (by omega) (by omega) (f1.a.tr f2.a) (n1.mv (f2.1 41 (by decide)) (f2.2 41 (by decide))) n2 k
theorem xParts {p1 p2 : Int32} {Q : Int32 → rI0 → rJ0 → Prop} (hC : CE g W P H I J) (k : ∀ I' J', FA I J I' J' → Q (partsV g W H p1 p2) I' J') : wcI S (d + 24) 129 [.ref 0, .int p1, .int p2] x I J Q := by
  have no : (seI g p1 && seI g p2) = false → Q (-1) I J := by
    intro h
    have kk := k I J FA.rf
    unfold partsV at kk
    rw [h] at kk
    exact kk
  refine c129_0 (d := d + 23) (cIs hC.2.1.2.2.2.2.1 (fun s1 hs1 es1 hse1 hsi1 => ⟨fun z => absurd z (by decide), fun _ => cIs hC.2.1.2.2.2.2.1 (fun s2 hs2 es2 hse2 hsi2 => ⟨fun z => absurd z (by decide), fun _ => ?_⟩) (fun hsi => ⟨fun _ => no (by rw [hsi, Bool.and_false]), fun z => absurd rfl z⟩)⟩) (fun hsi => ⟨fun _ => no (by rw [hsi, Bool.false_and]), fun z => absurd rfl z⟩))
  subst es1
  subst es2
  refine c96x (d := d) hC hs1 hs2 hse1 hse2 (fun I' J' f => ?_)
  have kk := k I' J' f
  unfold partsV at kk
  rw [hsi1, hsi2, if_pos (show (true && true) = true from rfl), nI_tn (by omega), nI_tn (by omega)] at kk
  exact kk
end TR8
