section
/-! exchanged: the class's search -/
section TRF
/-- u and v, exchanged, carry it -/
def exB (g : Nat → Int32) (W : Nat → lV) (P H : Nat → Bool) (u v : Nat) : Prop := u < v ∧ seB g u = true ∧ seB g v = true ∧ kdN g u ≠ kdN g v ∧ crB (swG g u v) W P H = true
/-- the first such pair -/
def exF (g : Nat → Int32) (W : Nat → lV) (P H : Nat → Bool) (u v : Nat) : Prop := exB g W P H u v ∧ ∀ a c, (a < u ∨ (a = u ∧ c < v)) → ¬ exB g W P H a c
theorem exF_u {g : Nat → Int32} {W : Nat → lV} {P H : Nat → Bool} {u v a c : Nat} (h : exF g W P H u v) (h2 : exF g W P H a c) : a = u ∧ c = v := by
  have n1 := h.2 a c
  have n2 := h2.2 u v
  have m1 : ¬ (a < u ∨ (a = u ∧ c < v)) := fun z => n1 z h2.1
  have m2 : ¬ (u < a ∨ (u = a ∧ v < c)) := fun z => n2 z h.1
  omega
variable {S : Nat × (Nat → Int32)} {d : Nat} {x : mX} {I I1 I2 : rI0} {J J1 J2 : rJ0} {g b : Nat → Int32} {W : Nat → lV} {P H : Nat → Bool} {u v : Nat}
theorem sw_sw : swG (swG g u v) u v = g := by
  funext n
  unfold swG
  by_cases z : n = 6 + u
  · rw [if_pos z]
    by_cases y : 6 + v = 6 + u
    · rw [if_pos y, y, z]
    · rw [if_neg y, if_pos rfl, z]
  · rw [if_neg z]
    by_cases y : n = 6 + v
    · rw [if_pos y, if_pos rfl, y]
    · rw [if_neg y, if_neg z, if_neg y]
/-- what the search leaves as it was -/
def FE (g : Nat → Int32) (W : Nat → lV) (I : rI0) (J : rJ0) (I' : rI0) (J' : rJ0) : Prop := (∀ b, b ≠ 41 → I' b = I b) ∧ (∀ b, b ≠ 41 → b ≠ 6 → J' b = J b) ∧ HM g W I' J'
theorem c97x {Q : Int32 → rI0 → rJ0 → Prop} (hC : CE g W P H I J) (hk : ∀ s, seB g s = true → kdN g s < 6 ∧ I 5 s = nI (kdN g s)) (k1 : ∀ u v I' J', u < 64 → v < 64 → exF g W P H u v → FE g W I J I' J' → Q (nI (64 * u + v)) I' J') (k0 : (∀ u v, ¬ exB g W P H u v) → ∀ I' J', FE g W I J I' J' → Q (-1) I' J') : wcI S (d + 24) 97 [.ref 37, .int (nI (gN g 3) - 1)] x I J Q := by
  have h3 := hC.2.2.2.2.2.2
  have one : (1 : Int32).toInt = 1 := by decide
  have ci : (nI (gN g 3) - 1).toInt = (gN g 3 : Int) - 1 := by
    rw [i_sub (nI_toInt (by omega)) one (by omega)]
  have c1 : nI (gN g 3) - 1 + 1 = nI (gN g 3) := Int32.sub_add_cancel _ _
  have ceF : ∀ I1 J1, FE g W I J I1 J1 → CE g W P H I1 J1 := fun I1 J1 f => ⟨hC.1, f.2.2, hC.2.2.1, by rw [f.2.1 3 (by decide) (by decide)]; exact hC.2.2.2.1, by rw [f.2.1 3 (by decide) (by decide)]; exact hC.2.2.2.2.1, by rw [f.1 4 (by decide)]; exact hC.2.2.2.2.2.1, h3⟩
  have lp : ∀ (m u : Nat) (I1 : rI0) (J1 : rJ0), u + m = 64 → FE g W I J I1 J1 → (∀ a c, a < u → ¬ exB g W P H a c) → wp S (d + 24) 97 10 [some (.ref 37), some (.int (nI (gN g 3) - 1)), some (.ref 4), some (.int (nI u)), none, none] [] (wv x I1 J1) (rI x Q) := by
    intro m
    induction m with
    | zero =>
      intro u I1 J1 hu f hn
      exact v97_37_10 ⟨fun q => absurd q (nI_nlt (b := 64) (by omega) (by omega)), fun _ => k0 (fun a c z => by
        have := seB_l z.2.1
        exact hn a c (by omega) z) I1 J1 f⟩
    | succ m ih =>
      intro u I1 J1 hu f hn
      have nxu : (∀ c, ¬ exB g W P H u c) → ∀ I2 J2, FE g W I J I2 J2 → wp S (d + 24) 97 10 [some (.ref 37), some (.int (nI (gN g 3) - 1)), some (.ref 4), some (.int (nI u + 1)), none, none] [] (wv x I2 J2) (rI x Q) := by
        intro h I2 J2 f2
        rw [← nI_succ]
        refine ih (u + 1) I2 J2 (by omega) f2 (fun a c ha => ?_)
        by_cases z : a = u
        · rw [z]
          exact h c
        · exact hn a c (by omega)
      have inn : ∀ (q v : Nat) (I2 : rI0) (J2 : rJ0), v + q = 64 → FE g W I J I2 J2 → u < v → (∀ c, c < v → ¬ exB g W P H u c) → wp S (d + 24) 97 21 [some (.ref 37), some (.int (nI (gN g 3) - 1)), some (.ref 4), some (.int (nI u)), some (.int (nI v)), none] [] (wv x I2 J2) (rI x Q) := by
        intro q
        induction q with
        | zero =>
          intro v I2 J2 hv f2 huv hc
          refine v97_37_21 ⟨fun w => absurd w (nI_nlt (b := 64) (by omega) (by omega)), fun _ => nxu (fun c z => ?_) I2 J2 f2⟩
          have := seB_l z.2.2.1
          exact hc c (by omega) z
        | succ q ihq =>
          intro v I2 J2 hv f2 huv hc
          have hC2 := ceF I2 J2 f2
          have nxv : ¬ exB g W P H u v → ∀ I3 J3, FE g W I J I3 J3 → wp S (d + 24) 97 21 [some (.ref 37), some (.int (nI (gN g 3) - 1)), some (.ref 4), some (.int (nI u)), some (.int (nI v + 1)), none] [] (wv x I3 J3) (rI x Q) := by
            intro h I3 J3 f3
            rw [← nI_succ]
            refine ihq (v + 1) I3 J3 (by omega) f3 (by omega) (fun c ha => ?_)
            by_cases z : c = v
            · rw [z]
              exact h
            · exact hc c (by omega)
          refine v97_37_21 (d := d + 23) ⟨fun _ => cIs hC2.2.1.2.2.2.2.1 (fun u' hu' eu hsu _ => ⟨fun z => absurd z (by decide), fun _ => cIs hC2.2.1.2.2.2.2.1 (fun v' hv' ev hsv _ => ⟨fun z => absurd z (by decide), fun _ => ⟨nI_in (by omega) (by omega), nI_in (by omega) (by omega), ?_⟩⟩) (fun hsi => ⟨fun _ => nxv (fun z => ?_) I2 J2 f2, fun z => absurd rfl z⟩)⟩) (fun hsi => ⟨fun _ => nxu (fun c z => ?_) I2 J2 f2, fun z => absurd rfl z⟩), fun w => absurd (nI_lt (b := 64) (by omega) (by omega)) w⟩
          · have eu : u = u' := nI_inj (by omega) (by omega) eu
            have ev : v = v' := nI_inj (by omega) (by omega) ev
            subst eu
            subst ev
            have hk2 : ∀ s, seB g s = true → kdN g s < 6 ∧ I2 5 s = nI (kdN g s) := fun s hs => by
              rw [f2.1 5 (by decide)]
              exact hk s hs
            have ku := hk2 u hsu
            have kv := hk2 v hsv
            rw [nI_clamp (by omega), nI_clamp (by omega), ku.2, kv.2]
            refine ⟨fun z => nxv (fun w => ?_) I2 J2 f2, fun z => c30x (d := d + 21) hC2.2.1 hsu hsv hk2 (fun I3 J3 fi fj hM3 h5 => ?_)⟩
            · exact w.2.2.2.1 (nI_inj (by omega) (by omega) z)
            · have lu := seB_l hsu
              have lv := seB_l hsv
              have kn : kdN g u ≠ kdN g v := fun w => z (by rw [w])
              rw [c1]
              refine ht_41 (d := d + 1) (P := P) (H := H) (hC2.1.sw hsu hsv) hM3 (fun s hs => by rw [sw_se hsu hsv]; exact hC2.2.2.1 s hs) (by rw [fj 3 (by decide)]; exact hC2.2.2.2.1) (by rw [fj 3 (by decide)]; exact hC2.2.2.2.2.1) (fun I4 J4 r f4 h1 h2 => ?_)
              have hu4 : seB (swG g u v) u = true := by rw [sw_se hsu hsv]; exact hsu
              have hv4 : seB (swG g u v) v = true := by rw [sw_se hsu hsv]; exact hsv
              have hk4 : ∀ s, seB (swG g u v) s = true → kdN (swG g u v) s < 6 ∧ I4 5 s = nI (kdN (swG g u v) s) := fun s hs => by
                rw [sw_se hsu hsv] at hs
                rw [f4.1 5 (by decide), h5 s, sw_kd]
                exact hk2 _ (sw_as hsu hsv hs)
              refine c30x (d := d + 21) (hM3.n41 f4) hu4 hv4 hk4 (fun I5 J5 fi5 fj5 hM5 h55 => ?_)
              rw [sw_sw] at hM5
              have f6 : FE g W I J I5 J5 := by
                refine ⟨fun b hb => ?_, fun b h6 h7 => ?_, hM5⟩
                · by_cases y : b = 5
                  · rw [y, ← f2.1 5 (by decide)]
                    funext s
                    rw [h55, f4.1 5 (by decide), h5]
                    by_cases w : s = u
                    · rw [if_pos w]
                      by_cases w2 : v = u
                      · omega
                      · rw [if_neg w2, if_pos rfl, w]
                    · rw [if_neg w]
                      by_cases w2 : s = v
                      · rw [if_pos w2, if_pos rfl, w2]
                      · rw [if_neg w2, if_neg w, if_neg w2]
                  · rw [fi5 b y, f4.1 b hb, fi b y]
                    exact f2.1 b hb
                · rw [fj5 b h7, f4.2 b h6, fj b h7]
                  exact f2.2.1 b h6 h7
              have a64 := hgt_l (g := swG g u v) (W := W) (P := P) (H := H) (t := 60)
              rw [nI_toInt (by omega)] at h2
              have ce : crB (swG g u v) W P H = decide (gN g 3 ≤ hgt (swG g u v) W P H 60) := by
                unfold crB
                rw [sw_n lu lv (Or.inl (by decide))]
              refine ⟨fun w => ?_, fun w => nxv (fun y => ?_) I5 J5 f6⟩
              · rw [Int32.lt_iff_toInt_lt, ci, nI_toInt (by omega)] at w
                have kk := k1 u v I5 J5 lu lv ⟨⟨huv, hsu, hsv, kn, by rw [ce]; exact decide_eq_true (by omega)⟩, fun a c hac => hac.elim (hn a c) (fun y => by rw [y.1]; exact hc c y.2)⟩ f6
                rw [show (64 : Int32) = nI 64 from rfl, nI_mu, nI_add, Nat.mul_comm u 64]
                exact kk
              · rw [Int32.lt_iff_toInt_lt, ci, nI_toInt (by omega)] at w
                have y5 := y.2.2.2.2
                rw [ce] at y5
                have := of_decide_eq_true y5
                omega
          · rw [seI_n (by omega), z.2.2.1] at hsi
            cases hsi
          · rw [seI_n (by omega), z.2.1] at hsi
            cases hsi
      refine v97_37_10 ⟨fun _ => ?_, fun q => absurd (nI_lt (b := 64) (by omega) (by omega)) q⟩
      rw [← nI_succ]
      exact inn (64 - (u + 1)) (u + 1) I1 J1 (by omega) f (by omega) (fun c hcu z => by have := z.1; omega)
  exact c97_37 (lp 64 0 I J (by omega) ⟨fun _ _ => rfl, fun _ _ _ => rfl, hC.2.1⟩ (fun a c ha => absurd ha (Nat.not_lt_zero _)))
end TRF
end
section
/-! exchanged: the class -/
section TRG
variable {S : Nat × (Nat → Int32)} {d : Nat} {x : mX} {I I1 I2 : rI0} {J J1 J2 : rJ0} {g b : Nat → Int32} {W : Nat → lV} {P H : Nat → Bool} {u v : Nat}
/-- what exchanged of the class leaves as it was -/
def FX (g : Nat → Int32) (W : Nat → lV) (P H : Nat → Bool) (I : rI0) (J : rJ0) (I' : rI0) (J' : rJ0) : Prop := (∀ b, ¬ ((31 ≤ b ∧ b ≤ 36) ∨ b = 41) → I' b = I b) ∧ (∀ b, ¬ ((31 ≤ b ∧ b ≤ 36) ∨ b = 41) → b ≠ 6 → J' b = J b) ∧ HM g W I' J' ∧ DI g W P H I' J'
theorem pc_se (h : ∀ s, s < 64 → bits5 (J 4 5) s = seB g s) : pc (J 4 5) = nb (seB g) 64 := nb_cg 64 h
theorem xExch {Q : Int32 → rI0 → rJ0 → Prop} (hC : CE g W P H I J) (hD : DI g W P H I J) (hk : ∀ s, seB g s = true → kdN g s < 6 ∧ I 5 s = nI (kdN g s)) (k1 : ∀ u v I' J', u < 64 → v < 64 → nb (seB g) 64 ≤ 24 → hgt g W P H 60 < gN g 3 → exF g W P H u v → FX g W P H I J I' J' → Q (nI (100 * u + v)) I' J') (k0 : 24 < nb (seB g) 64 ∨ gN g 3 ≤ hgt g W P H 60 ∨ (∀ u v, ¬ exB g W P H u v) → ∀ I' J', FX g W P H I J I' J' → Q (-1) I' J') : wcI S (d + 25) 130 [.ref 0] x I J Q := by
  have h3 := hC.2.2.2.2.2.2
  have a64 := hgt_l (g := g) (W := W) (P := P) (H := H) (t := 60)
  have n64 := nb_le (p := seB g) 64
  refine c130_0 (d := d + 24) (c140_0 (d := d + 23) (bcX ?_))
  rw [pc_se hC.2.1.2.2.2.2.1]
  refine ⟨fun q => ⟨fun z => absurd z (by decide), fun _ => ?_⟩, fun q => ⟨fun _ => hg_31 (d := d + 1) hC hD (fun I2 J2 f2 hD2 => ?_), fun z => absurd rfl z⟩⟩
  · have q := (nI_ltI (a := 24) (by omega) (by omega)).mp q
    exact k0 (Or.inl q) I J ⟨fun _ _ => rfl, fun _ _ _ => rfl, hC.2.1, hD⟩
  · have q : ¬ 24 < nb (seB g) 64 := fun w => q (nI_lt (a := 24) w (by omega))
    have hC2 := hC.fd f2
    have fx2 : FX g W P H I J I2 J2 := ⟨fun b hb => f2.1 b (fun w => hb (Or.inl w)), fun b hb _ => f2.2 b (fun w => hb (Or.inl w)), hC2.2.1, hD2⟩
    rw [hC2.2.2.2.2.2.1]
    refine ⟨fun w => ?_, fun w => k0 (Or.inr (Or.inl ?_)) I2 J2 fx2⟩
    · have w := (nI_ltI (by omega) (by omega)).mp w
      have mv : ∀ I3 J3, FE g W I2 J2 I3 J3 → FX g W P H I J I3 J3 := fun I3 J3 f3 => ⟨fun b hb => (f3.1 b (fun y => hb (Or.inr y))).trans (fx2.1 b hb), fun b hb h6 => (f3.2.1 b (fun y => hb (Or.inr y)) h6).trans (fx2.2.1 b hb h6), f3.2.2, hD2.mv (fun b hb => f3.1 b (by omega)) (fun b hb => f3.2.1 b (by omega) (by omega))⟩
      refine c97x (d := d) hC2 (fun s hs => by rw [f2.1 5 (by omega)]; exact hk s hs) (fun u v I3 J3 hu hv hx f3 => ?_) (fun hn I3 J3 f3 => ?_)
      · refine ⟨fun z => absurd z (nI_n1 (by omega)), fun _ => ⟨by decide, by decide, ?_⟩⟩
        rw [show (64 : Int32) = nI 64 from rfl, md32 (by omega) (by omega), dn32 (by omega) (by omega), show (64 * u + v) / 64 = u by omega, show (64 * u + v) % 64 = v by omega, show (100 : Int32) = nI 100 from rfl, nI_mu, nI_add, Nat.mul_comm u 100]
        exact k1 u v I3 J3 hu hv (by omega) w hx (mv I3 J3 f3)
      · exact ⟨fun _ => k0 (Or.inr (Or.inr hn)) I3 J3 (mv I3 J3 f3), fun z => absurd rfl z⟩
    · have : ¬ hgt g W P H 60 < gN g 3 := fun y => w (nI_lt y (by omega))
      omega
end TRG
end
section
/-! exchanged: the reference -/
section TRH
variable {S : Nat × (Nat → Int32)} {d : Nat} {x : mX} {I I1 I2 : rI0} {J J1 J2 : rJ0} {g b : Nat → Int32} {W : Nat → lV} {P H : Nat → Bool} {u v : Nat}
theorem yExch {Q : Int32 → rI0 → rJ0 → Prop} (hR : RH g W I J) (h3 : gN g 3 ≤ 64) (e16 : ∀ s, s < 64 → bits5 (J 43 16) s = P s) (e17 : ∀ s, s < 64 → bits5 (J 43 17) s = H s) (k1 : ∀ u v I' J', u < 64 → v < 64 → nb (seB g) 64 ≤ 24 → hgt g W P H 60 < gN g 3 → exF g W P H u v → FG I J I' J' → RH g W I' J' → Q (nI (100 * u + v)) I' J') (k0 : 24 < nb (seB g) 64 ∨ gN g 3 ≤ hgt g W P H 60 ∨ (∀ u v, ¬ exB g W P H u v) → ∀ I' J', FG I J I' J' → RH g W I' J' → Q (-1) I' J') : wcI S (d + 7) 234 [.ref 43] x I J Q := by
  obtain ⟨z0, z1, -, -, -, -⟩ := k0c
  have z2 : (2 : Int32).toNatClampNeg = 2 := by decide
  have hG := hR.1
  have hI := hR.2.1
  have n64 := nb_le (p := seB g) 64
  have rc : gN g 0 * gN g 1 ≤ 64 := Nat.le_trans (Nat.mul_le_mul hG.1 hG.2.1) (by decide)
  have hR1 : RH g W (mSet I 43 0 0) J := hR.t
  refine c234_43 (d := d + 6) ⟨by decide, ?_⟩
  rw [z2, hR.2.2.2.2.1, g2_n hR.2.2.1]
  refine ⟨fun q => k0 (Or.inl ((nI_ltI (a := 24) (by omega) (by omega)).mp q)) _ _ (FG.t (v := 0)) hR1, fun q => ?_⟩
  have q : ¬ 24 < nb (seB g) 64 := fun w => q (nI_lt (a := 24) w (by omega))
  refine rht (d := d + 1) (P := P) (H := H) hR1 h3 e16 e17 (fun I1 J1 f1 r1 _ h45 => ?_)
  have fg1 : FG I J I1 J1 := FG.t.tr f1.fg
  rw [h45]
  by_cases c : gN g 3 ≤ hgt g W P H 60
  · rw [if_pos c]
    exact ⟨fun z => absurd z (by decide), fun _ => k0 (Or.inr (Or.inl c)) I1 J1 fg1 r1.h⟩
  rw [if_neg c]
  refine ⟨fun _ => ⟨by decide, by decide, ?_⟩, fun z => absurd rfl z⟩
  rw [z0, z1, r1.h.2.2.2.2.1, hI.1 0 (by omega), hI.1 1 (by omega), nI_mu]
  have lp : ∀ (m u : Nat) (I2 : rI0) (J2 : rJ0), u + m = gN g 0 * gN g 1 → FG I J I2 J2 → RH g W I2 J2 → (∀ a c, a < u → ¬ exB g W P H a c) → wp S (d + 7) 234 56 [some (.ref 43), some (.int (nI (gN g 0 * gN g 1))), some (.int (nI u)), none] [] (wv x I2 J2) (rI x Q) := by
    intro m
    induction m with
    | zero =>
      intro u I2 J2 hu f r hn
      exact v234_43_56 ⟨fun w => absurd w (nI_nlt (by omega) (by omega)), fun _ => k0 (Or.inr (Or.inr (fun a c z => by
        have := (hG.2.2.2.2.1 a z.2.1).1
        exact hn a c (by omega) z))) I2 J2 f r⟩
    | succ m ih =>
      intro u I2 J2 hu f r hn
      have inn : ∀ (q2 v : Nat) (I2 : rI0) (J2 : rJ0), v + q2 = gN g 0 * gN g 1 → FG I J I2 J2 → RH g W I2 J2 → u < v → (∀ c, c < v → ¬ exB g W P H u c) → wp S (d + 7) 234 65 [some (.ref 43), some (.int (nI (gN g 0 * gN g 1))), some (.int (nI u)), some (.int (nI v))] [] (wv x I2 J2) (rI x Q) := by
        intro q2
        induction q2 with
        | zero =>
          intro v I2 J2 hv f r huv hc
          refine v234_43_65 ⟨fun w => absurd w (nI_nlt (by omega) (by omega)), fun _ => ?_⟩
          rw [← nI_succ]
          refine ih (u + 1) I2 J2 (by omega) f r (fun a c ha z => ?_)
          by_cases y : a = u
          · rw [y] at z
            have := (hG.2.2.2.2.1 c z.2.2.1).1
            exact hc c (by omega) z
          · exact hn a c (by omega) z
        | succ q2 ihq =>
          intro v I2 J2 hv f r huv hc
          have nxv : ¬ exB g W P H u v → ∀ I3 J3, FG I J I3 J3 → RH g W I3 J3 → wp S (d + 7) 234 65 [some (.ref 43), some (.int (nI (gN g 0 * gN g 1))), some (.int (nI u)), some (.int (nI v + 1))] [] (wv x I3 J3) (rI x Q) := by
            intro h I3 J3 f3 r3
            rw [← nI_succ]
            refine ihq (v + 1) I3 J3 (by omega) f3 r3 (by omega) (fun c ha => ?_)
            by_cases z : c = v
            · rw [z]
              exact h
            · exact hc c (by omega)
          have a6 : ∀ n, (6 : Int32) + nI n = nI (6 + n) := fun n => by
            rw [show (6 : Int32) = nI 6 from rfl, nI_add]
          refine v234_43_65 (d := d + 6) ⟨fun _ => c233_43 (d := d + 5) (rIs (d := d + 4) hG hI r.2.2.2.2.1 (fun u' hu' eu hsu _ => ⟨fun z => absurd z (by decide), fun _ => rIs (d := d + 4) hG hI r.2.2.2.2.1 (fun v' hv' ev hsv _ => ⟨fun z => absurd z (by decide), fun _ => ?_⟩) (fun hsi => ⟨fun _ => ⟨fun _ => nxv (fun z => ?_) I2 J2 f r, fun z => absurd rfl z⟩, fun z => absurd rfl z⟩)⟩) (fun hsi => ⟨fun _ => ⟨fun _ => nxv (fun z => ?_) I2 J2 f r, fun z => absurd rfl z⟩, fun z => absurd rfl z⟩)), fun w => absurd (nI_lt (by omega) (by omega)) w⟩
          · have eu : u = u' := nI_inj (by omega) (by omega) eu
            have ev : v = v' := nI_inj (by omega) (by omega) ev
            subst eu
            subst ev
            have lu := seB_l hsu
            have lv := seB_l hsv
            have gu := hI.2.1 u lu
            have gv := hI.2.1 v lv
            have pu := seB_p hsu
            have pv := seB_p hsv
            rw [a6, a6, nI_clamp (by omega), nI_clamp (by omega), r.2.2.2.2.1]
            refine ⟨nI_in (by omega) (by omega), nI_in (by omega) (by omega), fun z => ⟨fun _ => nxv (fun w => ?_) I2 J2 f r, fun z => absurd rfl z⟩, fun z => ⟨fun z => absurd z (by decide), fun _ => r232x lu lv r.2.2.2.2.1 (fun I3 f3 e3 => ?_)⟩⟩
            · refine w.2.2.2.1 ?_
              unfold kdN gN
              rw [z]
            · have kn : kdN g u ≠ kdN g v := fun w => z (by
                rw [gu.1, gv.1]
                unfold kdN at w
                have x1 : 0 < gN g (6 + u) := by
                  unfold gN
                  omega
                have x2 : 0 < gN g (6 + v) := by
                  unfold gN
                  omega
                rw [show gN g (6 + u) = gN g (6 + v) by omega])
              have r3 : RH (swG g u v) W I3 J2 := r.sw hsu hsv e3 (by rw [f3 43 (by decide)])
              have hu4 : seB (swG g u v) u = true := by rw [sw_se hsu hsv]; exact hsu
              have hv4 : seB (swG g u v) v = true := by rw [sw_se hsu hsv]; exact hsv
              have g3 : gN (swG g u v) 3 = gN g 3 := sw_n lu lv (Or.inl (by decide))
              refine rht (d := d + 1) (P := P) (H := H) r3 (by rw [g3]; exact h3) (fun s hs => by rw [f.2.2.2 16 (by omega)]; exact e16 s hs) (fun s hs => by rw [f.2.2.2 17 (by omega)]; exact e17 s hs) (fun I4 J4 f4 r4 _ h45b => r232x lu lv r4.h.2.2.2.2.1 (fun I5 f5 e5 => ?_))
              rw [sw_sw] at e5
              have r5 : RH g W I5 J4 := by
                have t := r4.h.sw hu4 hv4 (I1 := I5) (by rw [sw_sw]; exact e5) (by rw [f5 43 (by decide)])
                rw [sw_sw] at t
                exact t
              have fg5 : FG I J I5 J4 := by
                refine f.tr ⟨fun b h1 h2 => ?_, fun q h1 h2 h3 => ?_, f4.2.2.1, f4.2.2.2⟩
                · by_cases y : b = 45
                  · rw [y, e5, r.2.2.2.2.1]
                  · rw [f5 b y, f4.1 b h1 h2, f3 b y]
                · rw [f5 43 (by decide), f4.2.1 q h2 h3, f3 43 (by decide)]
              have ce : crB (swG g u v) W P H = decide (gN (swG g u v) 3 ≤ hgt (swG g u v) W P H 60) := rfl
              rw [f5 43 (by decide), h45b]
              by_cases w : gN (swG g u v) 3 ≤ hgt (swG g u v) W P H 60
              · rw [if_pos w]
                refine ⟨fun z => absurd z (by decide), fun _ => ?_⟩
                have kk := k1 u v I5 J4 lu lv (by omega) (by omega) ⟨⟨huv, hsu, hsv, kn, by rw [ce]; exact decide_eq_true w⟩, fun a c hac => hac.elim (hn a c) (fun y => by rw [y.1]; exact hc c y.2)⟩ fg5 r5
                rw [show (100 : Int32) = nI 100 from rfl, nI_mu, nI_add]
                exact kk
              · rw [if_neg w]
                refine ⟨fun _ => nxv (fun y => ?_) I5 J4 fg5 r5, fun z => absurd rfl z⟩
                have y5 := y.2.2.2.2
                rw [ce] at y5
                exact w (of_decide_eq_true y5)
          · rw [seI_n (by omega), z.2.2.1] at hsi
            cases hsi
          · rw [seI_n (by omega), z.2.1] at hsi
            cases hsi
      refine v234_43_56 ⟨fun _ => ?_, fun w => absurd (nI_lt (by omega) (by omega)) w⟩
      rw [← nI_succ]
      exact inn (gN g 0 * gN g 1 - (u + 1)) (u + 1) I2 J2 (by omega) f r (by omega) (fun c hcu z => by have := z.1; omega)
  exact lp (gN g 0 * gN g 1) 0 I1 J1 (by omega) fg1 r1.h (fun a c ha => absurd ha (Nat.not_lt_zero _))
end TRH
end
section
/-! arrange: the class -/
section TRI
/-- u and v, exchanged, bring HEIGHT above o -/
def exH (g : Nat → Int32) (W : Nat → lV) (P H : Nat → Bool) (o u v : Nat) : Prop := u < v ∧ seB g u = true ∧ seB g v = true ∧ kdN g u ≠ kdN g v ∧ o < hgt (swG g u v) W P H 60
/-- the first such pair -/
def exHf (g : Nat → Int32) (W : Nat → lV) (P H : Nat → Bool) (o u v : Nat) : Prop := exH g W P H o u v ∧ ∀ a c, (a < u ∨ (a = u ∧ c < v)) → ¬ exH g W P H o a c
theorem exHf_u {g : Nat → Int32} {W : Nat → lV} {P H : Nat → Bool} {o u v a c : Nat} (h : exHf g W P H o u v) (h2 : exHf g W P H o a c) : a = u ∧ c = v := by
  have n1 := h.2 a c
  have n2 := h2.2 u v
  have m1 : ¬ (a < u ∨ (a = u ∧ c < v)) := fun z => n1 z h2.1
  have m2 : ¬ (u < a ∨ (u = a ∧ v < c)) := fun z => n2 z h.1
  omega
/-- arranged, n times at most: the house then, its HEIGHT, how many times -/
def arR (W : Nat → lV) (P H : Nat → Bool) : Nat → (Nat → Int32) → Nat → (Nat → Int32) → Nat → Nat → Prop
  | 0, g, o, g1, o1, t => g1 = g ∧ o1 = o ∧ t = 0
  | n + 1, g, o, g1, o1, t => ((∀ u v, ¬ exH g W P H o u v) ∧ g1 = g ∧ o1 = o ∧ t = 0) ∨ ∃ u v t1, exHf g W P H o u v ∧ t = t1 + 1 ∧ arR W P H n (swG g u v) (hgt (swG g u v) W P H 60) g1 o1 t1
theorem arR_u {W : Nat → lV} {P H : Nat → Bool} : ∀ (n : Nat) (g : Nat → Int32) (o : Nat) (g1 : Nat → Int32) (o1 t1 : Nat) (g2 : Nat → Int32) (o2 t2 : Nat), arR W P H n g o g1 o1 t1 → arR W P H n g o g2 o2 t2 → g2 = g1 ∧ o2 = o1 ∧ t2 = t1 := by
  intro n
  induction n with
  | zero =>
    intro g o g1 o1 t1 g2 o2 t2 h1 h2
    obtain ⟨a1, a2, a3⟩ := h1
    obtain ⟨b1, b2, b3⟩ := h2
    rw [a1, a2, a3, b1, b2, b3]
    exact ⟨rfl, rfl, rfl⟩
  | succ n ih =>
    intro g o g1 o1 t1 g2 o2 t2 h1 h2
    rcases h1 with ⟨a0, a1, a2, a3⟩ | ⟨u, v, t, k, e, h⟩
    · rcases h2 with ⟨b0, b1, b2, b3⟩ | ⟨u, v, t, k, e, h⟩
      · rw [a1, a2, a3, b1, b2, b3]
        exact ⟨rfl, rfl, rfl⟩
      · exact absurd k.1 (a0 u v)
    · rcases h2 with ⟨b0, b1, b2, b3⟩ | ⟨u2, v2, t0, k2, e2, h2⟩
      · exact absurd k.1 (b0 u v)
      · obtain ⟨q1, q2⟩ := exHf_u k k2
        subst q1 q2
        obtain ⟨r1, r2, r3⟩ := ih _ _ _ _ _ _ _ _ h h2
        exact ⟨r1, r2, by omega⟩
variable {S : Nat × (Nat → Int32)} {d : Nat} {x : mX} {I I1 I2 : rI0} {J J1 J2 : rJ0} {g b : Nat → Int32} {W : Nat → lV} {P H : Nat → Bool} {u v : Nat}
theorem CE.fe (hC : CE g W P H I J) (f : FE g W I J I1 J1) : CE g W P H I1 J1 := ⟨hC.1, f.2.2, hC.2.2.1, by rw [f.2.1 3 (by decide) (by decide)]; exact hC.2.2.2.1, by rw [f.2.1 3 (by decide) (by decide)]; exact hC.2.2.2.2.1, by rw [f.1 4 (by decide)]; exact hC.2.2.2.2.2.1, hC.2.2.2.2.2.2⟩
theorem CE.sw (hC : CE g W P H I J) (hu : seB g u = true) (hv : seB g v = true) (hi : ∀ b, b ≠ 5 → I1 b = I b) (hj : ∀ b, b ≠ 6 → J1 b = J b) (hM : HM (swG g u v) W I1 J1) : CE (swG g u v) W P H I1 J1 := ⟨hC.1.sw hu hv, hM, fun s hs => by rw [sw_se hu hv]; exact hC.2.2.1 s hs, by rw [hj 3 (by decide)]; exact hC.2.2.2.1, by rw [hj 3 (by decide)]; exact hC.2.2.2.2.1, by rw [hi 4 (by decide), sw_n (seB_l hu) (seB_l hv) (Or.inl (by decide))]; exact hC.2.2.2.2.2.1, by rw [sw_n (seB_l hu) (seB_l hv) (Or.inl (by decide))]; exact hC.2.2.2.2.2.2⟩
theorem c97y {o : Nat} {Q : Int32 → rI0 → rJ0 → Prop} (ho : o ≤ 64) (hC : CE g W P H I J) (hk : ∀ s, seB g s = true → kdN g s < 6 ∧ I 5 s = nI (kdN g s)) (k1 : ∀ u v I' J', u < 64 → v < 64 → exHf g W P H o u v → FE g W I J I' J' → Q (nI (64 * u + v)) I' J') (k0 : (∀ u v, ¬ exH g W P H o u v) → ∀ I' J', FE g W I J I' J' → Q (-1) I' J') : wcI S (d + 24) 97 [.ref 37, .int (nI o)] x I J Q := by
  have c1 : nI o + 1 = nI (o + 1) := by rw [nI_succ]
  have ceF : ∀ I1 J1, FE g W I J I1 J1 → CE g W P H I1 J1 := fun I1 J1 f => hC.fe f
  have lp : ∀ (m u : Nat) (I1 : rI0) (J1 : rJ0), u + m = 64 → FE g W I J I1 J1 → (∀ a c, a < u → ¬ exH g W P H o a c) → wp S (d + 24) 97 10 [some (.ref 37), some (.int (nI o)), some (.ref 4), some (.int (nI u)), none, none] [] (wv x I1 J1) (rI x Q) := by
    intro m
    induction m with
    | zero =>
      intro u I1 J1 hu f hn
      exact v97_37_10 ⟨fun q => absurd q (nI_nlt (b := 64) (by omega) (by omega)), fun _ => k0 (fun a c z => by
        have := seB_l z.2.1
        exact hn a c (by omega) z) I1 J1 f⟩
    | succ m ih =>
      intro u I1 J1 hu f hn
      have nxu : (∀ c, ¬ exH g W P H o u c) → ∀ I2 J2, FE g W I J I2 J2 → wp S (d + 24) 97 10 [some (.ref 37), some (.int (nI o)), some (.ref 4), some (.int (nI u + 1)), none, none] [] (wv x I2 J2) (rI x Q) := by
        intro h I2 J2 f2
        rw [← nI_succ]
        refine ih (u + 1) I2 J2 (by omega) f2 (fun a c ha => ?_)
        by_cases z : a = u
        · rw [z]
          exact h c
        · exact hn a c (by omega)
      have inn : ∀ (q v : Nat) (I2 : rI0) (J2 : rJ0), v + q = 64 → FE g W I J I2 J2 → u < v → (∀ c, c < v → ¬ exH g W P H o u c) → wp S (d + 24) 97 21 [some (.ref 37), some (.int (nI o)), some (.ref 4), some (.int (nI u)), some (.int (nI v)), none] [] (wv x I2 J2) (rI x Q) := by
        intro q
        induction q with
        | zero =>
          intro v I2 J2 hv f2 huv hc
          refine v97_37_21 ⟨fun w => absurd w (nI_nlt (b := 64) (by omega) (by omega)), fun _ => nxu (fun c z => ?_) I2 J2 f2⟩
          have := seB_l z.2.2.1
          exact hc c (by omega) z
        | succ q ihq =>
          intro v I2 J2 hv f2 huv hc
          have hC2 := ceF I2 J2 f2
          have nxv : ¬ exH g W P H o u v → ∀ I3 J3, FE g W I J I3 J3 → wp S (d + 24) 97 21 [some (.ref 37), some (.int (nI o)), some (.ref 4), some (.int (nI u)), some (.int (nI v + 1)), none] [] (wv x I3 J3) (rI x Q) := by
            intro h I3 J3 f3
            rw [← nI_succ]
            refine ihq (v + 1) I3 J3 (by omega) f3 (by omega) (fun c ha => ?_)
            by_cases z : c = v
            · rw [z]
              exact h
            · exact hc c (by omega)
          refine v97_37_21 (d := d + 23) ⟨fun _ => cIs hC2.2.1.2.2.2.2.1 (fun u' hu' eu hsu _ => ⟨fun z => absurd z (by decide), fun _ => cIs hC2.2.1.2.2.2.2.1 (fun v' hv' ev hsv _ => ⟨fun z => absurd z (by decide), fun _ => ⟨nI_in (by omega) (by omega), nI_in (by omega) (by omega), ?_⟩⟩) (fun hsi => ⟨fun _ => nxv (fun z => ?_) I2 J2 f2, fun z => absurd rfl z⟩)⟩) (fun hsi => ⟨fun _ => nxu (fun c z => ?_) I2 J2 f2, fun z => absurd rfl z⟩), fun w => absurd (nI_lt (b := 64) (by omega) (by omega)) w⟩
          · have eu : u = u' := nI_inj (by omega) (by omega) eu
            have ev : v = v' := nI_inj (by omega) (by omega) ev
            subst eu
            subst ev
            have hk2 : ∀ s, seB g s = true → kdN g s < 6 ∧ I2 5 s = nI (kdN g s) := fun s hs => by
              rw [f2.1 5 (by decide)]
              exact hk s hs
            have ku := hk2 u hsu
            have kv := hk2 v hsv
            rw [nI_clamp (by omega), nI_clamp (by omega), ku.2, kv.2]
            refine ⟨fun z => nxv (fun w => ?_) I2 J2 f2, fun z => c30x (d := d + 21) hC2.2.1 hsu hsv hk2 (fun I3 J3 fi fj hM3 h5 => ?_)⟩
            · exact w.2.2.2.1 (nI_inj (by omega) (by omega) z)
            · have lu := seB_l hsu
              have lv := seB_l hsv
              have kn : kdN g u ≠ kdN g v := fun w => z (by rw [w])
              rw [c1]
              refine ht_41 (d := d + 1) (P := P) (H := H) (hC2.1.sw hsu hsv) hM3 (fun s hs => by rw [sw_se hsu hsv]; exact hC2.2.2.1 s hs) (by rw [fj 3 (by decide)]; exact hC2.2.2.2.1) (by rw [fj 3 (by decide)]; exact hC2.2.2.2.2.1) (fun I4 J4 r f4 h1 h2 => ?_)
              have hu4 : seB (swG g u v) u = true := by rw [sw_se hsu hsv]; exact hsu
              have hv4 : seB (swG g u v) v = true := by rw [sw_se hsu hsv]; exact hsv
              have hk4 : ∀ s, seB (swG g u v) s = true → kdN (swG g u v) s < 6 ∧ I4 5 s = nI (kdN (swG g u v) s) := fun s hs => by
                rw [sw_se hsu hsv] at hs
                rw [f4.1 5 (by decide), h5 s, sw_kd]
                exact hk2 _ (sw_as hsu hsv hs)
              refine c30x (d := d + 21) (hM3.n41 f4) hu4 hv4 hk4 (fun I5 J5 fi5 fj5 hM5 h55 => ?_)
              rw [sw_sw] at hM5
              have f6 : FE g W I J I5 J5 := by
                refine ⟨fun b hb => ?_, fun b h6 h7 => ?_, hM5⟩
                · by_cases y : b = 5
                  · rw [y, ← f2.1 5 (by decide)]
                    funext s
                    rw [h55, f4.1 5 (by decide), h5]
                    by_cases w : s = u
                    · rw [if_pos w]
                      by_cases w2 : v = u
                      · omega
                      · rw [if_neg w2, if_pos rfl, w]
                    · rw [if_neg w]
                      by_cases w2 : s = v
                      · rw [if_pos w2, if_pos rfl, w2]
                      · rw [if_neg w2, if_neg w, if_neg w2]
                  · rw [fi5 b y, f4.1 b hb, fi b y]
                    exact f2.1 b hb
                · rw [fj5 b h7, f4.2 b h6, fj b h7]
                  exact f2.2.1 b h6 h7
              have a64 := hgt_l (g := swG g u v) (W := W) (P := P) (H := H) (t := 60)
              rw [nI_toInt (by omega)] at h2
              refine ⟨fun w => ?_, fun w => nxv (fun y => ?_) I5 J5 f6⟩
              · have w := (nI_ltI (by omega) (by omega)).mp w
                have kk := k1 u v I5 J5 lu lv ⟨⟨huv, hsu, hsv, kn, by omega⟩, fun a c hac => hac.elim (hn a c) (fun y => by rw [y.1]; exact hc c y.2)⟩ f6
                rw [show (64 : Int32) = nI 64 from rfl, nI_mu, nI_add, Nat.mul_comm u 64]
                exact kk
              · have w : ¬ o < r := fun q => w (nI_lt q (by omega))
                have y5 := y.2.2.2.2
                omega
          · rw [seI_n (by omega), z.2.2.1] at hsi
            cases hsi
          · rw [seI_n (by omega), z.2.1] at hsi
            cases hsi
      refine v97_37_10 ⟨fun _ => ?_, fun q => absurd (nI_lt (b := 64) (by omega) (by omega)) q⟩
      rw [← nI_succ]
      exact inn (64 - (u + 1)) (u + 1) I1 J1 (by omega) f (by omega) (fun c hcu z => by have := z.1; omega)
  exact c97_37 (lp 64 0 I J (by omega) ⟨fun _ _ => rfl, fun _ _ _ => rfl, hC.2.1⟩ (fun a c ha => absurd ha (Nat.not_lt_zero _)))
theorem mS_nk {α : Type} {f : Nat → Nat → α} {a k q : Nat} {v : α} (h : q ≠ k) : mSet f a k v a q = f a q := by
  unfold mSet va_up
  rw [if_pos rfl, if_neg h]
theorem HM.m3 (h : HM g W I J) (hi : ∀ b, 3 ≤ b → b < 15 → I1 b = I b) (hj : ∀ b, 3 ≤ b → b < 15 → J1 b = J b) : HM g W I1 J1 := by
  unfold HM AM at *
  rw [hi 4 (by omega) (by omega), hi 8 (by omega) (by omega), hi 9 (by omega) (by omega), hi 10 (by omega) (by omega), hi 3 (by omega) (by omega), hi 12 (by omega) (by omega), hi 13 (by omega) (by omega), hi 14 (by omega) (by omega), hj 4 (by omega) (by omega), hj 6 (by omega) (by omega), hj 11 (by omega) (by omega)]
  exact h
theorem CE.m3 (h : CE g W P H I J) (hi : ∀ b, 3 ≤ b → b < 15 → I1 b = I b) (hj : ∀ b, 3 ≤ b → b < 15 → J1 b = J b) : CE g W P H I1 J1 := ⟨h.1, h.2.1.m3 hi hj, h.2.2.1, by rw [hj 3 (by omega) (by omega)]; exact h.2.2.2.1, by rw [hj 3 (by omega) (by omega)]; exact h.2.2.2.2.1, by rw [hi 4 (by omega) (by omega)]; exact h.2.2.2.2.2.1, h.2.2.2.2.2.2⟩
/-- what arrange of the class leaves as it was -/
def FAr (I : rI0) (J : rJ0) (I' : rI0) (J' : rJ0) : Prop := (∀ b, ¬ ((31 ≤ b ∧ b ≤ 36) ∨ b = 0 ∨ b = 5 ∨ b = 41) → I' b = I b) ∧ (∀ q, q ≠ 10 → I' 0 q = I 0 q) ∧ ∀ b, ¬ ((31 ≤ b ∧ b ≤ 36) ∨ b = 6 ∨ b = 41) → J' b = J b
def KDs (g : Nat → Int32) (I : rI0) : Prop := ∀ s, seB g s = true → kdN g s < 6 ∧ I 5 s = nI (kdN g s)
theorem KDs.sw (h : KDs g I) (hu : seB g u = true) (hv : seB g v = true) (h5 : ∀ s, I1 5 s = I 5 (if s = u then v else if s = v then u else s)) : KDs (swG g u v) I1 := fun s hs => by
  rw [sw_se hu hv] at hs
  rw [h5 s, sw_kd]
  exact h _ (sw_as hu hv hs)
theorem KDs.mv (h : KDs g I) (e : I1 5 = I 5) : KDs g I1 := fun s hs => by
  rw [e]
  exact h s hs
theorem c135l {Q : Int32 → rI0 → rJ0 → Prop} : ∀ (m t : Nat) (g : Nat → Int32) (o : Nat) (I1 : rI0) (J1 : rJ0), t + m = 20 → o ≤ 64 → CE g W P H I1 J1 → KDs g I1 → FAr I J I1 J1 → (∀ g1 o1 t1 I2 J2, arR W P H m g o g1 o1 t1 → FAr I J I2 J2 → CE g1 W P H I2 J2 → KDs g1 I2 → I2 0 10 = nI (t + t1) → I2 31 6 = 0 → Q (nI o1) I2 J2) → wp S (d + 25) 135 19 [some (.ref 0), some (.int (nI o)), some (.int (nI t)), none] [] (wv x I1 J1) (rI x Q) := by
  have fin : ∀ (g : Nat → Int32) (t : Nat) (I2 : rI0) (J2 : rJ0) (Q2 : rI0 → rJ0 → Prop), CE g W P H I2 J2 → KDs g I2 → FAr I J I2 J2 → (∀ I3, FAr I J I3 J2 → CE g W P H I3 J2 → KDs g I3 → I3 0 10 = nI t → I3 31 6 = 0 → Q2 I3 J2) → wcV S (d + 24) 6 [.ref 31] x (mSet I2 0 10 (nI t)) J2 Q2 := by
    intro g t I2 J2 Q2 hC hk f k
    refine c6_31 (k _ ⟨fun b hb => ?_, fun q hq => ?_, f.2.2⟩ ?_ ?_ ?_ mSet_at)
    · rw [mSet_ne (by omega), mSet_ne (by omega)]
      exact f.1 b hb
    · rw [mSet_ne (by decide), mS_nk hq]
      exact f.2.1 q hq
    · exact hC.m3 (fun b h1 h2 => by rw [mSet_ne (by omega), mSet_ne (by omega)]) (fun _ _ _ => rfl)
    · exact hk.mv (by rw [mSet_ne (by decide), mSet_ne (by decide)])
    · rw [mSet_ne (by decide), mSet_at]
  intro m
  induction m with
  | zero =>
    intro t g o I1 J1 ht ho hC hk f k
    exact v135_0_19 ⟨fun q => absurd q (nI_nlt (b := 20) (by omega) (by omega)), fun _ => fin g t I1 J1 _ hC hk f (fun I3 f3 c3 k3 e1 e2 => k g o 0 I3 J1 ⟨rfl, rfl, rfl⟩ f3 c3 k3 e1 e2)⟩
  | succ m ih =>
    intro t g o I1 J1 ht ho hC hk f k
    refine v135_0_19 (d := d + 24) ⟨fun _ => c97y (d := d) ho hC hk (fun u v I2 J2 hu hv hx f2 => ⟨fun z => absurd z (nI_n1 (by omega)), fun _ => ⟨by decide, by decide, ?_⟩⟩) (fun hn I2 J2 f2 => ⟨fun _ => fin g t I2 J2 _ (hC.fe f2) (hk.mv (f2.1 5 (by decide))) ⟨fun b hb => by rw [f2.1 b (by omega)]; exact f.1 b hb, fun q hq => by rw [f2.1 0 (by decide)]; exact f.2.1 q hq, fun b hb => by rw [f2.2.1 b (by omega) (by omega)]; exact f.2.2 b hb⟩ (fun I3 f3 c3 k3 e1 e2 => k g o 0 I3 J2 (Or.inl ⟨hn, rfl, rfl, rfl⟩) f3 c3 k3 e1 e2), fun z => absurd rfl z⟩), fun q => absurd (nI_lt (b := 20) (by omega) (by omega)) q⟩
    have hsu := hx.1.2.1
    have hsv := hx.1.2.2.1
    rw [show (64 : Int32) = nI 64 from rfl, md32 (by omega) (by omega), dn32 (by omega) (by omega), show (64 * u + v) / 64 = u by omega, show (64 * u + v) % 64 = v by omega]
    have hC2 := hC.fe f2
    have hk2 : KDs g I2 := hk.mv (f2.1 5 (by decide))
    refine c30x (d := d + 22) hC2.2.1 hsu hsv hk2 (fun I3 J3 fi fj hM3 h5 => ?_)
    have hC3 := hC2.sw hsu hsv fi fj hM3
    have hk3 := hk2.sw hsu hsv h5
    refine ht_41 (d := d + 2) (P := P) (H := H) hC3.1 hM3 hC3.2.2.1 hC3.2.2.2.1 hC3.2.2.2.2.1 (fun I4 J4 r f4 h1 h2 => ?_)
    have a64 := hgt_l (g := swG g u v) (W := W) (P := P) (H := H) (t := 60)
    rw [nI_toInt (by omega)] at h2
    have er : r = hgt (swG g u v) W P H 60 := by omega
    subst er
    rw [← nI_succ]
    refine ih (t + 1) (swG g u v) _ I4 J4 (by omega) hgt_l (hC3.a f4.a) (hk3.mv (f4.1 5 (by decide))) ⟨fun b hb => ?_, fun q hq => ?_, fun b hb => ?_⟩ (fun g1 o1 t1 I5 J5 ha f5 c5 k5 e1 e2 => k g1 o1 (t1 + 1) I5 J5 (Or.inr ⟨u, v, t1, hx, rfl, ha⟩) f5 c5 k5 (by rw [e1, Nat.add_assoc, Nat.add_comm 1 t1]) e2)
    · rw [f4.1 b (by omega), fi b (by omega), f2.1 b (by omega)]
      exact f.1 b hb
    · rw [f4.1 0 (by decide), fi 0 (by decide), f2.1 0 (by decide)]
      exact f.2.1 q hq
    · rw [f4.2 b (by omega), fj b (by omega), f2.2.1 b (by omega) (by omega)]
      exact f.2.2 b hb
/-- the class: arrange -/
theorem xArr {Q : Int32 → rI0 → rJ0 → Prop} (hC : CE g W P H I J) (hD : DI g W P H I J) (hk : KDs g I) (k0 : 24 < nb (seB g) 64 → Q (-1) I J) (k1 : nb (seB g) 64 ≤ 24 → ∀ g1 o1 t1 I2 J2, arR W P H 20 g (hgt g W P H 60) g1 o1 t1 → FAr I J I2 J2 → CE g1 W P H I2 J2 → KDs g1 I2 → I2 0 10 = nI t1 → I2 31 6 = 0 → Q (nI o1) I2 J2) : wcI S (d + 25) 135 [.ref 0] x I J Q := by
  have n64 := nb_le (p := seB g) 64
  refine c135_0 (d := d + 24) (c140_0 (d := d + 23) (bcX ?_))
  rw [pc_se hC.2.1.2.2.2.2.1]
  refine ⟨fun q => ⟨fun z => absurd z (by decide), fun _ => k0 ((nI_ltI (a := 24) (by omega) (by omega)).mp q)⟩, fun q => ⟨fun _ => hg_31 (d := d + 1) hC hD (fun I2 J2 f2 hD2 => ?_), fun z => absurd rfl z⟩⟩
  have q : ¬ 24 < nb (seB g) 64 := fun w => q (nI_lt (a := 24) w (by omega))
  exact c135l 20 0 g _ I2 J2 (by omega) hgt_l (hC.fd f2) (hk.mv (f2.1 5 (by omega))) ⟨fun b hb => f2.1 b (by omega), fun q _ => by rw [f2.1 0 (by omega)], fun b hb => f2.2 b (by omega)⟩ (fun g1 o1 t1 I3 J3 ha f3 c3 k3 e1 e2 => k1 (by omega) g1 o1 t1 I3 J3 ha f3 c3 k3 (by rw [e1, Nat.zero_add]) e2)
end TRI
end
section
/-! arrange: the reference -/
section TRJ
variable {S : Nat × (Nat → Int32)} {d : Nat} {x : mX} {I I1 I2 : rI0} {J J1 J2 : rJ0} {g b : Nat → Int32} {W : Nat → lV} {P H : Nat → Bool} {u v : Nat}
/-- what a step of arrange leaves as it was, of the reference -/
def FGx (I : rI0) (J : rJ0) (I' : rI0) (J' : rJ0) : Prop := (∀ b, b ≠ 43 → b ≠ 45 → b ≠ 50 → I' b = I b) ∧ (∀ q, q ≠ 0 → q ≠ 30 → ¬ (42 ≤ q ∧ q ≤ 45) → I' 43 q = I 43 q) ∧ (∀ b, b ≠ 43 → ¬ (51 ≤ b ∧ b ≤ 55) → J' b = J b) ∧ ∀ q, ¬ (36 ≤ q ∧ q ≤ 41) → J' 43 q = J 43 q
/-- what arrange leaves as it was -/
def FAy (I : rI0) (J : rJ0) (I' : rI0) (J' : rJ0) : Prop := (∀ b, b ≠ 43 → b ≠ 45 → b ≠ 50 → I' b = I b) ∧ (∀ q, q ≠ 0 → q ≠ 30 → ¬ (42 ≤ q ∧ q ≤ 45) → q ≠ 63 → I' 43 q = I 43 q) ∧ (∀ b, b ≠ 43 → ¬ (51 ≤ b ∧ b ≤ 55) → J' b = J b) ∧ ∀ q, ¬ (36 ≤ q ∧ q ≤ 41) → J' 43 q = J 43 q
theorem FAy.gx (f : FAy I J I1 J1) (h : FGx I1 J1 I2 J2) : FAy I J I2 J2 := ⟨fun b h1 h2 h3 => (h.1 b h1 h2 h3).trans (f.1 b h1 h2 h3), fun q h1 h2 h3 h4 => (h.2.1 q h1 h2 h3).trans (f.2.1 q h1 h2 h3 h4), fun b h1 h2 => (h.2.2.1 b h1 h2).trans (f.2.2.1 b h1 h2), fun q h1 => (h.2.2.2 q h1).trans (f.2.2.2 q h1)⟩
theorem FAy.i {v : Int32} (f : FAy I J I1 J1) : FAy I J (mSet I1 43 63 v) J1 := ⟨fun b h1 h2 h3 => (mSet_ne h1).trans (f.1 b h1 h2 h3), fun q h1 h2 h3 h4 => (mS_nk h4).trans (f.2.1 q h1 h2 h3 h4), f.2.2.1, f.2.2.2⟩
theorem RH.q {q : Nat} {v : Int32} (h : RH g W I J) (hq : q ≠ 30) : RH g W (mSet I 43 q v) J := ⟨h.1, h.2.1, h.2.2.1, h.2.2.2.1, (mSet_ne (by decide)).trans h.2.2.2.2.1, fun z => h.2.2.2.2.2 (by rw [mS_nk (Ne.symm hq)] at z; exact z)⟩
/-- the reference: arranges -/
theorem r236x {o : Nat} {Q : Int32 → rI0 → rJ0 → Prop} (hR : RH g W I J) (h3 : gN g 3 ≤ 64) (ho : o ≤ 64) (e16 : ∀ s, s < 64 → bits5 (J 43 16) s = P s) (e17 : ∀ s, s < 64 → bits5 (J 43 17) s = H s) (k1 : ∀ u v I' J', exHf g W P H o u v → FGx I J I' J' → RH (swG g u v) W I' J' → I' 43 44 = nI (hgt (swG g u v) W P H 60) → Q 1 I' J') (k0 : (∀ u v, ¬ exH g W P H o u v) → ∀ I' J', FGx I J I' J' → RH g W I' J' → Q 0 I' J') : wcI S (d + 7) 236 [.ref 43, .int (nI o)] x I J Q := by
  obtain ⟨z0, z1, -, -, -, -⟩ := k0c
  have hG := hR.1
  have hI := hR.2.1
  have rc : gN g 0 * gN g 1 ≤ 64 := Nat.le_trans (Nat.mul_le_mul hG.1 hG.2.1) (by decide)
  refine c236_43 (d := d + 6) ⟨by decide, by decide, ?_⟩
  rw [z0, z1, hR.2.2.2.2.1, hI.1 0 (by omega), hI.1 1 (by omega), nI_mu]
  have gx : ∀ I2 J2, FG I J I2 J2 → FGx I J I2 J2 := fun I2 J2 f => ⟨fun b h1 _ h2 => f.1 b h1 h2, f.2.1, f.2.2.1, f.2.2.2⟩
  have lp : ∀ (m u : Nat) (I2 : rI0) (J2 : rJ0), u + m = gN g 0 * gN g 1 → FG I J I2 J2 → RH g W I2 J2 → (∀ a c, a < u → ¬ exH g W P H o a c) → wp S (d + 7) 236 16 [some (.ref 43), some (.int (nI o)), some (.int (nI (gN g 0 * gN g 1))), some (.int (nI u)), none] [] (wv x I2 J2) (rI x Q) := by
    intro m
    induction m with
    | zero =>
      intro u I2 J2 hu f r hn
      exact v236_43_16 ⟨fun w => absurd w (nI_nlt (by omega) (by omega)), fun _ => k0 (fun a c z => by
        have := (hG.2.2.2.2.1 a z.2.1).1
        exact hn a c (by omega) z) I2 J2 (gx _ _ f) r⟩
    | succ m ih =>
      intro u I2 J2 hu f r hn
      have inn : ∀ (q2 v : Nat) (I2 : rI0) (J2 : rJ0), v + q2 = gN g 0 * gN g 1 → FG I J I2 J2 → RH g W I2 J2 → u < v → (∀ c, c < v → ¬ exH g W P H o u c) → wp S (d + 7) 236 26 [some (.ref 43), some (.int (nI o)), some (.int (nI (gN g 0 * gN g 1))), some (.int (nI u)), some (.int (nI v))] [] (wv x I2 J2) (rI x Q) := by
        intro q2
        induction q2 with
        | zero =>
          intro v I2 J2 hv f r huv hc
          refine v236_43_26 ⟨fun w => absurd w (nI_nlt (by omega) (by omega)), fun _ => ?_⟩
          rw [← nI_succ]
          refine ih (u + 1) I2 J2 (by omega) f r (fun a c ha z => ?_)
          by_cases y : a = u
          · rw [y] at z
            have := (hG.2.2.2.2.1 c z.2.2.1).1
            exact hc c (by omega) z
          · exact hn a c (by omega) z
        | succ q2 ihq =>
          intro v I2 J2 hv f r huv hc
          have nxv : ¬ exH g W P H o u v → ∀ I3 J3, FG I J I3 J3 → RH g W I3 J3 → wp S (d + 7) 236 26 [some (.ref 43), some (.int (nI o)), some (.int (nI (gN g 0 * gN g 1))), some (.int (nI u)), some (.int (nI v + 1))] [] (wv x I3 J3) (rI x Q) := by
            intro h I3 J3 f3 r3
            rw [← nI_succ]
            refine ihq (v + 1) I3 J3 (by omega) f3 r3 (by omega) (fun c ha => ?_)
            by_cases z : c = v
            · rw [z]
              exact h
            · exact hc c (by omega)
          have a6 : ∀ n, (6 : Int32) + nI n = nI (6 + n) := fun n => by
            rw [show (6 : Int32) = nI 6 from rfl, nI_add]
          refine v236_43_26 (d := d + 6) ⟨fun _ => c233_43 (d := d + 5) (rIs (d := d + 4) hG hI r.2.2.2.2.1 (fun u' hu' eu hsu _ => ⟨fun z => absurd z (by decide), fun _ => rIs (d := d + 4) hG hI r.2.2.2.2.1 (fun v' hv' ev hsv _ => ⟨fun z => absurd z (by decide), fun _ => ?_⟩) (fun hsi => ⟨fun _ => ⟨fun _ => nxv (fun z => ?_) I2 J2 f r, fun z => absurd rfl z⟩, fun z => absurd rfl z⟩)⟩) (fun hsi => ⟨fun _ => ⟨fun _ => nxv (fun z => ?_) I2 J2 f r, fun z => absurd rfl z⟩, fun z => absurd rfl z⟩)), fun w => absurd (nI_lt (by omega) (by omega)) w⟩
          · have eu : u = u' := nI_inj (by omega) (by omega) eu
            have ev : v = v' := nI_inj (by omega) (by omega) ev
            subst eu
            subst ev
            have lu := seB_l hsu
            have lv := seB_l hsv
            have gu := hI.2.1 u lu
            have gv := hI.2.1 v lv
            have pu := seB_p hsu
            have pv := seB_p hsv
            rw [a6, a6, nI_clamp (by omega), nI_clamp (by omega), r.2.2.2.2.1]
            refine ⟨nI_in (by omega) (by omega), nI_in (by omega) (by omega), fun z => ⟨fun _ => nxv (fun w => ?_) I2 J2 f r, fun z => absurd rfl z⟩, fun z => ⟨fun z => absurd z (by decide), fun _ => r232x lu lv r.2.2.2.2.1 (fun I3 f3 e3 => ?_)⟩⟩
            · refine w.2.2.2.1 ?_
              unfold kdN gN
              rw [z]
            · have kn : kdN g u ≠ kdN g v := fun w => z (by
                rw [gu.1, gv.1]
                unfold kdN at w
                have x1 : 0 < gN g (6 + u) := by
                  unfold gN
                  omega
                have x2 : 0 < gN g (6 + v) := by
                  unfold gN
                  omega
                rw [show gN g (6 + u) = gN g (6 + v) by omega])
              have r3 : RH (swG g u v) W I3 J2 := r.sw hsu hsv e3 (by rw [f3 43 (by decide)])
              have hu4 : seB (swG g u v) u = true := by rw [sw_se hsu hsv]; exact hsu
              have hv4 : seB (swG g u v) v = true := by rw [sw_se hsu hsv]; exact hsv
              have g3 : gN (swG g u v) 3 = gN g 3 := sw_n lu lv (Or.inl (by decide))
              have a64 := hgt_l (g := swG g u v) (W := W) (P := P) (H := H) (t := 60)
              refine rht (d := d + 1) (P := P) (H := H) r3 (by rw [g3]; exact h3) (fun s hs => by rw [f.2.2.2 16 (by omega)]; exact e16 s hs) (fun s hs => by rw [f.2.2.2 17 (by omega)]; exact e17 s hs) (fun I4 J4 f4 r4 h44 _ => ⟨fun w => ?_, fun w => r232x lu lv r4.h.2.2.2.2.1 (fun I5 f5 e5 => ?_)⟩)
              · have w := (nI_ltI (by omega) (by omega)).mp w
                refine k1 u v I4 J4 ⟨⟨huv, hsu, hsv, kn, w⟩, fun a c hac => hac.elim (hn a c) (fun y => by rw [y.1]; exact hc c y.2)⟩ ⟨fun b h1 h2 h3 => ?_, fun q h1 h2 h3 => ?_, fun b h1 h2 => (f4.2.2.1 b h1 h2).trans (f.2.2.1 b h1 h2), fun q h1 => (f4.2.2.2 q h1).trans (f.2.2.2 q h1)⟩ r4.h h44
                · rw [f4.1 b h1 h3, f3 b h2]
                  exact f.1 b h1 h3
                · rw [f4.2.1 q h2 h3, f3 43 (by decide)]
                  exact f.2.1 q h1 h2 h3
              · have w : ¬ o < hgt (swG g u v) W P H 60 := fun q => w (nI_lt q (by omega))
                rw [sw_sw] at e5
                have r5 : RH g W I5 J4 := by
                  have t := r4.h.sw hu4 hv4 (I1 := I5) (by rw [sw_sw]; exact e5) (by rw [f5 43 (by decide)])
                  rw [sw_sw] at t
                  exact t
                have fg5 : FG I J I5 J4 := by
                  refine f.tr ⟨fun b h1 h2 => ?_, fun q h1 h2 h3 => ?_, f4.2.2.1, f4.2.2.2⟩
                  · by_cases y : b = 45
                    · rw [y, e5, r.2.2.2.2.1]
                    · rw [f5 b y, f4.1 b h1 h2, f3 b y]
                  · rw [f5 43 (by decide), f4.2.1 q h2 h3, f3 43 (by decide)]
                exact nxv (fun y => w y.2.2.2.2) I5 J4 fg5 r5
          · rw [seI_n (by omega), z.2.2.1] at hsi
            cases hsi
          · rw [seI_n (by omega), z.2.1] at hsi
            cases hsi
      refine v236_43_16 ⟨fun _ => ?_, fun w => absurd (nI_lt (by omega) (by omega)) w⟩
      rw [← nI_succ]
      exact inn (gN g 0 * gN g 1 - (u + 1)) (u + 1) I2 J2 (by omega) f r (by omega) (fun c hcu z => by have := z.1; omega)
  exact lp (gN g 0 * gN g 1) 0 I J (by omega) ⟨fun _ _ _ => rfl, fun _ _ _ _ => rfl, fun _ _ _ => rfl, fun _ _ => rfl⟩ hR (fun a c ha => absurd ha (Nat.not_lt_zero _))
theorem r237l {Q : Int32 → rI0 → rJ0 → Prop} (e16 : ∀ s, s < 64 → bits5 (J 43 16) s = P s) (e17 : ∀ s, s < 64 → bits5 (J 43 17) s = H s) : ∀ (m t : Nat) (g : Nat → Int32) (o : Nat) (I1 : rI0) (J1 : rJ0), t + m = 20 → o ≤ 64 → RH g W I1 J1 → gN g 3 ≤ 64 → I1 43 63 = nI t → FAy I J I1 J1 → (∀ g1 o1 t1 I2 J2, arR W P H m g o g1 o1 t1 → FAy I J I2 J2 → RH g1 W I2 J2 → I2 43 63 = nI (t + t1) → Q (nI o1) I2 J2) → wp S (d + 8) 237 36 [some (.ref 43), some (.int (nI o))] [] (wv x I1 J1) (rI x Q) := by
  intro m
  induction m with
  | zero =>
    intro t g o I1 J1 ht ho r h3 e f k
    refine v237_43_36 ?_
    rw [e]
    exact ⟨fun q => absurd q (nI_nlt (b := 20) (by omega) (by omega)), fun _ => k g o 0 I1 J1 ⟨rfl, rfl, rfl⟩ f r e⟩
  | succ m ih =>
    intro t g o I1 J1 ht ho r h3 e f k
    refine v237_43_36 (d := d + 7) ?_
    rw [e]
    refine ⟨fun _ => r236x (d := d) (P := P) (H := H) r h3 ho (fun s hs => by rw [f.2.2.2 16 (by omega)]; exact e16 s hs) (fun s hs => by rw [f.2.2.2 17 (by omega)]; exact e17 s hs) (fun u v I2 J2 hx f2 r2 h44 => ⟨fun z => absurd z (by decide), fun _ => ?_⟩) (fun hn I2 J2 f2 r2 => ⟨fun _ => k g o 0 I2 J2 (Or.inl ⟨hn, rfl, rfl, rfl⟩) (f.gx f2) r2 (by rw [f2.2.1 63 (by decide) (by decide) (by omega)]; exact e), fun z => absurd rfl z⟩), fun q => absurd (nI_lt (b := 20) (by omega) (by omega)) q⟩
    have hsu := hx.1.2.1
    have hsv := hx.1.2.2.1
    rw [h44, f2.2.1 63 (by decide) (by decide) (by omega), e, ← nI_succ]
    exact ih (t + 1) (swG g u v) _ _ J2 (by omega) hgt_l (r2.q (by decide)) (by rw [sw_n (seB_l hsu) (seB_l hsv) (Or.inl (by decide))]; exact h3) mSet_at (f.gx f2).i (fun g1 o1 t1 I5 J5 ha f5 r5 e1 => k g1 o1 (t1 + 1) I5 J5 (Or.inr ⟨u, v, t1, hx, rfl, ha⟩) f5 r5 (by rw [e1, Nat.add_assoc, Nat.add_comm 1 t1]))
/-- the reference: arrange -/
theorem yArr {Q : Int32 → rI0 → rJ0 → Prop} (hR : RH g W I J) (h3 : gN g 3 ≤ 64) (e16 : ∀ s, s < 64 → bits5 (J 43 16) s = P s) (e17 : ∀ s, s < 64 → bits5 (J 43 17) s = H s) (k0 : 24 < nb (seB g) 64 → Q (-1) (mSet I 43 0 0) J) (k1 : nb (seB g) 64 ≤ 24 → ∀ g1 o1 t1 I2 J2, arR W P H 20 g (hgt g W P H 60) g1 o1 t1 → FAy I J I2 J2 → RH g1 W I2 J2 → I2 43 63 = nI t1 → Q (nI o1) I2 J2) : wcI S (d + 8) 237 [.ref 43] x I J Q := by
  have z2 : (2 : Int32).toNatClampNeg = 2 := by decide
  have n64 := nb_le (p := seB g) 64
  refine c237_43 (d := d + 7) ⟨by decide, ?_⟩
  rw [z2, hR.2.2.2.2.1, g2_n hR.2.2.1]
  refine ⟨fun q => k0 ((nI_ltI (a := 24) (by omega) (by omega)).mp q), fun q => ?_⟩
  have q : ¬ 24 < nb (seB g) 64 := fun w => q (nI_lt (a := 24) w (by omega))
  have r1 : RH g W (mSet (mSet I 43 0 0) 43 63 0) J := (hR.q (by decide)).q (by decide)
  refine rht (d := d + 2) (P := P) (H := H) r1 h3 e16 e17 (fun I1 J1 f1 r2 _ _ => ?_)
  refine r237l (P := P) (H := H) e16 e17 20 0 g _ I1 J1 (by omega) hgt_l r2.h h3 ?_ ⟨fun b h1 h2 h4 => ?_, fun q h1 h2 h4 h5 => ?_, f1.2.2.1, f1.2.2.2⟩ (fun g1 o1 t1 I3 J3 ha f3 c3 e1 => k1 (by omega) g1 o1 t1 I3 J3 ha f3 c3 (by rw [e1, Nat.zero_add]))
  · rw [f1.2.1 63 (by decide) (by omega), mSet_at]
    rfl
  · rw [f1.1 b h1 h4, mSet_ne h1, mSet_ne h1]
  · rw [f1.2.1 q h2 h4, mS_nk h5, mS_nk h1]
end TRJ
end
