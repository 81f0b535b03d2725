/-! exchanged: the reference -/
section TRH
variable {S : Nat × (Nat → Int32)} {d : Nat} {x : mX} {I I1 I2 : rI0} {J J1 J2 : rJ0} {g b : Nat → Int32} {W : Nat → lV} {P H : Nat → Bool} {u v : Nat}
theorem yExch {Q : Int32 → rI0 → rJ0 → Prop} (hR : RH g W I J) (h3 : gN g 3 ≤ 64) (e16 : ∀ s, s < 64 → bits5 (J 43 16) s = P s) (e17 : ∀ s, s < 64 → bits5 (J 43 17) s = H s) (k1 : ∀ u v I' J', u < 64 → v < 64 → nb (seB g) 64 ≤ 24 → hgt g W P H 60 < gN g 3 → exF g W P H u v → FG I J I' J' → RH g W I' J' → Q (nI (100 * u + v)) I' J') (k0 : 24 < nb (seB g) 64 ∨ gN g 3 ≤ hgt g W P H 60 ∨ (∀ u v, ¬ exB g W P H u v) → ∀ I' J', FG I J I' J' → RH g W I' J' → Q (-1) I' J') : wcI S (d + 7) 234 [.ref 43] x I J Q := by
  obtain ⟨z0, z1, -, -, -, -⟩ := k0c
  have z2 : (2 : Int32).toNatClampNeg = 2 := by decide
  have hG := hR.1
  have hI := hR.2.1
  have n64 := nb_le (p := seB g) 64
  have rc : gN g 0 * gN g 1 ≤ 64 := Nat.le_trans (Nat.mul_le_mul hG.1 hG.2.1) (by decide)
  have hR1 : RH g W (mSet I 43 0 0) J := hR.t
  refine c234_43 (d := d + 6) ⟨by decide, ?_⟩
  rw [z2, hR.2.2.2.2.1, g2_n hR.2.2.1]
  refine ⟨fun q => k0 (Or.inl ((nI_ltI (a := 24) (by omega) (by omega)).mp q)) _ _ (FG.t (v := 0)) hR1, fun q => ?_⟩
  have q : ¬ 24 < nb (seB g) 64 := fun w => q (nI_lt (a := 24) w (by omega))
  refine rht (d := d + 1) (P := P) (H := H) hR1 h3 e16 e17 (fun I1 J1 f1 r1 _ h45 => ?_)
  have fg1 : FG I J I1 J1 := FG.t.tr f1.fg
  rw [h45]
  by_cases c : gN g 3 ≤ hgt g W P H 60
  · rw [if_pos c]
    exact ⟨fun z => absurd z (by decide), fun _ => k0 (Or.inr (Or.inl c)) I1 J1 fg1 r1.h⟩
  rw [if_neg c]
  refine ⟨fun _ => ⟨by decide, by decide, ?_⟩, fun z => absurd rfl z⟩
  rw [z0, z1, r1.h.2.2.2.2.1, hI.1 0 (by omega), hI.1 1 (by omega), nI_mu]
  have lp : ∀ (m u : Nat) (I2 : rI0) (J2 : rJ0), u + m = gN g 0 * gN g 1 → FG I J I2 J2 → RH g W I2 J2 → (∀ a c, a < u → ¬ exB g W P H a c) → wp S (d + 7) 234 56 [some (.ref 43), some (.int (nI (gN g 0 * gN g 1))), some (.int (nI u)), none] [] (wv x I2 J2) (rI x Q) := by
    intro m
    induction m with
    | zero =>
      intro u I2 J2 hu f r hn
      exact v234_43_56 ⟨fun w => absurd w (nI_nlt (by omega) (by omega)), fun _ => k0 (Or.inr (Or.inr (fun a c z => by
        have := (hG.2.2.2.2.1 a z.2.1).1
        exact hn a c (by omega) z))) I2 J2 f r⟩
    | succ m ih =>
      intro u I2 J2 hu f r hn
      have inn : ∀ (q2 v : Nat) (I2 : rI0) (J2 : rJ0), v + q2 = gN g 0 * gN g 1 → FG I J I2 J2 → RH g W I2 J2 → u < v → (∀ c, c < v → ¬ exB g W P H u c) → wp S (d + 7) 234 65 [some (.ref 43), some (.int (nI (gN g 0 * gN g 1))), some (.int (nI u)), some (.int (nI v))] [] (wv x I2 J2) (rI x Q) := by
        intro q2
        induction q2 with
        | zero =>
          intro v I2 J2 hv f r huv hc
          refine v234_43_65 ⟨fun w => absurd w (nI_nlt (by omega) (by omega)), fun _ => ?_⟩
          rw [← nI_succ]
          refine ih (u + 1) I2 J2 (by omega) f r (fun a c ha z => ?_)
          by_cases y : a = u
          · rw [y] at z
            have := (hG.2.2.2.2.1 c z.2.2.1).1
            exact hc c (by omega) z
          · exact hn a c (by omega) z
        | succ q2 ihq =>
          intro v I2 J2 hv f r huv hc
          have nxv : ¬ exB g W P H u v → ∀ I3 J3, FG I J I3 J3 → RH g W I3 J3 → wp S (d + 7) 234 65 [some (.ref 43), some (.int (nI (gN g 0 * gN g 1))), some (.int (nI u)), some (.int (nI v + 1))] [] (wv x I3 J3) (rI x Q) := by
            intro h I3 J3 f3 r3
            rw [← nI_succ]
            refine ihq (v + 1) I3 J3 (by omega) f3 r3 (by omega) (fun c ha => ?_)
            by_cases z : c = v
            · rw [z]
              exact h
            · exact hc c (by omega)
          have a6 : ∀ n, (6 : Int32) + nI n = nI (6 + n) := fun n => by
            rw [show (6 : Int32) = nI 6 from rfl, nI_add]
          refine v234_43_65 (d := d + 6) ⟨fun _ => c233_43 (d := d + 5) (rIs (d := d + 4) hG hI r.2.2.2.2.1 (fun u' hu' eu hsu _ => ⟨fun z => absurd z (by decide), fun _ => rIs (d := d + 4) hG hI r.2.2.2.2.1 (fun v' hv' ev hsv _ => ⟨fun z => absurd z (by decide), fun _ => ?_⟩) (fun hsi => ⟨fun _ => ⟨fun _ => nxv (fun z => ?_) I2 J2 f r, fun z => absurd rfl z⟩, fun z => absurd rfl z⟩)⟩) (fun hsi => ⟨fun _ => ⟨fun _ => nxv (fun z => ?_) I2 J2 f r, fun z => absurd rfl z⟩, fun z => absurd rfl z⟩)), fun w => absurd (nI_lt (by omega) (by omega)) w⟩
          · have eu : u = u' := nI_inj (by omega) (by omega) eu
            have ev : v = v' := nI_inj (by omega) (by omega) ev
            subst eu
            subst ev
            have lu := seB_l hsu
            have lv := seB_l hsv
            have gu := hI.2.1 u lu
            have gv := hI.2.1 v lv
            have pu := seB_p hsu
            have pv := seB_p hsv
            rw [a6, a6, nI_clamp (by omega), nI_clamp (by omega), r.2.2.2.2.1]
            refine ⟨nI_in (by omega) (by omega), nI_in (by omega) (by omega), fun z => ⟨fun _ => nxv (fun w => ?_) I2 J2 f r, fun z => absurd rfl z⟩, fun z => ⟨fun z => absurd z (by decide), fun _ => r232x lu lv r.2.2.2.2.1 (fun I3 f3 e3 => ?_)⟩⟩
            · refine w.2.2.2.1 ?_
              unfold kdN gN
              rw [z]
            · have kn : kdN g u ≠ kdN g v := fun w => z (by
                rw [gu.1, gv.1]
                unfold kdN at w
                have x1 : 0 < gN g (6 + u) := by
                  unfold gN
                  omega
                have x2 : 0 < gN g (6 + v) := by
                  unfold gN
                  omega
                rw [show gN g (6 + u) = gN g (6 + v) by omega])
              have r3 : RH (swG g u v) W I3 J2 := r.sw hsu hsv e3 (by rw [f3 43 (by decide)])
              have hu4 : seB (swG g u v) u = true := by rw [sw_se hsu hsv]; exact hsu
              have hv4 : seB (swG g u v) v = true := by rw [sw_se hsu hsv]; exact hsv
              have g3 : gN (swG g u v) 3 = gN g 3 := sw_n lu lv (Or.inl (by decide))
              refine rht (d := d + 1) (P := P) (H := H) r3 (by rw [g3]; exact h3) (fun s hs => by rw [f.2.2.2 16 (by omega)]; exact e16 s hs) (fun s hs => by rw [f.2.2.2 17 (by omega)]; exact e17 s hs) (fun I4 J4 f4 r4 _ h45b => r232x lu lv r4.h.2.2.2.2.1 (fun I5 f5 e5 => ?_))
              rw [sw_sw] at e5
              have r5 : RH g W I5 J4 := by
                have t := r4.h.sw hu4 hv4 (I1 := I5) (by rw [sw_sw]; exact e5) (by rw [f5 43 (by decide)])
                rw [sw_sw] at t
                exact t
              have fg5 : FG I J I5 J4 := by
                refine f.tr ⟨fun b h1 h2 => ?_, fun q h1 h2 h3 => ?_, f4.2.2.1, f4.2.2.2⟩
                · by_cases y : b = 45
                  · rw [y, e5, r.2.2.2.2.1]
                  · rw [f5 b y, f4.1 b h1 h2, f3 b y]
                · rw [f5 43 (by decide), f4.2.1 q h2 h3, f3 43 (by decide)]
              have ce : crB (swG g u v) W P H = decide (gN (swG g u v) 3 ≤ hgt (swG g u v) W P H 60) := rfl
              rw [f5 43 (by decide), h45b]
              by_cases w : gN (swG g u v) 3 ≤ hgt (swG g u v) W P H 60
              · rw [if_pos w]
                refine ⟨fun z => absurd z (by decide), fun _ => ?_⟩
                have kk := k1 u v I5 J4 lu lv (by omega) (by omega) ⟨⟨huv, hsu, hsv, kn, by rw [ce]; exact decide_eq_true w⟩, fun a c hac => hac.elim (hn a c) (fun y => by rw [y.1]; exact hc c y.2)⟩ fg5 r5
                rw [show (100 : Int32) = nI 100 from rfl, nI_mu, nI_add]
                exact kk
              · rw [if_neg w]
                refine ⟨fun _ => nxv (fun y => ?_) I5 J4 fg5 r5, fun z => absurd rfl z⟩
                have y5 := y.2.2.2.2
                rw [ce] at y5
                exact w (of_decide_eq_true y5)
          · rw [seI_n (by omega), z.2.2.1] at hsi
            cases hsi
          · rw [seI_n (by omega), z.2.1] at hsi
            cases hsi
      refine v234_43_56 ⟨fun _ => ?_, fun w => absurd (nI_lt (by omega) (by omega)) w⟩
      rw [← nI_succ]
      exact inn (gN g 0 * gN g 1 - (u + 1)) (u + 1) I2 J2 (by omega) f r (by omega) (fun c hcu z => by have := z.1; omega)
  exact lp (gN g 0 * gN g 1) 0 I1 J1 (by omega) fg1 r1.h (fun a c ha => absurd ha (Nat.not_lt_zero _))
end TRH
