/-! exchanged: the class's search -/
section TRF
/-- u and v, exchanged, carry it -/
def exB (g : Nat → Int32) (W : Nat → lV) (P H : Nat → Bool) (u v : Nat) : Prop := u < v ∧ seB g u = true ∧ seB g v = true ∧ kdN g u ≠ kdN g v ∧ crB (swG g u v) W P H = true
/-- the first such pair -/
def exF (g : Nat → Int32) (W : Nat → lV) (P H : Nat → Bool) (u v : Nat) : Prop := exB g W P H u v ∧ ∀ a c, (a < u ∨ (a = u ∧ c < v)) → ¬ exB g W P H a c
theorem exF_u {g : Nat → Int32} {W : Nat → lV} {P H : Nat → Bool} {u v a c : Nat} (h : exF g W P H u v) (h2 : exF g W P H a c) : a = u ∧ c = v := by
  have n1 := h.2 a c
  have n2 := h2.2 u v
  have m1 : ¬ (a < u ∨ (a = u ∧ c < v)) := fun z => n1 z h2.1
  have m2 : ¬ (u < a ∨ (u = a ∧ v < c)) := fun z => n2 z h.1
  omega
variable {S : Nat × (Nat → Int32)} {d : Nat} {x : mX} {I I1 I2 : rI0} {J J1 J2 : rJ0} {g b : Nat → Int32} {W : Nat → lV} {P H : Nat → Bool} {u v : Nat}
theorem sw_sw : swG (swG g u v) u v = g := by
  funext n
  unfold swG
  by_cases z : n = 6 + u
  · rw [if_pos z]
    by_cases y : 6 + v = 6 + u
    · rw [if_pos y, y, z]
    · rw [if_neg y, if_pos rfl, z]
  · rw [if_neg z]
    by_cases y : n = 6 + v
    · rw [if_pos y, if_pos rfl, y]
    · rw [if_neg y, if_neg z, if_neg y]
/-- what the search leaves as it was -/
def FE (g : Nat → Int32) (W : Nat → lV) (I : rI0) (J : rJ0) (I' : rI0) (J' : rJ0) : Prop := (∀ b, b ≠ 41 → I' b = I b) ∧ (∀ b, b ≠ 41 → b ≠ 6 → J' b = J b) ∧ HM g W I' J'
theorem c97x {Q : Int32 → rI0 → rJ0 → Prop} (hC : CE g W P H I J) (hk : ∀ s, seB g s = true → kdN g s < 6 ∧ I 5 s = nI (kdN g s)) (k1 : ∀ u v I' J', u < 64 → v < 64 → exF g W P H u v → FE g W I J I' J' → Q (nI (64 * u + v)) I' J') (k0 : (∀ u v, ¬ exB g W P H u v) → ∀ I' J', FE g W I J I' J' → Q (-1) I' J') : wcI S (d + 24) 97 [.ref 37, .int (nI (gN g 3) - 1)] x I J Q := by
  have h3 := hC.2.2.2.2.2.2
  have one : (1 : Int32).toInt = 1 := by decide
  have ci : (nI (gN g 3) - 1).toInt = (gN g 3 : Int) - 1 := by
    rw [i_sub (nI_toInt (by omega)) one (by omega)]
  have c1 : nI (gN g 3) - 1 + 1 = nI (gN g 3) := Int32.sub_add_cancel _ _
  have ceF : ∀ I1 J1, FE g W I J I1 J1 → CE g W P H I1 J1 := fun I1 J1 f => ⟨hC.1, f.2.2, hC.2.2.1, by rw [f.2.1 3 (by decide) (by decide)]; exact hC.2.2.2.1, by rw [f.2.1 3 (by decide) (by decide)]; exact hC.2.2.2.2.1, by rw [f.1 4 (by decide)]; exact hC.2.2.2.2.2.1, h3⟩
  have lp : ∀ (m u : Nat) (I1 : rI0) (J1 : rJ0), u + m = 64 → FE g W I J I1 J1 → (∀ a c, a < u → ¬ exB g W P H a c) → wp S (d + 24) 97 10 [some (.ref 37), some (.int (nI (gN g 3) - 1)), some (.ref 4), some (.int (nI u)), none, none] [] (wv x I1 J1) (rI x Q) := by
    intro m
    induction m with
    | zero =>
      intro u I1 J1 hu f hn
      exact v97_37_10 ⟨fun q => absurd q (nI_nlt (b := 64) (by omega) (by omega)), fun _ => k0 (fun a c z => by
        have := seB_l z.2.1
        exact hn a c (by omega) z) I1 J1 f⟩
    | succ m ih =>
      intro u I1 J1 hu f hn
      have nxu : (∀ c, ¬ exB g W P H u c) → ∀ I2 J2, FE g W I J I2 J2 → wp S (d + 24) 97 10 [some (.ref 37), some (.int (nI (gN g 3) - 1)), some (.ref 4), some (.int (nI u + 1)), none, none] [] (wv x I2 J2) (rI x Q) := by
        intro h I2 J2 f2
        rw [← nI_succ]
        refine ih (u + 1) I2 J2 (by omega) f2 (fun a c ha => ?_)
        by_cases z : a = u
        · rw [z]
          exact h c
        · exact hn a c (by omega)
      have inn : ∀ (q v : Nat) (I2 : rI0) (J2 : rJ0), v + q = 64 → FE g W I J I2 J2 → u < v → (∀ c, c < v → ¬ exB g W P H u c) → wp S (d + 24) 97 21 [some (.ref 37), some (.int (nI (gN g 3) - 1)), some (.ref 4), some (.int (nI u)), some (.int (nI v)), none] [] (wv x I2 J2) (rI x Q) := by
        intro q
        induction q with
        | zero =>
          intro v I2 J2 hv f2 huv hc
          refine v97_37_21 ⟨fun w => absurd w (nI_nlt (b := 64) (by omega) (by omega)), fun _ => nxu (fun c z => ?_) I2 J2 f2⟩
          have := seB_l z.2.2.1
          exact hc c (by omega) z
        | succ q ihq =>
          intro v I2 J2 hv f2 huv hc
          have hC2 := ceF I2 J2 f2
          have nxv : ¬ exB g W P H u v → ∀ I3 J3, FE g W I J I3 J3 → wp S (d + 24) 97 21 [some (.ref 37), some (.int (nI (gN g 3) - 1)), some (.ref 4), some (.int (nI u)), some (.int (nI v + 1)), none] [] (wv x I3 J3) (rI x Q) := by
            intro h I3 J3 f3
            rw [← nI_succ]
            refine ihq (v + 1) I3 J3 (by omega) f3 (by omega) (fun c ha => ?_)
            by_cases z : c = v
            · rw [z]
              exact h
            · exact hc c (by omega)
          refine v97_37_21 (d := d + 23) ⟨fun _ => cIs hC2.2.1.2.2.2.2.1 (fun u' hu' eu hsu _ => ⟨fun z => absurd z (by decide), fun _ => cIs hC2.2.1.2.2.2.2.1 (fun v' hv' ev hsv _ => ⟨fun z => absurd z (by decide), fun _ => ⟨nI_in (by omega) (by omega), nI_in (by omega) (by omega), ?_⟩⟩) (fun hsi => ⟨fun _ => nxv (fun z => ?_) I2 J2 f2, fun z => absurd rfl z⟩)⟩) (fun hsi => ⟨fun _ => nxu (fun c z => ?_) I2 J2 f2, fun z => absurd rfl z⟩), fun w => absurd (nI_lt (b := 64) (by omega) (by omega)) w⟩
          · have eu : u = u' := nI_inj (by omega) (by omega) eu
            have ev : v = v' := nI_inj (by omega) (by omega) ev
            subst eu
            subst ev
            have hk2 : ∀ s, seB g s = true → kdN g s < 6 ∧ I2 5 s = nI (kdN g s) := fun s hs => by
              rw [f2.1 5 (by decide)]
              exact hk s hs
            have ku := hk2 u hsu
            have kv := hk2 v hsv
            rw [nI_clamp (by omega), nI_clamp (by omega), ku.2, kv.2]
            refine ⟨fun z => nxv (fun w => ?_) I2 J2 f2, fun z => c30x (d := d + 21) hC2.2.1 hsu hsv hk2 (fun I3 J3 fi fj hM3 h5 => ?_)⟩
            · exact w.2.2.2.1 (nI_inj (by omega) (by omega) z)
            · have lu := seB_l hsu
              have lv := seB_l hsv
              have kn : kdN g u ≠ kdN g v := fun w => z (by rw [w])
              rw [c1]
              refine ht_41 (d := d + 1) (P := P) (H := H) (hC2.1.sw hsu hsv) hM3 (fun s hs => by rw [sw_se hsu hsv]; exact hC2.2.2.1 s hs) (by rw [fj 3 (by decide)]; exact hC2.2.2.2.1) (by rw [fj 3 (by decide)]; exact hC2.2.2.2.2.1) (fun I4 J4 r f4 h1 h2 => ?_)
              have hu4 : seB (swG g u v) u = true := by rw [sw_se hsu hsv]; exact hsu
              have hv4 : seB (swG g u v) v = true := by rw [sw_se hsu hsv]; exact hsv
              have hk4 : ∀ s, seB (swG g u v) s = true → kdN (swG g u v) s < 6 ∧ I4 5 s = nI (kdN (swG g u v) s) := fun s hs => by
                rw [sw_se hsu hsv] at hs
                rw [f4.1 5 (by decide), h5 s, sw_kd]
                exact hk2 _ (sw_as hsu hsv hs)
              refine c30x (d := d + 21) (hM3.n41 f4) hu4 hv4 hk4 (fun I5 J5 fi5 fj5 hM5 h55 => ?_)
              rw [sw_sw] at hM5
              have f6 : FE g W I J I5 J5 := by
                refine ⟨fun b hb => ?_, fun b h6 h7 => ?_, hM5⟩
                · by_cases y : b = 5
                  · rw [y, ← f2.1 5 (by decide)]
                    funext s
                    rw [h55, f4.1 5 (by decide), h5]
                    by_cases w : s = u
                    · rw [if_pos w]
                      by_cases w2 : v = u
                      · omega
                      · rw [if_neg w2, if_pos rfl, w]
                    · rw [if_neg w]
                      by_cases w2 : s = v
                      · rw [if_pos w2, if_pos rfl, w2]
                      · rw [if_neg w2, if_neg w, if_neg w2]
                  · rw [fi5 b y, f4.1 b hb, fi b y]
                    exact f2.1 b hb
                · rw [fj5 b h7, f4.2 b h6, fj b h7]
                  exact f2.2.1 b h6 h7
              have a64 := hgt_l (g := swG g u v) (W := W) (P := P) (H := H) (t := 60)
              rw [nI_toInt (by omega)] at h2
              have ce : crB (swG g u v) W P H = decide (gN g 3 ≤ hgt (swG g u v) W P H 60) := by
                unfold crB
                rw [sw_n lu lv (Or.inl (by decide))]
              refine ⟨fun w => ?_, fun w => nxv (fun y => ?_) I5 J5 f6⟩
              · rw [Int32.lt_iff_toInt_lt, ci, nI_toInt (by omega)] at w
                have kk := k1 u v I5 J5 lu lv ⟨⟨huv, hsu, hsv, kn, by rw [ce]; exact decide_eq_true (by omega)⟩, fun a c hac => hac.elim (hn a c) (fun y => by rw [y.1]; exact hc c y.2)⟩ f6
                rw [show (64 : Int32) = nI 64 from rfl, nI_mu, nI_add, Nat.mul_comm u 64]
                exact kk
              · rw [Int32.lt_iff_toInt_lt, ci, nI_toInt (by omega)] at w
                have y5 := y.2.2.2.2
                rw [ce] at y5
                have := of_decide_eq_true y5
                omega
          · rw [seI_n (by omega), z.2.2.1] at hsi
            cases hsi
          · rw [seI_n (by omega), z.2.1] at hsi
            cases hsi
      refine v97_37_10 ⟨fun _ => ?_, fun q => absurd (nI_lt (b := 64) (by omega) (by omega)) q⟩
      rw [← nI_succ]
      exact inn (64 - (u + 1)) (u + 1) I1 J1 (by omega) f (by omega) (fun c hcu z => by have := z.1; omega)
  exact c97_37 (lp 64 0 I J (by omega) ⟨fun _ _ => rfl, fun _ _ _ => rfl, hC.2.1⟩ (fun a c ha => absurd ha (Nat.not_lt_zero _)))
end TRF
