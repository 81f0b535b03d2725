/-! arrange: the reference -/
section TRJ
variable {S : Nat × (Nat → Int32)} {d : Nat} {x : mX} {I I1 I2 : rI0} {J J1 J2 : rJ0} {g b : Nat → Int32} {W : Nat → lV} {P H : Nat → Bool} {u v : Nat}
/-- what a step of arrange leaves as it was, of the reference -/
def FGx (I : rI0) (J : rJ0) (I' : rI0) (J' : rJ0) : Prop := (∀ b, b ≠ 43 → b ≠ 45 → b ≠ 50 → I' b = I b) ∧ (∀ q, q ≠ 0 → q ≠ 30 → ¬ (42 ≤ q ∧ q ≤ 45) → I' 43 q = I 43 q) ∧ (∀ b, b ≠ 43 → ¬ (51 ≤ b ∧ b ≤ 55) → J' b = J b) ∧ ∀ q, ¬ (36 ≤ q ∧ q ≤ 41) → J' 43 q = J 43 q
/-- what arrange leaves as it was -/
def FAy (I : rI0) (J : rJ0) (I' : rI0) (J' : rJ0) : Prop := (∀ b, b ≠ 43 → b ≠ 45 → b ≠ 50 → I' b = I b) ∧ (∀ q, q ≠ 0 → q ≠ 30 → ¬ (42 ≤ q ∧ q ≤ 45) → q ≠ 63 → I' 43 q = I 43 q) ∧ (∀ b, b ≠ 43 → ¬ (51 ≤ b ∧ b ≤ 55) → J' b = J b) ∧ ∀ q, ¬ (36 ≤ q ∧ q ≤ 41) → J' 43 q = J 43 q
theorem FAy.gx (f : FAy I J I1 J1) (h : FGx I1 J1 I2 J2) : FAy I J I2 J2 := ⟨fun b h1 h2 h3 => (h.1 b h1 h2 h3).trans (f.1 b h1 h2 h3), fun q h1 h2 h3 h4 => (h.2.1 q h1 h2 h3).trans (f.2.1 q h1 h2 h3 h4), fun b h1 h2 => (h.2.2.1 b h1 h2).trans (f.2.2.1 b h1 h2), fun q h1 => (h.2.2.2 q h1).trans (f.2.2.2 q h1)⟩
theorem FAy.i {v : Int32} (f : FAy I J I1 J1) : FAy I J (mSet I1 43 63 v) J1 := ⟨fun b h1 h2 h3 => (mSet_ne h1).trans (f.1 b h1 h2 h3), fun q h1 h2 h3 h4 => (mS_nk h4).trans (f.2.1 q h1 h2 h3 h4), f.2.2.1, f.2.2.2⟩
theorem RH.q {q : Nat} {v : Int32} (h : RH g W I J) (hq : q ≠ 30) : RH g W (mSet I 43 q v) J := ⟨h.1, h.2.1, h.2.2.1, h.2.2.2.1, (mSet_ne (by decide)).trans h.2.2.2.2.1, fun z => h.2.2.2.2.2 (by rw [mS_nk (Ne.symm hq)] at z; exact z)⟩
/-- the reference: arranges -/
theorem r236x {o : Nat} {Q : Int32 → rI0 → rJ0 → Prop} (hR : RH g W I J) (h3 : gN g 3 ≤ 64) (ho : o ≤ 64) (e16 : ∀ s, s < 64 → bits5 (J 43 16) s = P s) (e17 : ∀ s, s < 64 → bits5 (J 43 17) s = H s) (k1 : ∀ u v I' J', exHf g W P H o u v → FGx I J I' J' → RH (swG g u v) W I' J' → I' 43 44 = nI (hgt (swG g u v) W P H 60) → Q 1 I' J') (k0 : (∀ u v, ¬ exH g W P H o u v) → ∀ I' J', FGx I J I' J' → RH g W I' J' → Q 0 I' J') : wcI S (d + 7) 236 [.ref 43, .int (nI o)] x I J Q := by
  obtain ⟨z0, z1, -, -, -, -⟩ := k0c
  have hG := hR.1
  have hI := hR.2.1
  have rc : gN g 0 * gN g 1 ≤ 64 := Nat.le_trans (Nat.mul_le_mul hG.1 hG.2.1) (by decide)
  refine c236_43 (d := d + 6) ⟨by decide, by decide, ?_⟩
  rw [z0, z1, hR.2.2.2.2.1, hI.1 0 (by omega), hI.1 1 (by omega), nI_mu]
  have gx : ∀ I2 J2, FG I J I2 J2 → FGx I J I2 J2 := fun I2 J2 f => ⟨fun b h1 _ h2 => f.1 b h1 h2, f.2.1, f.2.2.1, f.2.2.2⟩
  have lp : ∀ (m u : Nat) (I2 : rI0) (J2 : rJ0), u + m = gN g 0 * gN g 1 → FG I J I2 J2 → RH g W I2 J2 → (∀ a c, a < u → ¬ exH g W P H o a c) → wp S (d + 7) 236 16 [some (.ref 43), some (.int (nI o)), some (.int (nI (gN g 0 * gN g 1))), some (.int (nI u)), none] [] (wv x I2 J2) (rI x Q) := by
    intro m
    induction m with
    | zero =>
      intro u I2 J2 hu f r hn
      exact v236_43_16 ⟨fun w => absurd w (nI_nlt (by omega) (by omega)), fun _ => k0 (fun a c z => by
        have := (hG.2.2.2.2.1 a z.2.1).1
        exact hn a c (by omega) z) I2 J2 (gx _ _ f) r⟩
    | succ m ih =>
      intro u I2 J2 hu f r hn
      have inn : ∀ (q2 v : Nat) (I2 : rI0) (J2 : rJ0), v + q2 = gN g 0 * gN g 1 → FG I J I2 J2 → RH g W I2 J2 → u < v → (∀ c, c < v → ¬ exH g W P H o u c) → wp S (d + 7) 236 26 [some (.ref 43), some (.int (nI o)), some (.int (nI (gN g 0 * gN g 1))), some (.int (nI u)), some (.int (nI v))] [] (wv x I2 J2) (rI x Q) := by
        intro q2
        induction q2 with
        | zero =>
          intro v I2 J2 hv f r huv hc
          refine v236_43_26 ⟨fun w => absurd w (nI_nlt (by omega) (by omega)), fun _ => ?_⟩
          rw [← nI_succ]
          refine ih (u + 1) I2 J2 (by omega) f r (fun a c ha z => ?_)
          by_cases y : a = u
          · rw [y] at z
            have := (hG.2.2.2.2.1 c z.2.2.1).1
            exact hc c (by omega) z
          · exact hn a c (by omega) z
        | succ q2 ihq =>
          intro v I2 J2 hv f r huv hc
          have nxv : ¬ exH g W P H o u v → ∀ I3 J3, FG I J I3 J3 → RH g W I3 J3 → wp S (d + 7) 236 26 [some (.ref 43), some (.int (nI o)), some (.int (nI (gN g 0 * gN g 1))), some (.int (nI u)), some (.int (nI v + 1))] [] (wv x I3 J3) (rI x Q) := by
            intro h I3 J3 f3 r3
            rw [← nI_succ]
            refine ihq (v + 1) I3 J3 (by omega) f3 r3 (by omega) (fun c ha => ?_)
            by_cases z : c = v
            · rw [z]
              exact h
            · exact hc c (by omega)
          have a6 : ∀ n, (6 : Int32) + nI n = nI (6 + n) := fun n => by
            rw [show (6 : Int32) = nI 6 from rfl, nI_add]
          refine v236_43_26 (d := d + 6) ⟨fun _ => c233_43 (d := d + 5) (rIs (d := d + 4) hG hI r.2.2.2.2.1 (fun u' hu' eu hsu _ => ⟨fun z => absurd z (by decide), fun _ => rIs (d := d + 4) hG hI r.2.2.2.2.1 (fun v' hv' ev hsv _ => ⟨fun z => absurd z (by decide), fun _ => ?_⟩) (fun hsi => ⟨fun _ => ⟨fun _ => nxv (fun z => ?_) I2 J2 f r, fun z => absurd rfl z⟩, fun z => absurd rfl z⟩)⟩) (fun hsi => ⟨fun _ => ⟨fun _ => nxv (fun z => ?_) I2 J2 f r, fun z => absurd rfl z⟩, fun z => absurd rfl z⟩)), fun w => absurd (nI_lt (by omega) (by omega)) w⟩
          · have eu : u = u' := nI_inj (by omega) (by omega) eu
            have ev : v = v' := nI_inj (by omega) (by omega) ev
            subst eu
            subst ev
            have lu := seB_l hsu
            have lv := seB_l hsv
            have gu := hI.2.1 u lu
            have gv := hI.2.1 v lv
            have pu := seB_p hsu
            have pv := seB_p hsv
            rw [a6, a6, nI_clamp (by omega), nI_clamp (by omega), r.2.2.2.2.1]
            refine ⟨nI_in (by omega) (by omega), nI_in (by omega) (by omega), fun z => ⟨fun _ => nxv (fun w => ?_) I2 J2 f r, fun z => absurd rfl z⟩, fun z => ⟨fun z => absurd z (by decide), fun _ => r232x lu lv r.2.2.2.2.1 (fun I3 f3 e3 => ?_)⟩⟩
            · refine w.2.2.2.1 ?_
              unfold kdN gN
              rw [z]
            · have kn : kdN g u ≠ kdN g v := fun w => z (by
                rw [gu.1, gv.1]
                unfold kdN at w
                have x1 : 0 < gN g (6 + u) := by
                  unfold gN
                  omega
                have x2 : 0 < gN g (6 + v) := by
                  unfold gN
                  omega
                rw [show gN g (6 + u) = gN g (6 + v) by omega])
              have r3 : RH (swG g u v) W I3 J2 := r.sw hsu hsv e3 (by rw [f3 43 (by decide)])
              have hu4 : seB (swG g u v) u = true := by rw [sw_se hsu hsv]; exact hsu
              have hv4 : seB (swG g u v) v = true := by rw [sw_se hsu hsv]; exact hsv
              have g3 : gN (swG g u v) 3 = gN g 3 := sw_n lu lv (Or.inl (by decide))
              have a64 := hgt_l (g := swG g u v) (W := W) (P := P) (H := H) (t := 60)
              refine rht (d := d + 1) (P := P) (H := H) r3 (by rw [g3]; exact h3) (fun s hs => by rw [f.2.2.2 16 (by omega)]; exact e16 s hs) (fun s hs => by rw [f.2.2.2 17 (by omega)]; exact e17 s hs) (fun I4 J4 f4 r4 h44 _ => ⟨fun w => ?_, fun w => r232x lu lv r4.h.2.2.2.2.1 (fun I5 f5 e5 => ?_)⟩)
              · have w := (nI_ltI (by omega) (by omega)).mp w
                refine k1 u v I4 J4 ⟨⟨huv, hsu, hsv, kn, w⟩, fun a c hac => hac.elim (hn a c) (fun y => by rw [y.1]; exact hc c y.2)⟩ ⟨fun b h1 h2 h3 => ?_, fun q h1 h2 h3 => ?_, fun b h1 h2 => (f4.2.2.1 b h1 h2).trans (f.2.2.1 b h1 h2), fun q h1 => (f4.2.2.2 q h1).trans (f.2.2.2 q h1)⟩ r4.h h44
                · rw [f4.1 b h1 h3, f3 b h2]
                  exact f.1 b h1 h3
                · rw [f4.2.1 q h2 h3, f3 43 (by decide)]
                  exact f.2.1 q h1 h2 h3
              · have w : ¬ o < hgt (swG g u v) W P H 60 := fun q => w (nI_lt q (by omega))
                rw [sw_sw] at e5
                have r5 : RH g W I5 J4 := by
                  have t := r4.h.sw hu4 hv4 (I1 := I5) (by rw [sw_sw]; exact e5) (by rw [f5 43 (by decide)])
                  rw [sw_sw] at t
                  exact t
                have fg5 : FG I J I5 J4 := by
                  refine f.tr ⟨fun b h1 h2 => ?_, fun q h1 h2 h3 => ?_, f4.2.2.1, f4.2.2.2⟩
                  · by_cases y : b = 45
                    · rw [y, e5, r.2.2.2.2.1]
                    · rw [f5 b y, f4.1 b h1 h2, f3 b y]
                  · rw [f5 43 (by decide), f4.2.1 q h2 h3, f3 43 (by decide)]
                exact nxv (fun y => w y.2.2.2.2) I5 J4 fg5 r5
          · rw [seI_n (by omega), z.2.2.1] at hsi
            cases hsi
          · rw [seI_n (by omega), z.2.1] at hsi
            cases hsi
      refine v236_43_16 ⟨fun _ => ?_, fun w => absurd (nI_lt (by omega) (by omega)) w⟩
      rw [← nI_succ]
      exact inn (gN g 0 * gN g 1 - (u + 1)) (u + 1) I2 J2 (by omega) f r (by omega) (fun c hcu z => by have := z.1; omega)
  exact lp (gN g 0 * gN g 1) 0 I J (by omega) ⟨fun _ _ _ => rfl, fun _ _ _ _ => rfl, fun _ _ _ => rfl, fun _ _ => rfl⟩ hR (fun a c ha => absurd ha (Nat.not_lt_zero _))
theorem r237l {Q : Int32 → rI0 → rJ0 → Prop} (e16 : ∀ s, s < 64 → bits5 (J 43 16) s = P s) (e17 : ∀ s, s < 64 → bits5 (J 43 17) s = H s) : ∀ (m t : Nat) (g : Nat → Int32) (o : Nat) (I1 : rI0) (J1 : rJ0), t + m = 20 → o ≤ 64 → RH g W I1 J1 → gN g 3 ≤ 64 → I1 43 63 = nI t → FAy I J I1 J1 → (∀ g1 o1 t1 I2 J2, arR W P H m g o g1 o1 t1 → FAy I J I2 J2 → RH g1 W I2 J2 → I2 43 63 = nI (t + t1) → Q (nI o1) I2 J2) → wp S (d + 8) 237 36 [some (.ref 43), some (.int (nI o))] [] (wv x I1 J1) (rI x Q) := by
  intro m
  induction m with
  | zero =>
    intro t g o I1 J1 ht ho r h3 e f k
    refine v237_43_36 ?_
    rw [e]
    exact ⟨fun q => absurd q (nI_nlt (b := 20) (by omega) (by omega)), fun _ => k g o 0 I1 J1 ⟨rfl, rfl, rfl⟩ f r e⟩
  | succ m ih =>
    intro t g o I1 J1 ht ho r h3 e f k
    refine v237_43_36 (d := d + 7) ?_
    rw [e]
    refine ⟨fun _ => r236x (d := d) (P := P) (H := H) r h3 ho (fun s hs => by rw [f.2.2.2 16 (by omega)]; exact e16 s hs) (fun s hs => by rw [f.2.2.2 17 (by omega)]; exact e17 s hs) (fun u v I2 J2 hx f2 r2 h44 => ⟨fun z => absurd z (by decide), fun _ => ?_⟩) (fun hn I2 J2 f2 r2 => ⟨fun _ => k g o 0 I2 J2 (Or.inl ⟨hn, rfl, rfl, rfl⟩) (f.gx f2) r2 (by rw [f2.2.1 63 (by decide) (by decide) (by omega)]; exact e), fun z => absurd rfl z⟩), fun q => absurd (nI_lt (b := 20) (by omega) (by omega)) q⟩
    have hsu := hx.1.2.1
    have hsv := hx.1.2.2.1
    rw [h44, f2.2.1 63 (by decide) (by decide) (by omega), e, ← nI_succ]
    exact ih (t + 1) (swG g u v) _ _ J2 (by omega) hgt_l (r2.q (by decide)) (by rw [sw_n (seB_l hsu) (seB_l hsv) (Or.inl (by decide))]; exact h3) mSet_at (f.gx f2).i (fun g1 o1 t1 I5 J5 ha f5 r5 e1 => k g1 o1 (t1 + 1) I5 J5 (Or.inr ⟨u, v, t1, hx, rfl, ha⟩) f5 r5 (by rw [e1, Nat.add_assoc, Nat.add_comm 1 t1]))
/-- the reference: arrange -/
theorem yArr {Q : Int32 → rI0 → rJ0 → Prop} (hR : RH g W I J) (h3 : gN g 3 ≤ 64) (e16 : ∀ s, s < 64 → bits5 (J 43 16) s = P s) (e17 : ∀ s, s < 64 → bits5 (J 43 17) s = H s) (k0 : 24 < nb (seB g) 64 → Q (-1) (mSet I 43 0 0) J) (k1 : nb (seB g) 64 ≤ 24 → ∀ g1 o1 t1 I2 J2, arR W P H 20 g (hgt g W P H 60) g1 o1 t1 → FAy I J I2 J2 → RH g1 W I2 J2 → I2 43 63 = nI t1 → Q (nI o1) I2 J2) : wcI S (d + 8) 237 [.ref 43] x I J Q := by
  have z2 : (2 : Int32).toNatClampNeg = 2 := by decide
  have n64 := nb_le (p := seB g) 64
  refine c237_43 (d := d + 7) ⟨by decide, ?_⟩
  rw [z2, hR.2.2.2.2.1, g2_n hR.2.2.1]
  refine ⟨fun q => k0 ((nI_ltI (a := 24) (by omega) (by omega)).mp q), fun q => ?_⟩
  have q : ¬ 24 < nb (seB g) 64 := fun w => q (nI_lt (a := 24) w (by omega))
  have r1 : RH g W (mSet (mSet I 43 0 0) 43 63 0) J := (hR.q (by decide)).q (by decide)
  refine rht (d := d + 2) (P := P) (H := H) r1 h3 e16 e17 (fun I1 J1 f1 r2 _ _ => ?_)
  refine r237l (P := P) (H := H) e16 e17 20 0 g _ I1 J1 (by omega) hgt_l r2.h h3 ?_ ⟨fun b h1 h2 h4 => ?_, fun q h1 h2 h4 h5 => ?_, f1.2.2.1, f1.2.2.2⟩ (fun g1 o1 t1 I3 J3 ha f3 c3 e1 => k1 (by omega) g1 o1 t1 I3 J3 ha f3 c3 (by rw [e1, Nat.zero_add]))
  · rw [f1.2.1 63 (by decide) (by omega), mSet_at]
    rfl
  · rw [f1.1 b h1 h4, mSet_ne h1, mSet_ne h1]
  · rw [f1.2.1 q h2 h4, mS_nk h5, mS_nk h1]
end TRJ
