/-! arrange: the class -/
section TRI
/-- u and v, exchanged, bring HEIGHT above o -/
def exH (g : Nat → Int32) (W : Nat → lV) (P H : Nat → Bool) (o u v : Nat) : Prop := u < v ∧ seB g u = true ∧ seB g v = true ∧ kdN g u ≠ kdN g v ∧ o < hgt (swG g u v) W P H 60
/-- the first such pair -/
def exHf (g : Nat → Int32) (W : Nat → lV) (P H : Nat → Bool) (o u v : Nat) : Prop := exH g W P H o u v ∧ ∀ a c, (a < u ∨ (a = u ∧ c < v)) → ¬ exH g W P H o a c
theorem exHf_u {g : Nat → Int32} {W : Nat → lV} {P H : Nat → Bool} {o u v a c : Nat} (h : exHf g W P H o u v) (h2 : exHf g W P H o a c) : a = u ∧ c = v := by
  have n1 := h.2 a c
  have n2 := h2.2 u v
  have m1 : ¬ (a < u ∨ (a = u ∧ c < v)) := fun z => n1 z h2.1
  have m2 : ¬ (u < a ∨ (u = a ∧ v < c)) := fun z => n2 z h.1
  omega
/-- arranged, n times at most: the house then, its HEIGHT, how many times -/
def arR (W : Nat → lV) (P H : Nat → Bool) : Nat → (Nat → Int32) → Nat → (Nat → Int32) → Nat → Nat → Prop
  | 0, g, o, g1, o1, t => g1 = g ∧ o1 = o ∧ t = 0
  | n + 1, g, o, g1, o1, t => ((∀ u v, ¬ exH g W P H o u v) ∧ g1 = g ∧ o1 = o ∧ t = 0) ∨ ∃ u v t1, exHf g W P H o u v ∧ t = t1 + 1 ∧ arR W P H n (swG g u v) (hgt (swG g u v) W P H 60) g1 o1 t1
theorem arR_u {W : Nat → lV} {P H : Nat → Bool} : ∀ (n : Nat) (g : Nat → Int32) (o : Nat) (g1 : Nat → Int32) (o1 t1 : Nat) (g2 : Nat → Int32) (o2 t2 : Nat), arR W P H n g o g1 o1 t1 → arR W P H n g o g2 o2 t2 → g2 = g1 ∧ o2 = o1 ∧ t2 = t1 := by
  intro n
  induction n with
  | zero =>
    intro g o g1 o1 t1 g2 o2 t2 h1 h2
    obtain ⟨a1, a2, a3⟩ := h1
    obtain ⟨b1, b2, b3⟩ := h2
    rw [a1, a2, a3, b1, b2, b3]
    exact ⟨rfl, rfl, rfl⟩
  | succ n ih =>
    intro g o g1 o1 t1 g2 o2 t2 h1 h2
    rcases h1 with ⟨a0, a1, a2, a3⟩ | ⟨u, v, t, k, e, h⟩
    · rcases h2 with ⟨b0, b1, b2, b3⟩ | ⟨u, v, t, k, e, h⟩
      · rw [a1, a2, a3, b1, b2, b3]
        exact ⟨rfl, rfl, rfl⟩
      · exact absurd k.1 (a0 u v)
    · rcases h2 with ⟨b0, b1, b2, b3⟩ | ⟨u2, v2, t0, k2, e2, h2⟩
      · exact absurd k.1 (b0 u v)
      · obtain ⟨q1, q2⟩ := exHf_u k k2
        subst q1 q2
        obtain ⟨r1, r2, r3⟩ := ih _ _ _ _ _ _ _ _ h h2
        exact ⟨r1, r2, by omega⟩
variable {S : Nat × (Nat → Int32)} {d : Nat} {x : mX} {I I1 I2 : rI0} {J J1 J2 : rJ0} {g b : Nat → Int32} {W : Nat → lV} {P H : Nat → Bool} {u v : Nat}
theorem CE.fe (hC : CE g W P H I J) (f : FE g W I J I1 J1) : CE g W P H I1 J1 := ⟨hC.1, f.2.2, hC.2.2.1, by rw [f.2.1 3 (by decide) (by decide)]; exact hC.2.2.2.1, by rw [f.2.1 3 (by decide) (by decide)]; exact hC.2.2.2.2.1, by rw [f.1 4 (by decide)]; exact hC.2.2.2.2.2.1, hC.2.2.2.2.2.2⟩
theorem CE.sw (hC : CE g W P H I J) (hu : seB g u = true) (hv : seB g v = true) (hi : ∀ b, b ≠ 5 → I1 b = I b) (hj : ∀ b, b ≠ 6 → J1 b = J b) (hM : HM (swG g u v) W I1 J1) : CE (swG g u v) W P H I1 J1 := ⟨hC.1.sw hu hv, hM, fun s hs => by rw [sw_se hu hv]; exact hC.2.2.1 s hs, by rw [hj 3 (by decide)]; exact hC.2.2.2.1, by rw [hj 3 (by decide)]; exact hC.2.2.2.2.1, by rw [hi 4 (by decide), sw_n (seB_l hu) (seB_l hv) (Or.inl (by decide))]; exact hC.2.2.2.2.2.1, by rw [sw_n (seB_l hu) (seB_l hv) (Or.inl (by decide))]; exact hC.2.2.2.2.2.2⟩
theorem c97y {o : Nat} {Q : Int32 → rI0 → rJ0 → Prop} (ho : o ≤ 64) (hC : CE g W P H I J) (hk : ∀ s, seB g s = true → kdN g s < 6 ∧ I 5 s = nI (kdN g s)) (k1 : ∀ u v I' J', u < 64 → v < 64 → exHf g W P H o u v → FE g W I J I' J' → Q (nI (64 * u + v)) I' J') (k0 : (∀ u v, ¬ exH g W P H o u v) → ∀ I' J', FE g W I J I' J' → Q (-1) I' J') : wcI S (d + 24) 97 [.ref 37, .int (nI o)] x I J Q := by
  have c1 : nI o + 1 = nI (o + 1) := by rw [nI_succ]
  have ceF : ∀ I1 J1, FE g W I J I1 J1 → CE g W P H I1 J1 := fun I1 J1 f => hC.fe f
  have lp : ∀ (m u : Nat) (I1 : rI0) (J1 : rJ0), u + m = 64 → FE g W I J I1 J1 → (∀ a c, a < u → ¬ exH g W P H o a c) → wp S (d + 24) 97 10 [some (.ref 37), some (.int (nI o)), some (.ref 4), some (.int (nI u)), none, none] [] (wv x I1 J1) (rI x Q) := by
    intro m
    induction m with
    | zero =>
      intro u I1 J1 hu f hn
      exact v97_37_10 ⟨fun q => absurd q (nI_nlt (b := 64) (by omega) (by omega)), fun _ => k0 (fun a c z => by
        have := seB_l z.2.1
        exact hn a c (by omega) z) I1 J1 f⟩
    | succ m ih =>
      intro u I1 J1 hu f hn
      have nxu : (∀ c, ¬ exH g W P H o u c) → ∀ I2 J2, FE g W I J I2 J2 → wp S (d + 24) 97 10 [some (.ref 37), some (.int (nI o)), some (.ref 4), some (.int (nI u + 1)), none, none] [] (wv x I2 J2) (rI x Q) := by
        intro h I2 J2 f2
        rw [← nI_succ]
        refine ih (u + 1) I2 J2 (by omega) f2 (fun a c ha => ?_)
        by_cases z : a = u
        · rw [z]
          exact h c
        · exact hn a c (by omega)
      have inn : ∀ (q v : Nat) (I2 : rI0) (J2 : rJ0), v + q = 64 → FE g W I J I2 J2 → u < v → (∀ c, c < v → ¬ exH g W P H o u c) → wp S (d + 24) 97 21 [some (.ref 37), some (.int (nI o)), some (.ref 4), some (.int (nI u)), some (.int (nI v)), none] [] (wv x I2 J2) (rI x Q) := by
        intro q
        induction q with
        | zero =>
          intro v I2 J2 hv f2 huv hc
          refine v97_37_21 ⟨fun w => absurd w (nI_nlt (b := 64) (by omega) (by omega)), fun _ => nxu (fun c z => ?_) I2 J2 f2⟩
          have := seB_l z.2.2.1
          exact hc c (by omega) z
        | succ q ihq =>
          intro v I2 J2 hv f2 huv hc
          have hC2 := ceF I2 J2 f2
          have nxv : ¬ exH g W P H o u v → ∀ I3 J3, FE g W I J I3 J3 → wp S (d + 24) 97 21 [some (.ref 37), some (.int (nI o)), some (.ref 4), some (.int (nI u)), some (.int (nI v + 1)), none] [] (wv x I3 J3) (rI x Q) := by
            intro h I3 J3 f3
            rw [← nI_succ]
            refine ihq (v + 1) I3 J3 (by omega) f3 (by omega) (fun c ha => ?_)
            by_cases z : c = v
            · rw [z]
              exact h
            · exact hc c (by omega)
          refine v97_37_21 (d := d + 23) ⟨fun _ => cIs hC2.2.1.2.2.2.2.1 (fun u' hu' eu hsu _ => ⟨fun z => absurd z (by decide), fun _ => cIs hC2.2.1.2.2.2.2.1 (fun v' hv' ev hsv _ => ⟨fun z => absurd z (by decide), fun _ => ⟨nI_in (by omega) (by omega), nI_in (by omega) (by omega), ?_⟩⟩) (fun hsi => ⟨fun _ => nxv (fun z => ?_) I2 J2 f2, fun z => absurd rfl z⟩)⟩) (fun hsi => ⟨fun _ => nxu (fun c z => ?_) I2 J2 f2, fun z => absurd rfl z⟩), fun w => absurd (nI_lt (b := 64) (by omega) (by omega)) w⟩
          · have eu : u = u' := nI_inj (by omega) (by omega) eu
            have ev : v = v' := nI_inj (by omega) (by omega) ev
            subst eu
            subst ev
            have hk2 : ∀ s, seB g s = true → kdN g s < 6 ∧ I2 5 s = nI (kdN g s) := fun s hs => by
              rw [f2.1 5 (by decide)]
              exact hk s hs
            have ku := hk2 u hsu
            have kv := hk2 v hsv
            rw [nI_clamp (by omega), nI_clamp (by omega), ku.2, kv.2]
            refine ⟨fun z => nxv (fun w => ?_) I2 J2 f2, fun z => c30x (d := d + 21) hC2.2.1 hsu hsv hk2 (fun I3 J3 fi fj hM3 h5 => ?_)⟩
            · exact w.2.2.2.1 (nI_inj (by omega) (by omega) z)
            · have lu := seB_l hsu
              have lv := seB_l hsv
              have kn : kdN g u ≠ kdN g v := fun w => z (by rw [w])
              rw [c1]
              refine ht_41 (d := d + 1) (P := P) (H := H) (hC2.1.sw hsu hsv) hM3 (fun s hs => by rw [sw_se hsu hsv]; exact hC2.2.2.1 s hs) (by rw [fj 3 (by decide)]; exact hC2.2.2.2.1) (by rw [fj 3 (by decide)]; exact hC2.2.2.2.2.1) (fun I4 J4 r f4 h1 h2 => ?_)
              have hu4 : seB (swG g u v) u = true := by rw [sw_se hsu hsv]; exact hsu
              have hv4 : seB (swG g u v) v = true := by rw [sw_se hsu hsv]; exact hsv
              have hk4 : ∀ s, seB (swG g u v) s = true → kdN (swG g u v) s < 6 ∧ I4 5 s = nI (kdN (swG g u v) s) := fun s hs => by
                rw [sw_se hsu hsv] at hs
                rw [f4.1 5 (by decide), h5 s, sw_kd]
                exact hk2 _ (sw_as hsu hsv hs)
              refine c30x (d := d + 21) (hM3.n41 f4) hu4 hv4 hk4 (fun I5 J5 fi5 fj5 hM5 h55 => ?_)
              rw [sw_sw] at hM5
              have f6 : FE g W I J I5 J5 := by
                refine ⟨fun b hb => ?_, fun b h6 h7 => ?_, hM5⟩
                · by_cases y : b = 5
                  · rw [y, ← f2.1 5 (by decide)]
                    funext s
                    rw [h55, f4.1 5 (by decide), h5]
                    by_cases w : s = u
                    · rw [if_pos w]
                      by_cases w2 : v = u
                      · omega
                      · rw [if_neg w2, if_pos rfl, w]
                    · rw [if_neg w]
                      by_cases w2 : s = v
                      · rw [if_pos w2, if_pos rfl, w2]
                      · rw [if_neg w2, if_neg w, if_neg w2]
                  · rw [fi5 b y, f4.1 b hb, fi b y]
                    exact f2.1 b hb
                · rw [fj5 b h7, f4.2 b h6, fj b h7]
                  exact f2.2.1 b h6 h7
              have a64 := hgt_l (g := swG g u v) (W := W) (P := P) (H := H) (t := 60)
              rw [nI_toInt (by omega)] at h2
              refine ⟨fun w => ?_, fun w => nxv (fun y => ?_) I5 J5 f6⟩
              · have w := (nI_ltI (by omega) (by omega)).mp w
                have kk := k1 u v I5 J5 lu lv ⟨⟨huv, hsu, hsv, kn, by omega⟩, fun a c hac => hac.elim (hn a c) (fun y => by rw [y.1]; exact hc c y.2)⟩ f6
                rw [show (64 : Int32) = nI 64 from rfl, nI_mu, nI_add, Nat.mul_comm u 64]
                exact kk
              · have w : ¬ o < r := fun q => w (nI_lt q (by omega))
                have y5 := y.2.2.2.2
                omega
          · rw [seI_n (by omega), z.2.2.1] at hsi
            cases hsi
          · rw [seI_n (by omega), z.2.1] at hsi
            cases hsi
      refine v97_37_10 ⟨fun _ => ?_, fun q => absurd (nI_lt (b := 64) (by omega) (by omega)) q⟩
      rw [← nI_succ]
      exact inn (64 - (u + 1)) (u + 1) I1 J1 (by omega) f (by omega) (fun c hcu z => by have := z.1; omega)
  exact c97_37 (lp 64 0 I J (by omega) ⟨fun _ _ => rfl, fun _ _ _ => rfl, hC.2.1⟩ (fun a c ha => absurd ha (Nat.not_lt_zero _)))
theorem mS_nk {α : Type} {f : Nat → Nat → α} {a k q : Nat} {v : α} (h : q ≠ k) : mSet f a k v a q = f a q := by
  unfold mSet va_up
  rw [if_pos rfl, if_neg h]
theorem HM.m3 (h : HM g W I J) (hi : ∀ b, 3 ≤ b → b < 15 → I1 b = I b) (hj : ∀ b, 3 ≤ b → b < 15 → J1 b = J b) : HM g W I1 J1 := by
  unfold HM AM at *
  rw [hi 4 (by omega) (by omega), hi 8 (by omega) (by omega), hi 9 (by omega) (by omega), hi 10 (by omega) (by omega), hi 3 (by omega) (by omega), hi 12 (by omega) (by omega), hi 13 (by omega) (by omega), hi 14 (by omega) (by omega), hj 4 (by omega) (by omega), hj 6 (by omega) (by omega), hj 11 (by omega) (by omega)]
  exact h
theorem CE.m3 (h : CE g W P H I J) (hi : ∀ b, 3 ≤ b → b < 15 → I1 b = I b) (hj : ∀ b, 3 ≤ b → b < 15 → J1 b = J b) : CE g W P H I1 J1 := ⟨h.1, h.2.1.m3 hi hj, h.2.2.1, by rw [hj 3 (by omega) (by omega)]; exact h.2.2.2.1, by rw [hj 3 (by omega) (by omega)]; exact h.2.2.2.2.1, by rw [hi 4 (by omega) (by omega)]; exact h.2.2.2.2.2.1, h.2.2.2.2.2.2⟩
/-- what arrange of the class leaves as it was -/
def FAr (I : rI0) (J : rJ0) (I' : rI0) (J' : rJ0) : Prop := (∀ b, ¬ ((31 ≤ b ∧ b ≤ 36) ∨ b = 0 ∨ b = 5 ∨ b = 41) → I' b = I b) ∧ (∀ q, q ≠ 10 → I' 0 q = I 0 q) ∧ ∀ b, ¬ ((31 ≤ b ∧ b ≤ 36) ∨ b = 6 ∨ b = 41) → J' b = J b
def KDs (g : Nat → Int32) (I : rI0) : Prop := ∀ s, seB g s = true → kdN g s < 6 ∧ I 5 s = nI (kdN g s)
theorem KDs.sw (h : KDs g I) (hu : seB g u = true) (hv : seB g v = true) (h5 : ∀ s, I1 5 s = I 5 (if s = u then v else if s = v then u else s)) : KDs (swG g u v) I1 := fun s hs => by
  rw [sw_se hu hv] at hs
  rw [h5 s, sw_kd]
  exact h _ (sw_as hu hv hs)
theorem KDs.mv (h : KDs g I) (e : I1 5 = I 5) : KDs g I1 := fun s hs => by
  rw [e]
  exact h s hs
theorem c135l {Q : Int32 → rI0 → rJ0 → Prop} : ∀ (m t : Nat) (g : Nat → Int32) (o : Nat) (I1 : rI0) (J1 : rJ0), t + m = 20 → o ≤ 64 → CE g W P H I1 J1 → KDs g I1 → FAr I J I1 J1 → (∀ g1 o1 t1 I2 J2, arR W P H m g o g1 o1 t1 → FAr I J I2 J2 → CE g1 W P H I2 J2 → KDs g1 I2 → I2 0 10 = nI (t + t1) → I2 31 6 = 0 → Q (nI o1) I2 J2) → wp S (d + 25) 135 19 [some (.ref 0), some (.int (nI o)), some (.int (nI t)), none] [] (wv x I1 J1) (rI x Q) := by
  have fin : ∀ (g : Nat → Int32) (t : Nat) (I2 : rI0) (J2 : rJ0) (Q2 : rI0 → rJ0 → Prop), CE g W P H I2 J2 → KDs g I2 → FAr I J I2 J2 → (∀ I3, FAr I J I3 J2 → CE g W P H I3 J2 → KDs g I3 → I3 0 10 = nI t → I3 31 6 = 0 → Q2 I3 J2) → wcV S (d + 24) 6 [.ref 31] x (mSet I2 0 10 (nI t)) J2 Q2 := by
    intro g t I2 J2 Q2 hC hk f k
    refine c6_31 (k _ ⟨fun b hb => ?_, fun q hq => ?_, f.2.2⟩ ?_ ?_ ?_ mSet_at)
    · rw [mSet_ne (by omega), mSet_ne (by omega)]
      exact f.1 b hb
    · rw [mSet_ne (by decide), mS_nk hq]
      exact f.2.1 q hq
    · exact hC.m3 (fun b h1 h2 => by rw [mSet_ne (by omega), mSet_ne (by omega)]) (fun _ _ _ => rfl)
    · exact hk.mv (by rw [mSet_ne (by decide), mSet_ne (by decide)])
    · rw [mSet_ne (by decide), mSet_at]
  intro m
  induction m with
  | zero =>
    intro t g o I1 J1 ht ho hC hk f k
    exact v135_0_19 ⟨fun q => absurd q (nI_nlt (b := 20) (by omega) (by omega)), fun _ => fin g t I1 J1 _ hC hk f (fun I3 f3 c3 k3 e1 e2 => k g o 0 I3 J1 ⟨rfl, rfl, rfl⟩ f3 c3 k3 e1 e2)⟩
  | succ m ih =>
    intro t g o I1 J1 ht ho hC hk f k
    refine v135_0_19 (d := d + 24) ⟨fun _ => c97y (d := d) ho hC hk (fun u v I2 J2 hu hv hx f2 => ⟨fun z => absurd z (nI_n1 (by omega)), fun _ => ⟨by decide, by decide, ?_⟩⟩) (fun hn I2 J2 f2 => ⟨fun _ => fin g t I2 J2 _ (hC.fe f2) (hk.mv (f2.1 5 (by decide))) ⟨fun b hb => by rw [f2.1 b (by omega)]; exact f.1 b hb, fun q hq => by rw [f2.1 0 (by decide)]; exact f.2.1 q hq, fun b hb => by rw [f2.2.1 b (by omega) (by omega)]; exact f.2.2 b hb⟩ (fun I3 f3 c3 k3 e1 e2 => k g o 0 I3 J2 (Or.inl ⟨hn, rfl, rfl, rfl⟩) f3 c3 k3 e1 e2), fun z => absurd rfl z⟩), fun q => absurd (nI_lt (b := 20) (by omega) (by omega)) q⟩
    have hsu := hx.1.2.1
    have hsv := hx.1.2.2.1
    rw [show (64 : Int32) = nI 64 from rfl, md32 (by omega) (by omega), dn32 (by omega) (by omega), show (64 * u + v) / 64 = u by omega, show (64 * u + v) % 64 = v by omega]
    have hC2 := hC.fe f2
    have hk2 : KDs g I2 := hk.mv (f2.1 5 (by decide))
    refine c30x (d := d + 22) hC2.2.1 hsu hsv hk2 (fun I3 J3 fi fj hM3 h5 => ?_)
    have hC3 := hC2.sw hsu hsv fi fj hM3
    have hk3 := hk2.sw hsu hsv h5
    refine ht_41 (d := d + 2) (P := P) (H := H) hC3.1 hM3 hC3.2.2.1 hC3.2.2.2.1 hC3.2.2.2.2.1 (fun I4 J4 r f4 h1 h2 => ?_)
    have a64 := hgt_l (g := swG g u v) (W := W) (P := P) (H := H) (t := 60)
    rw [nI_toInt (by omega)] at h2
    have er : r = hgt (swG g u v) W P H 60 := by omega
    subst er
    rw [← nI_succ]
    refine ih (t + 1) (swG g u v) _ I4 J4 (by omega) hgt_l (hC3.a f4.a) (hk3.mv (f4.1 5 (by decide))) ⟨fun b hb => ?_, fun q hq => ?_, fun b hb => ?_⟩ (fun g1 o1 t1 I5 J5 ha f5 c5 k5 e1 e2 => k g1 o1 (t1 + 1) I5 J5 (Or.inr ⟨u, v, t1, hx, rfl, ha⟩) f5 c5 k5 (by rw [e1, Nat.add_assoc, Nat.add_comm 1 t1]) e2)
    · rw [f4.1 b (by omega), fi b (by omega), f2.1 b (by omega)]
      exact f.1 b hb
    · rw [f4.1 0 (by decide), fi 0 (by decide), f2.1 0 (by decide)]
      exact f.2.1 q hq
    · rw [f4.2 b (by omega), fj b (by omega), f2.2.1 b (by omega) (by omega)]
      exact f.2.2 b hb
/-- the class: arrange -/
theorem xArr {Q : Int32 → rI0 → rJ0 → Prop} (hC : CE g W P H I J) (hD : DI g W P H I J) (hk : KDs g I) (k0 : 24 < nb (seB g) 64 → Q (-1) I J) (k1 : nb (seB g) 64 ≤ 24 → ∀ g1 o1 t1 I2 J2, arR W P H 20 g (hgt g W P H 60) g1 o1 t1 → FAr I J I2 J2 → CE g1 W P H I2 J2 → KDs g1 I2 → I2 0 10 = nI t1 → I2 31 6 = 0 → Q (nI o1) I2 J2) : wcI S (d + 25) 135 [.ref 0] x I J Q := by
  have n64 := nb_le (p := seB g) 64
  refine c135_0 (d := d + 24) (c140_0 (d := d + 23) (bcX ?_))
  rw [pc_se hC.2.1.2.2.2.2.1]
  refine ⟨fun q => ⟨fun z => absurd z (by decide), fun _ => k0 ((nI_ltI (a := 24) (by omega) (by omega)).mp q)⟩, fun q => ⟨fun _ => hg_31 (d := d + 1) hC hD (fun I2 J2 f2 hD2 => ?_), fun z => absurd rfl z⟩⟩
  have q : ¬ 24 < nb (seB g) 64 := fun w => q (nI_lt (a := 24) w (by omega))
  exact c135l 20 0 g _ I2 J2 (by omega) hgt_l (hC.fd f2) (hk.mv (f2.1 5 (by omega))) ⟨fun b hb => f2.1 b (by omega), fun q _ => by rw [f2.1 0 (by omega)], fun b hb => f2.2 b (by omega)⟩ (fun g1 o1 t1 I3 J3 ha f3 c3 k3 e1 e2 => k1 (by omega) g1 o1 t1 I3 J3 ha f3 c3 k3 (by rw [e1, Nat.zero_add]) e2)
end TRI
