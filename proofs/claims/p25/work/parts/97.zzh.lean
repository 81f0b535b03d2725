section
/-! pay, hiss, exchange, image, restore, seat: exactly -/
section TRM
variable {S : Nat × (Nat → Int32)} {d : Nat} {x : mX} {I I1 I2 : rI0} {J J1 J2 : rJ0} {g b : Nat → Int32} {W : Nat → lV} {P H : Nat → Bool}
def r01 (p : Int32) : Bool := decide (((0 : Nat) : Int) ≤ p.toInt ∧ p.toInt ≤ ((1 : Nat) : Int))
theorem r01_t {p : Int32} (h0 : ¬ p < 0) (h1 : ¬ 1 < p) : ∃ e, e ≤ 1 ∧ p = nI e ∧ r01 p = true := by
  obtain ⟨e, he, ee⟩ := i_nat (n := 1) (by omega) h0 h1
  refine ⟨e, he, ee, ?_⟩
  rw [ee]
  unfold r01
  rw [nI_toInt (by omega)]
  exact decide_eq_true (by omega)
theorem r01_0 {p : Int32} (h : p < 0) : r01 p = false := by
  have h := i_lt h
  rw [show (0 : Int32).toInt = 0 by decide] at h
  exact decide_eq_false (by omega)
theorem r01_1 {p : Int32} (h : 1 < p) : r01 p = false := by
  have h := i_lt h
  rw [show (1 : Int32).toInt = 1 by decide] at h
  exact decide_eq_false (by omega)
/-- a bit put -/
def wbB (v : Int64) (s e : Nat) (w : Int64) : Prop := e ≤ 1 ∧ ∀ u, u < 64 → bits5 w u = if u = s then decide (e = 1) else bits5 v u
theorem wbB_u {v w w2 : Int64} {s e : Nat} (h : wbB v s e w) (h2 : wbB v s e w2) : w2 = w := b5_ext (fun u hu => (h2.2 u hu).trans (h.2 u hu).symm)
theorem xPay {p1 p2 : Int32} {Q : Int32 → rI0 → rJ0 → Prop} (hb : ∀ s, s < 64 → bits5 (J 4 5) s = seB g s) (k0 : (seI g p1 && r01 p2) = false → Q 0 I J) (k1 : ∀ s e w, p1 = nI s → p2 = nI e → seB g s = true → (seI g p1 && r01 p2) = true → wbB (J 3 5) s e w → Q 1 (mSet I 31 6 0) (mSet J 3 5 w)) : wcI S (d + 1) 105 [.ref 0, .int p1, .int p2] x I J Q := by
  refine c105_0 (cIs hb (fun s hs es hse hsi => ⟨fun z => absurd z (by decide), fun _ => ⟨fun q => k0 (by rw [r01_0 q, Bool.and_false]), fun q0 => ⟨fun q => k0 (by rw [r01_1 q, Bool.and_false]), fun q1 => c143 (c6_31 ?_)⟩⟩⟩) (fun hsi => ⟨fun _ => k0 (by rw [hsi, Bool.false_and]), fun z => absurd rfl z⟩))
  obtain ⟨e, he, ee, er⟩ := r01_t q0 q1
  refine k1 s e _ es ee hse (by rw [hsi, er]; rfl) ⟨he, fun u hu => ?_⟩
  rw [es, ee]
  exact b5_w hs he hu
theorem xHiss {p1 p2 : Int32} {Q : Int32 → rI0 → rJ0 → Prop} (hb : ∀ s, s < 64 → bits5 (J 4 5) s = seB g s) (k0 : (seI g p1 && r01 p2) = false → Q 0 I J) (k1 : ∀ s e w, p1 = nI s → p2 = nI e → seB g s = true → (seI g p1 && r01 p2) = true → wbB (J 3 6) s e w → Q 1 (mSet I 31 6 0) (mSet J 3 6 w)) : wcI S (d + 1) 106 [.ref 0, .int p1, .int p2] x I J Q := by
  refine c106_0 (cIs hb (fun s hs es hse hsi => ⟨fun z => absurd z (by decide), fun _ => ⟨fun q => k0 (by rw [r01_0 q, Bool.and_false]), fun q0 => ⟨fun q => k0 (by rw [r01_1 q, Bool.and_false]), fun q1 => c143 (c6_31 ?_)⟩⟩⟩) (fun hsi => ⟨fun _ => k0 (by rw [hsi, Bool.false_and]), fun z => absurd rfl z⟩))
  obtain ⟨e, he, ee, er⟩ := r01_t q0 q1
  refine k1 s e _ es ee hse (by rw [hsi, er]; rfl) ⟨he, fun u hu => ?_⟩
  rw [es, ee]
  exact b5_w hs he hu
theorem wb_or {v : Int64} {s : Nat} (hs : s < 64) : wbB v s 1 (v ||| ((1 : Int64) <<< ((nI s).toInt64 &&& 63))) := ⟨Nat.le_refl _, fun u hu => by
  rw [b5_or, b5_1 hs]
  by_cases z : u = s
  · rw [if_pos z, decide_eq_true z, Bool.or_true]
    rfl
  · rw [if_neg z, decide_eq_false z, Bool.or_false]⟩
theorem wb_an {v : Int64} {s : Nat} (hs : s < 64) : wbB v s 0 (v &&& (((1 : Int64) <<< ((nI s).toInt64 &&& 63)) ^^^ (-1 : Int64))) := ⟨Nat.zero_le _, fun u hu => by
  rw [b5_and, b5_not hu, b5_1 hs]
  by_cases z : u = s
  · rw [if_pos z, decide_eq_true z, Bool.not_true, Bool.and_false]
    rfl
  · rw [if_neg z, decide_eq_false z, Bool.not_false, Bool.and_true]⟩
theorem yPay {p1 p2 : Int32} {Q : Int32 → rI0 → rJ0 → Prop} (hR : RH g W I J) (k0 : (seI g p1 && r01 p2) = false → Q 0 (mSet I 43 0 0) J) (k1 : ∀ s e w, p1 = nI s → p2 = nI e → seB g s = true → (seI g p1 && r01 p2) = true → wbB (J 43 16) s e w → Q 1 (mSet I 43 0 0) (mSet J 43 16 w)) : wcI S (d + 2) 190 [.ref 43, .int p1, .int p2] x I J Q := by
  refine c190_43 (d := d + 1) (rIs (d := d) hR.1 hR.2.1 (hR.q (v := 0) (q := 0) (by decide)).2.2.2.2.1 (fun s hs es hse hsi => ⟨fun z => absurd z (by decide), fun _ => rIn (a := 0) (b := 1) (by decide) (by decide) (by omega) (fun e _ he ee er => ⟨fun z => absurd z (by decide), fun _ => ⟨fun q => ?_, fun q => ?_⟩⟩) (fun er => ⟨fun _ => k0 (by rw [show r01 p2 = false from er, Bool.and_false]), fun z => absurd rfl z⟩)⟩) (fun hsi => ⟨fun _ => k0 (by rw [hsi, Bool.false_and]), fun z => absurd rfl z⟩))
  · refine k1 s 1 _ es q hse (by rw [hsi, show r01 p2 = true from er]; rfl) ?_
    rw [es]
    exact wb_or hs
  · have : e = 0 := by
      have : e ≠ 1 := fun z => q (by rw [ee, z]; rfl)
      omega
    subst this
    refine k1 s 0 _ es ee hse (by rw [hsi, show r01 p2 = true from er]; rfl) ?_
    rw [es]
    exact wb_an hs
theorem yHiss {p1 p2 : Int32} {Q : Int32 → rI0 → rJ0 → Prop} (hR : RH g W I J) (k0 : (seI g p1 && r01 p2) = false → Q 0 (mSet I 43 0 0) J) (k1 : ∀ s e w, p1 = nI s → p2 = nI e → seB g s = true → (seI g p1 && r01 p2) = true → wbB (J 43 17) s e w → Q 1 (mSet I 43 0 0) (mSet J 43 17 w)) : wcI S (d + 2) 191 [.ref 43, .int p1, .int p2] x I J Q := by
  refine c191_43 (d := d + 1) (rIs (d := d) hR.1 hR.2.1 (hR.q (v := 0) (q := 0) (by decide)).2.2.2.2.1 (fun s hs es hse hsi => ⟨fun z => absurd z (by decide), fun _ => rIn (a := 0) (b := 1) (by decide) (by decide) (by omega) (fun e _ he ee er => ⟨fun z => absurd z (by decide), fun _ => ⟨fun q => ?_, fun q => ?_⟩⟩) (fun er => ⟨fun _ => k0 (by rw [show r01 p2 = false from er, Bool.and_false]), fun z => absurd rfl z⟩)⟩) (fun hsi => ⟨fun _ => k0 (by rw [hsi, Bool.false_and]), fun z => absurd rfl z⟩))
  · refine k1 s 1 _ es q hse (by rw [hsi, show r01 p2 = true from er]; rfl) ?_
    rw [es]
    exact wb_or hs
  · have : e = 0 := by
      have : e ≠ 1 := fun z => q (by rw [ee, z]; rfl)
      omega
    subst this
    refine k1 s 0 _ es ee hse (by rw [hsi, show r01 p2 = true from er]; rfl) ?_
    rw [es]
    exact wb_an hs
/-- exchange -/
def exgB (g : Nat → Int32) (p1 p2 : Int32) : Bool := seI g p1 && (seI g p2 && !decide (p1 = p2))
theorem xExg {p1 p2 : Int32} {Q : Int32 → rI0 → rJ0 → Prop} (hC : CE g W P H I J) (hk : KDs g I) (k0 : exgB g p1 p2 = false → Q 0 I J) (k1 : ∀ u v I' J', p1 = nI u → p2 = nI v → seB g u = true → seB g v = true → exgB g p1 p2 = true → (∀ b, b ≠ 5 → b ≠ 31 → I' b = I b) → (∀ b, b ≠ 6 → J' b = J b) → CE (swG g u v) W P H I' J' → KDs (swG g u v) I' → I' 31 6 = 0 → Q 1 I' J') : wcI S (d + 3) 131 [.ref 0, .int p1, .int p2] x I J Q := by
  have hb := hC.2.1.2.2.2.2.1
  refine c131_0 (d := d + 2) (cIs hb (fun u hu eu hsu hiu => ⟨fun z => absurd z (by decide), fun _ => cIs hb (fun v hv ev hsv hiv => ⟨fun z => absurd z (by decide), fun _ => ⟨fun q => k0 ?_, fun q => ?_⟩⟩) (fun hi => ⟨fun _ => k0 ?_, fun z => absurd rfl z⟩)⟩) (fun hi => ⟨fun _ => k0 ?_, fun z => absurd rfl z⟩))
  · unfold exgB
    rw [decide_eq_true q, Bool.not_true, Bool.and_false, Bool.and_false]
  · subst eu ev
    refine c30x (d := d) hC.2.1 hsu hsv hk (fun I3 J3 fi fj hM h5 => c6_31 (k1 u v _ J3 rfl rfl hsu hsv ?_ (fun b h1 h2 => (mSet_ne h2).trans (fi b h1)) fj ?_ ?_ mSet_at))
    · unfold exgB
      rw [hiu, hiv, decide_eq_false q]
      rfl
    · exact (hC.sw hsu hsv fi fj hM).m3 (fun b h1 h2 => mSet_ne (by omega)) (fun _ _ _ => rfl)
    · have hk3 : KDs (swG g u v) I3 := KDs.sw hk hsu hsv h5
      exact hk3.mv (mSet_ne (by decide))
  · unfold exgB
    rw [hi, Bool.false_and, Bool.and_false]
  · unfold exgB
    rw [hi, Bool.false_and]
theorem yExg {p1 p2 : Int32} {Q : Int32 → rI0 → rJ0 → Prop} (hR : RH g W I J) (k0 : exgB g p1 p2 = false → Q 0 (mSet I 43 0 0) J) (k1 : ∀ u v I', p1 = nI u → p2 = nI v → seB g u = true → seB g v = true → exgB g p1 p2 = true → (∀ b, b ≠ 43 → b ≠ 45 → I' b = I b) → (∀ q, q ≠ 0 → I' 43 q = I 43 q) → RH (swG g u v) W I' J → Q 1 I' J) : wcI S (d + 2) 235 [.ref 43, .int p1, .int p2] x I J Q := by
  have r1 : RH g W (mSet I 43 0 0) J := hR.q (by decide)
  refine c235_43 (d := d + 1) (rIs (d := d) hR.1 hR.2.1 r1.2.2.2.2.1 (fun u hu eu hsu hiu => ⟨fun z => absurd z (by decide), fun _ => rIs (d := d) hR.1 hR.2.1 r1.2.2.2.2.1 (fun v hv ev hsv hiv => ⟨fun z => absurd z (by decide), fun _ => ⟨fun q => k0 ?_, fun q => ?_⟩⟩) (fun hi => ⟨fun _ => k0 ?_, fun z => absurd rfl z⟩)⟩) (fun hi => ⟨fun _ => k0 ?_, fun z => absurd rfl z⟩))
  · unfold exgB
    rw [decide_eq_true q, Bool.not_true, Bool.and_false, Bool.and_false]
  · subst eu ev
    refine r232x hu hv r1.2.2.2.2.1 (fun I3 f3 e3 => k1 u v I3 rfl rfl hsu hsv ?_ (fun b h1 h2 => (f3 b h2).trans (mSet_ne h1)) (fun q hq => by rw [f3 43 (by decide), mS_nk hq]) (r1.sw hsu hsv e3 (by rw [f3 43 (by decide)])))
    unfold exgB
    rw [hiu, hiv, decide_eq_false q]
    rfl
  · unfold exgB
    rw [hi, Bool.false_and, Bool.and_false]
  · unfold exgB
    rw [hi, Bool.false_and]
/-! image and restore -/
theorem yImage {p : Int32} {Q : Int32 → rI0 → rJ0 → Prop} (k0 : p < 0 ∨ 1 < p → Q 0 (mSet I 43 0 0) J) (k1 : ∀ t I', t < 2 → p = nI t → (∀ b, b ≠ 43 → b ≠ 63 → b ≠ 66 → I' b = I b) → (∀ q, q ≠ 0 → I' 43 q = I 43 q) → (∀ i, i < 681 → I' 63 (681 * t + i) = I 45 i) → (∀ j, ¬ (681 * t ≤ j ∧ j < 681 * t + 681) → I' 63 j = I 63 j) → Q 1 I' (mSet (mSet J 64 t (J 43 16)) 65 t (J 43 17))) : wcI S (d + 1) 243 [.ref 43, .int p] x I J Q := by
  refine c243_43 (c151 ⟨fun q => ⟨fun _ => k0 (Or.inl q), fun z => absurd rfl z⟩, fun q0 => ⟨fun q => ⟨fun _ => k0 (Or.inr q), fun z => absurd rfl z⟩, fun q1 => ⟨fun z => absurd z (by decide), fun _ => ?_⟩⟩⟩)
  obtain ⟨t, ht, et⟩ := i_nat (n := 1) (by omega) q0 q1
  subst et
  refine img_lp (by omega) 681 0 _ (by omega) (fun I' o1 o2 o3 => k1 t _ (by omega) rfl (fun b h1 h2 h3 => ?_) (fun q hq => ?_) (fun i hi => ?_) (fun j hj => ?_))
  · rw [mSet_ne h3, o1 b h2, mSet_ne h1]
  · rw [mSet_ne (by decide), o1 43 (by decide), mS_nk hq]
  · rw [mSet_ne (by decide), o2 i (by omega) hi, mSet_ne (by decide)]
  · rw [mSet_ne (by decide), o3 j (by omega), mSet_ne (by decide)]
theorem yRestore {p : Int32} {Q : Int32 → rI0 → rJ0 → Prop} (k0 : p < 0 ∨ 1 < p ∨ I 66 p.toNatClampNeg = 0 → Q 0 (mSet I 43 0 0) J) (k1 : ∀ t I', t < 2 → p = nI t → ¬ I 66 t = 0 → (∀ b, b ≠ 43 → b ≠ 45 → I' b = I b) → (∀ q, q ≠ 0 → q ≠ 30 → I' 43 q = I 43 q) → I' 43 30 = 1 → (∀ i, i < 681 → I' 45 i = I 63 (681 * t + i)) → Q 1 I' (mSet (mSet J 43 16 (J 64 t)) 43 17 (J 65 t))) : wcI S (d + 1) 244 [.ref 43, .int p] x I J Q := by
  refine c244_43 (c151 ⟨fun q => ⟨fun _ => k0 (Or.inl q), fun z => absurd rfl z⟩, fun q0 => ⟨fun q => ⟨fun _ => k0 (Or.inr (Or.inl q)), fun z => absurd rfl z⟩, fun q1 => ⟨fun z => absurd z (by decide), fun _ => ?_⟩⟩⟩)
  obtain ⟨t, ht, et⟩ := i_nat (n := 1) (by omega) q0 q1
  subst et
  refine ⟨nI_in (by omega) (by omega), fun z => k0 (Or.inr (Or.inr z)), fun nz => rst_lp (by omega) 681 0 _ (by omega) (fun I' o1 o2 _ => k1 t _ (by omega) rfl ?_ (fun b h1 h2 => ?_) (fun q h1 h2 => ?_) mSet_at (fun i hi => ?_))⟩
  · rw [nI_clamp (by omega)] at nz
    exact nz
  · rw [mSet_ne h1, o1 b h2, mSet_ne h1]
  · rw [mS_nk h2, o1 43 (by decide), mS_nk h1]
  · rw [mSet_ne (by decide), o2 i (by omega) hi, mSet_ne (by decide)]
theorem xRestore {p : Int32} {Q : Int32 → rI0 → rJ0 → Prop} (hx : KX x I J) (k0 : p < 0 ∨ 1 < p ∨ x.2.1 27 p.toNatClampNeg = none → Q 0 I J) (k1 : ∀ t a, t < 2 → p = nI t → 68 ≤ a → x.2.1 27 t = some a → ∀ I' J', (∀ b, ¬ (3 ≤ b ∧ b ≤ 14) → b ≠ 31 → I' b = I b) → (∀ b, ¬ (3 ≤ b ∧ b ≤ 14) → J' b = J b) → I' 31 6 = 0 → CPe a 3 I J I' J' → Q 1 I' J') : wcI S (d + 4) 138 [.ref 0, .int p] x I J Q := by
  show wp S (d + 4) 138 0 [some (.ref 0), some (.int p)] [] (wv x I J) (rI x Q)
  have l2 : (2 : Int32).toInt = 2 := by decide
  have l1 : (1 : Int32).toInt = 1 := by decide
  have z18 : (p < 0 ∨ 1 < p ∨ x.2.1 27 p.toNatClampNeg = none) → wp S (d + 4) 138 18 [some (.ref 0), some (.int p)] [] (wv x I J) (rI x Q) := by
    intro z
    refine wp_seg (C := gC138) (pc1 := 19) (Lo1 := [some (.ref 0), some (.int p)]) (st1' := [.int (0 : Int32)]) (w1 := (wv x I J)) rfl 1 rfl ?_
    exact we_z rfl rfl (Or.inl rfl) (k0 z)
  refine wp_seg (C := gC138) (pc1 := 1) (Lo1 := [some (.ref 0), some (.int p)]) (st1' := [.int p]) (w1 := (wv x I J)) rfl 1 rfl ?_
  refine wi_lt (tgt := 18) rfl rfl (fun q => z18 (Or.inl q)) (fun q0 => ?_)
  refine wp_seg (C := gC138) (pc1 := 6) (Lo1 := [some (.ref 0), some (.int p)]) (st1' := [.int (2 : Int32), .int p]) (w1 := (wv x I J)) rfl 2 rfl ?_
  refine wj_ge (tgt := 18) rfl rfl (fun q2 => ?_) (fun q2 => z18 (Or.inr (Or.inl (Int32.lt_iff_toInt_lt.mpr (by have := i_nlt q2; omega)))))
  have q2 := i_lt q2
  have q1 : ¬ 1 < p := fun z => by have := i_lt z; omega
  obtain ⟨t, ht, et⟩ := i_nat (n := 1) (by omega) q0 q1
  subst et
  refine wp_seg (C := gC138) (pc1 := 14) (Lo1 := [some (.ref 0), some (.int (nI t))]) (st1' := [.int (nI t), .ref 27]) (w1 := (wv x I J)) rfl 3 rfl ?_
  refine wa_a (n := 2) rfl rfl (nI_in (by omega) (by omega)) ?_
  rw [nI_clamp (by omega)]
  rcases hx t (by omega) with z | ⟨a, ha, e, ev, hv, hr⟩
  · rw [show rf x 27 t = none from z]
    refine wp_nl (off := 5) rfl ?_
    exact z18 (Or.inr (Or.inr (by rw [nI_clamp (by omega)]; exact z)))
  · rw [show rf x 27 t = some a from e]
    refine wp_nn (off := 5) rfl ?_
    show wp S (d + 4) 138 20 [some (.ref 0), some (.int (nI t))] [] (wv x I J) (rI x Q)
    refine wp_seg (C := gC138) (pc1 := 29) (Lo1 := [some (.ref 0), some (.int (nI t))]) (st1' := [.int (nI t), .ref 27, .ref 3]) (w1 := (wv x I J)) rfl 5 rfl ?_
    refine wa_a (n := 2) rfl rfl (nI_in (by omega) (by omega)) ?_
    rw [nI_clamp (by omega), show rf x 27 t = some a from e]
    show wp S (d + 4) 138 30 [some (.ref 0), some (.int (nI t))] [.ref a, .ref 3] (wv x I J) (rI x Q)
    refine cv_V (mj := 15) (a := 3) (as := [.ref a]) (r := []) rfl rfl rfl ⟨rfl, by decide, Nat.le_of_ble_eq_true rfl, Nat.le_of_ble_eq_true rfl⟩ rfl (tAll (d := d + 1) EvX3 ev (Or.inl (by omega)) hv.2.2.1 (fun I' J' f g v => ?_))
    refine wp_seg (C := gC138) (pc1 := 37) (Lo1 := [some (.ref 0), some (.int (nI t))]) (st1' := [.ref 31]) (w1 := (wv x I' J')) rfl 2 rfl ?_
    refine cv_V (mj := 6) (a := 31) (as := []) (r := []) rfl rfl rfl ⟨rfl, by decide, Nat.le_of_ble_eq_true rfl, Nat.le_of_ble_eq_true rfl⟩ rfl (c6_31 ?_)
    refine wp_seg (C := gC138) (pc1 := 41) (Lo1 := [some (.ref 0), some (.int (nI t))]) (st1' := [.int (1 : Int32)]) (w1 := (wv x (mSet I' 31 6 0) J')) rfl 1 rfl ?_
    exact we_z rfl rfl (Or.inr rfl) (k1 t a (by omega) rfl ha e _ _ (fun b h1 h2 => by rw [mSet_ne h2]; exact f b (by omega)) (fun b h1 => g b (by omega)) mSet_at ⟨fun q hq => (by rw [mSet_ne (by decide)]; exact v.1 q hq), v.2.1, fun s hs => (by rw [mSet_ne (by decide)]; exact v.2.2.1 s hs), v.2.2.2.1, fun r hr => (by rw [mSet_ne (by decide)]; exact v.2.2.2.2.1 r hr), fun r hr => (by rw [mSet_ne (by decide)]; exact v.2.2.2.2.2.1 r hr), fun l hl => (by rw [mSet_ne (by decide)]; exact v.2.2.2.2.2.2.1 l hl), fun i hi => (by rw [mSet_ne (by decide)]; exact v.2.2.2.2.2.2.2.1 i hi), v.2.2.2.2.2.2.2.2.1, (by rw [mSet_ne (by decide)]; exact v.2.2.2.2.2.2.2.2.2.1), fun i hi => (by rw [mSet_ne (by decide), mSet_ne (by decide), mSet_ne (by decide)]; exact v.2.2.2.2.2.2.2.2.2.2.1 i hi), v.2.2.2.2.2.2.2.2.2.2.2.1, v.2.2.2.2.2.2.2.2.2.2.2.2⟩)
/-! seat -/
def stB4 (g : Nat → Int32) (p1 p2 : Int32) : Bool := seI g p1 && decide (((0 : Nat) : Int) ≤ p2.toInt ∧ p2.toInt ≤ ((4 : Nat) : Int))
def seatV (g : Nat → Int32) (P H : Nat → Bool) (s : Nat) (p2 : Int32) : Int32 := if p2 = 0 then nI (kdN g s) else if p2 = 1 then nI (gN g (70 + s / gN g 1)) else if p2 = 2 then nI (gN g (78 + s / gN g 1)) - 1 else if p2 = 3 then nI (if P s = true then 1 else 0) else nI (if H s = true then 1 else 0)
theorem lv_m (hM : HM g W I J) {r : Nat} (hr : r < 8) : I 8 r = nI (gN g (78 + r)) - 1 := by
  rcases hM.2.2.2.2.2.2.1 r hr with ⟨h1, h2⟩ | ⟨m, h1, h2, h3⟩
  · rw [h1, h2]
    decide
  · rw [h2, h3, nI_pr]
theorem c27x {s : Nat} {Q : Int32 → rI0 → rJ0 → Prop} (hG : GA g) (hM : HM g W I J) (hse : seB g s = true) (k : Q (nI (gN g (78 + s / gN g 1)) - 1) I J) : wcI S (d + 2) 27 [.ref 4, .int (nI s)] x I J Q := by
  obtain ⟨hc, hr, hm⟩ := seC hG hse
  have hs := seB_l hse
  have sl := (hG.2.2.2.2.1 s hse).1
  have h8 := hG.1
  have h8c := hG.2.1
  have hRC : gN g 0 * gN g 1 ≤ 64 := Nat.le_trans (Nat.mul_le_mul h8 h8c) (by omega)
  have e1 : nI s / nI (gN g 1) = nI (s / gN g 1) := by
    rw [← Int32.toInt_inj, (i_div (nI_toInt (show s < 2 ^ 31 by omega)) (nI_toInt (show gN g 1 < 2 ^ 31 by omega)) (by omega) (by omega)).1, nI_toInt (by omega)]
    exact (Int.natCast_ediv s (gN g 1)).symm
  refine c27_4 (c25_4 ⟨fun _ => ⟨fun q => absurd q (nI_nlt (b := 0) (by omega) (by omega)), fun _ => c23_4 ⟨fun _ => ⟨?_, ?_, ?_⟩, fun q => absurd ?_ q⟩⟩, fun q => absurd ?_ q⟩)
  · rw [hM.2.1]
    exact fun z => absurd (nI_ij (b := 0) (by omega) (by omega) z) (by omega)
  · rw [hM.2.1, e1]
    exact nI_in (by omega) (by omega)
  · rw [hM.2.1, e1, nI_clamp (by omega), lv_m hM (by omega)]
    exact k
  · rw [hM.1, hM.2.1, nI_mu]
    exact nI_lt sl (by omega)
  · rw [hM.2.1]
    exact nI_lt (a := 0) hc (by omega)
theorem p_eq {p : Int32} {n : Nat} (hn : n < 2 ^ 31) (h : p.toInt = (n : Int)) : p = nI n := Int32.toInt_inj.mp (by rw [h, nI_toInt hn])
/-- the class: seat -/
theorem xSeat {p1 p2 : Int32} {T : mX → rI0 → rJ0 → Prop} {Q : Int32 → rI0 → rJ0 → Prop} (hC : CE g W P H I J) (hk : KDs g I) (hp : ∀ r, r < 8 → I 7 r = nI (gN g (70 + r))) (kt : stB4 g p1 p2 = false → 68 + x.1.length < 1000000 ∧ T (xA x (0, 11) 6) (va_up I (68 + x.1.length) (fun _ => 0)) (va_up J (68 + x.1.length) (fun _ => 0))) (k : ∀ s, s < 64 → p1 = nI s → stB4 g p1 p2 = true → Q (seatV g P H s p2) I J) : wcT S (d + 3) 103 [.ref 0, .int p1, .int p2] x I J T Q := by
  have l0 : (0 : Int32).toInt = 0 := by decide
  have l4 : (4 : Int32).toInt = 4 := by decide
  refine c103_0 (d := d + 2) (cIs hC.2.1.2.2.2.2.1 (fun s hs es hse hsi => ⟨fun z => absurd z (by decide), fun _ => ⟨fun q => kt ?_, fun q0 => ⟨fun q => kt ?_, fun q4 => ?_⟩⟩⟩) (fun hsi => ⟨fun _ => kt ?_, fun z => absurd rfl z⟩))
  · have q := i_lt q
    unfold stB4
    rw [decide_eq_false (by omega), Bool.and_false]
  · have q := i_lt q
    unfold stB4
    rw [decide_eq_false (by omega), Bool.and_false]
  · have q0 := i_nlt q0
    have q4 := i_nlt q4
    have K := k s hs es (by
      unfold stB4
      rw [hsi, decide_eq_true (by omega)]
      rfl)
    subst es
    unfold seatV at K
    refine ⟨fun z => bO hs ?_, fun z => ⟨nI_in (by omega) (by omega), ?_⟩, fun z => c26x (d := d) hC.1 hC.2.1 hp hse ?_, fun z => c27x (d := d) hC.1 hC.2.1 hse ?_, fun z => bO hs ?_, trivial⟩
    · have e := p_eq (n := 4) (by omega) (show p2.toInt = ((4 : Nat) : Int) by omega)
      subst e
      rw [if_neg (by decide), if_neg (by decide), if_neg (by decide), if_neg (by decide)] at K
      rw [hC.2.2.2.2.1 s hs]
      exact K
    · have e := p_eq (n := 0) (by omega) (show p2.toInt = ((0 : Nat) : Int) by omega)
      subst e
      rw [if_pos (by decide)] at K
      rw [nI_clamp (by omega), (hk s hse).2]
      exact K
    · have e := p_eq (n := 1) (by omega) (show p2.toInt = ((1 : Nat) : Int) by omega)
      subst e
      rw [if_neg (by decide), if_pos (by decide)] at K
      exact K
    · have e := p_eq (n := 2) (by omega) (show p2.toInt = ((2 : Nat) : Int) by omega)
      subst e
      rw [if_neg (by decide), if_neg (by decide), if_pos (by decide)] at K
      exact K
    · have e := p_eq (n := 3) (by omega) (show p2.toInt = ((3 : Nat) : Int) by omega)
      subst e
      rw [if_neg (by decide), if_neg (by decide), if_neg (by decide), if_pos (by decide)] at K
      rw [hC.2.2.2.1 s hs]
      exact K
  · unfold stB4
    rw [hsi, Bool.false_and]
/-- the reference: seat -/
theorem ySeat {p1 p2 : Int32} {Q : Int32 → rI0 → rJ0 → Prop} (hR : RH g W I J) (e16 : ∀ s, s < 64 → bits5 (J 43 16) s = P s) (e17 : ∀ s, s < 64 → bits5 (J 43 17) s = H s) (kt : stB4 g p1 p2 = false → Q 0 (mSet I 43 0 1) J) (k : ∀ s, s < 64 → p1 = nI s → stB4 g p1 p2 = true → Q (seatV g P H s p2) (mSet I 43 0 0) J) : wcI S (d + 2) 187 [.ref 43, .int p1, .int p2] x I J Q := by
  obtain ⟨-, z1, -, -, -, -⟩ := k0c
  have T : stB4 g p1 p2 = false → wp S (d + 2) 187 23 [some (.ref 43), some (.int p1), some (.int p2)] [.int (1), .ref 43] (wv x I J) (rI x Q) := fun z => v187_43_23 (d := d + 1) (c146_43 ⟨fun y => absurd y (by decide), fun _ => ⟨Or.inr rfl, fun y => absurd y (by decide), fun _ => kt z⟩⟩)
  refine c187_43 (d := d + 1) (rIs (d := d) hR.1 hR.2.1 hR.2.2.2.2.1 (fun s hs es hse hsi => ⟨fun z => absurd z (by decide), fun _ => rIn (a := 0) (b := 4) (by decide) (by decide) (by omega) (fun e _ he ee er => ⟨fun z => absurd z (by decide), fun _ => ?_⟩) (fun er => ⟨fun _ => T ?_, fun z => absurd rfl z⟩)⟩) (fun hsi => ⟨fun _ => T ?_, fun z => absurd rfl z⟩))
  · have K := k s hs es (by
      unfold stB4
      rw [hsi, er]
      rfl)
    have r1 : RH g W (mSet I 43 0 0) J := hR.q (by decide)
    have hG := hR.1
    have hI := hR.2.1
    obtain ⟨hc, hr, hm⟩ := seC hG hse
    have h8 := hG.1
    have h8c := hG.2.1
    have e1 : nI s / nI (gN g 1) = nI (s / gN g 1) := by
      rw [← Int32.toInt_inj, (i_div (nI_toInt (show s < 2 ^ 31 by omega)) (nI_toInt (show gN g 1 < 2 ^ 31 by omega)) (by omega) (by omega)).1, nI_toInt (by omega)]
      exact (Int.natCast_ediv s (gN g 1)).symm
    have te : p2.toInt = (e : Int) := by rw [ee, nI_toInt (by omega)]
    subst es
    unfold seatV at K
    refine v187_43_23 (d := d + 1) (c146_43 ⟨fun _ => ⟨Or.inl rfl, fun _ => ⟨fun z => ?_, fun z => ⟨?_, ?_⟩, fun z => r188x hG hI r1.2.2.2.2.1 hse ?_, fun z => ?_, fun z => ?_, trivial⟩, fun y => absurd rfl y⟩, fun y => absurd rfl y⟩)
    · have e := p_eq (n := 4) (by omega) (show p2.toInt = ((4 : Nat) : Int) by omega)
      rw [e, if_neg (by decide), if_neg (by decide), if_neg (by decide), if_neg (by decide), ← e17 s hs] at K
      refine c153 ⟨fun y => ⟨fun z => absurd z (by decide), fun _ => ?_⟩, fun y => ⟨fun _ => ?_, fun z => absurd rfl z⟩⟩
      · rw [if_pos (show bits5 (J 43 17) s = true from (hb_iff hs).mp y)] at K
        exact K
      · rw [if_neg (show ¬ bits5 (J 43 17) s = true from fun w => y ((hb_iff hs).mpr w))] at K
        exact K
    · rw [show (6 : Int32) = nI 6 from rfl, nI_add]
      exact nI_in (by omega) (by omega)
    · have e := p_eq (n := 0) (by omega) (show p2.toInt = ((0 : Nat) : Int) by omega)
      rw [e, if_pos (by decide)] at K
      rw [show (6 : Int32) = nI 6 from rfl, nI_add, nI_clamp (by omega), r1.2.2.2.2.1, (hI.2.1 s hs).1]
      have ps := seB_p hse
      have e2 : gN g (6 + s) = kdN g s + 1 := by
        unfold kdN gN
        omega
      rw [e2, nI_pr]
      exact K
    · have e := p_eq (n := 1) (by omega) (show p2.toInt = ((1 : Nat) : Int) by omega)
      rw [e, if_neg (by decide), if_pos (by decide)] at K
      exact K
    · have e := p_eq (n := 2) (by omega) (show p2.toInt = ((2 : Nat) : Int) by omega)
      rw [e, if_neg (by decide), if_neg (by decide), if_pos (by decide)] at K
      have ei : (78 : Int32) + nI (s / gN g 1) = nI (78 + s / gN g 1) := by
        show nI 78 + _ = _
        rw [nI_add]
      rw [z1, r1.2.2.2.2.1, hI.1 1 (by omega), e1, ei, nI_clamp (by omega), (hI.2.2.1 _ (by omega)).2.2.1]
      exact ⟨by decide, fun z => absurd (nI_ij (b := 0) (by omega) (by omega) z) (by omega), nI_in (by omega) (by omega), K⟩
    · have e := p_eq (n := 3) (by omega) (show p2.toInt = ((3 : Nat) : Int) by omega)
      rw [e, if_neg (by decide), if_neg (by decide), if_neg (by decide), if_pos (by decide), ← e16 s hs] at K
      refine c153 ⟨fun y => ⟨fun z => absurd z (by decide), fun _ => ?_⟩, fun y => ⟨fun _ => ?_, fun z => absurd rfl z⟩⟩
      · rw [if_pos (show bits5 (J 43 16) s = true from (hb_iff hs).mp y)] at K
        exact K
      · rw [if_neg (show ¬ bits5 (J 43 16) s = true from fun w => y ((hb_iff hs).mpr w))] at K
        exact K
  · unfold stB4
    rw [er, Bool.and_false]
  · unfold stB4
    rw [hsi, Bool.false_and]
end TRM
end
section
/-! parts with a closer frame; feed, end, law, count, side: what they leave as it was -/
section TRN
variable {S : Nat × (Nat → Int32)} {d : Nat} {x : mX} {I I' I1 I2 : rI0} {J J' J1 J2 : rJ0} {g b : Nat → Int32} {W : Nat → lV} {P H : Nat → Bool} {A p q : Int32}
def FV (I : rI0) (J : rJ0) (I' : rI0) (J' : rJ0) : Prop := (∀ b, b ≠ 41 → b ≠ 42 → I' b = I b) ∧ ∀ b, b ≠ 41 → b ≠ 42 → J' b = J b
theorem FV.rf : FV I J I J := ⟨fun _ _ _ => rfl, fun _ _ _ => rfl⟩
theorem FV.tr (h : FV I J I1 J1) (h2 : FV I1 J1 I2 J2) : FV I J I2 J2 := ⟨fun b h3 h4 => (h2.1 b h3 h4).trans (h.1 b h3 h4), fun b h3 h4 => (h2.2 b h3 h4).trans (h.2 b h3 h4)⟩
theorem F41.v (h : F41 I J I1 J1) : FV I J I1 J1 := ⟨fun b h3 _ => h.1 b h3, fun b h3 _ => h.2 b h3⟩
theorem F42.v (h : F42 I J I1 J1) : FV I J I1 J1 := ⟨fun b _ h3 => h.1 b h3, fun b _ h3 => h.2 b h3⟩
theorem CE.v (h : CE g W P H I J) (f : FV I J I1 J1) : CE g W P H I1 J1 := h.m3 (fun b h1 h2 => f.1 b (by omega) (by omega)) (fun b h1 h2 => f.2 b (by omega) (by omega))
theorem c96v {s1 s2 : Nat} {Q : Int32 → rI0 → rJ0 → Prop} (hC : CE g W P H I J) (hs1 : s1 < 64) (hs2 : s2 < 64) (h1 : seB g s1 = true) (h2 : seB g s2 = true) (k : ∀ I' J', FV I J I' J' → Q (fnI (dfB g W H s1 s2) 61 0) I' J') : wcI S (d + 23) 96 [.ref 37, .long ((1 : Int64) <<< ((nI s1).toInt64 &&& 63)), .long ((1 : Int64) <<< ((nI s2).toInt64 &&& 63))] x I J Q := by
  have lp : ∀ (l1 l3 : Int64) (j t v1 v2 : Nat) (I1 : rI0) (J1 : rJ0), t + j = 61 → v1 ≤ t → v2 ≤ t → FV I J I1 J1 → NO41 g W (fun u => decide (u = s1)) H v1 I1 J1 → NO42 g W (fun u => decide (u = s2)) H v2 I1 J1 → (∀ I' J', FV I J I' J' → Q (fnI (dfB g W H s1 s2) j t) I' J') → wp S (d + 23) 96 33 [some (.ref 37), some (.long l1), none, some (.long l3), none, some (.int (nI t))] [] (wv x I1 J1) (rI x Q) := by
    intro l1 l3 j
    induction j with
    | zero =>
      intro t v1 v2 I1 J1 ht hv1 hv2 f n1 n2 c
      exact v96_37_33 ⟨fun _ => c I1 J1 f, fun q => absurd (nI_lt (a := 60) (by omega) (by omega)) q⟩
    | succ j ih =>
      intro t v1 v2 I1 J1 ht hv1 hv2 f n1 n2 c
      have c : ∀ I' J', FV I J I' J' → Q (if dfB g W H s1 s2 t = true then nI t else fnI (dfB g W H s1 s2) j (t + 1)) I' J' := c
      have hC1 := hC.v f
      refine v96_37_33 (d := d + 22) ⟨fun q => absurd q (nI_nlt (a := 60) (by omega) (by omega)), fun _ => go_41 (d := d) hC1.1 (one_s h1) (by omega) hv1 hC1.2.1 n1 (fun I2 J2 w1 f2 hw1 n1b ev1 => ?_)⟩
      have hC2 := hC1.v f2.v
      have n2b : NO42 g W (fun u => decide (u = s2)) H v2 I2 J2 := n2.mv (f2.1 42 (by decide)) (f2.2 42 (by decide))
      refine go_42 (d := d) hC2.1 (one_s h2) (by omega) hv2 hC2.2.1 n2b (fun I3 J3 w2 f3 hw2 n2c ev2 => ?_)
      have n1c : NO41 g W (fun u => decide (u = s1)) H w1 I3 J3 := n1b.mv (f3.1 41 (by decide)) (f3.2 41 (by decide))
      have f4 : FV I J I3 J3 := (f.tr f2.v).tr f3.v
      have p1 := n1c.np
      have p2 : NP 42 J3 (nt g W (fun u => decide (u = s2)) H w2).1 (nt g W (fun u => decide (u = s2)) H w2).2 := n2c.2.2.2.2.2.2.1
      rw [ev1] at p1
      rw [ev2] at p2
      have l8 := lg_p (fun s hs => (p1 s hs).1) (fun s hs => (p2 s hs).1)
      have l9 := lg_p (fun s hs => (p1 s hs).2.1) (fun s hs => (p2 s hs).2.1)
      rw [l8, l9, ← nI_succ]
      have df : ∀ x y, eq6 (fun s => decide (1 ≤ (nt g W (fun u => decide (u = s1)) H t).1 s)) (fun s => decide (1 ≤ (nt g W (fun u => decide (u = s2)) H t).1 s)) = x → eq6 (fun s => decide (2 ≤ (nt g W (fun u => decide (u = s1)) H t).1 s)) (fun s => decide (2 ≤ (nt g W (fun u => decide (u = s2)) H t).1 s)) = y → dfB g W H s1 s2 t = !(x && y) := by
        intro x y hx hy
        unfold dfB
        rw [hx, hy]
      refine ⟨fun z => ⟨fun z2 => ?_, fun z2 => ?_⟩, fun z => ?_⟩
      · rw [df true true (eq6_t z) (eq6_t z2)] at c
        exact ih (t + 1) w1 w2 I3 J3 (by omega) (by omega) (by omega) f4 n1c n2c c
      · rw [df true false (eq6_t z) (eq6_f z2)] at c
        exact c I3 J3 f4
      · rw [df false _ (eq6_f z) rfl] at c
        exact c I3 J3 f4
  refine c96_37 (d := d + 22) (be_41 (d := d + 19) (P := fun u => decide (u = s1)) (H := H) hC.1 hC.2.1 (one_s h1) (fun u hu => b5_1 hs1) hC.2.2.2.2.1 (fun I1 J1 f1 n1 => ?_))
  have hC1 := hC.v f1.v
  refine be_42 (d := d + 19) (P := fun u => decide (u = s2)) (H := H) hC1.1 hC1.2.1 (one_s h2) (fun u hu => b5_1 hs2) hC1.2.2.2.2.1 (fun I2 J2 f2 n2 => ?_)
  exact lp _ _ 61 0 0 0 I2 J2 (by omega) (by omega) (by omega) (f1.v.tr f2.v) (n1.mv (f2.1 41 (by decide)) (f2.2 41 (by decide))) n2 k
theorem xPartv {p1 p2 : Int32} {Q : Int32 → rI0 → rJ0 → Prop} (hC : CE g W P H I J) (k : ∀ I' J', FV I J I' J' → Q (partsV g W H p1 p2) I' J') : wcI S (d + 24) 129 [.ref 0, .int p1, .int p2] x I J Q := by
  have no : (seI g p1 && seI g p2) = false → Q (-1) I J := by
    intro h
    have kk := k I J FV.rf
    unfold partsV at kk
    rw [h] at kk
    exact kk
  refine c129_0 (d := d + 23) (cIs hC.2.1.2.2.2.2.1 (fun s1 hs1 es1 hse1 hsi1 => ⟨fun z => absurd z (by decide), fun _ => cIs hC.2.1.2.2.2.2.1 (fun s2 hs2 es2 hse2 hsi2 => ⟨fun z => absurd z (by decide), fun _ => ?_⟩) (fun hsi => ⟨fun _ => no (by rw [hsi, Bool.and_false]), fun z => absurd rfl z⟩)⟩) (fun hsi => ⟨fun _ => no (by rw [hsi, Bool.false_and]), fun z => absurd rfl z⟩))
  subst es1
  subst es2
  refine c96v (d := d) hC hs1 hs2 hse1 hse2 (fun I' J' f => ?_)
  have kk := k I' J' f
  unfold partsV at kk
  rw [hsi1, hsi2, if_pos (show (true && true) = true from rfl), nI_tn (by omega), nI_tn (by omega)] at kk
  exact kk
theorem lawCx (h1 : 0 ≤ p.toInt ∧ p.toInt < 6 ∧ 0 ≤ q.toInt ∧ q.toInt ≤ 1 → A = I 9 ((2 : Int32) * p + q).toNatClampNeg) (h0 : ¬ (0 ≤ p.toInt ∧ p.toInt < 6 ∧ 0 ≤ q.toInt ∧ q.toInt ≤ 1) → A = -1) : wcI S d 104 [.ref 0, .int p, .int q] x I J (fun v I1 J1 => v = A ∧ I1 = I ∧ J1 = J) := by
  have l0 : (0 : Int32).toInt = 0 := by decide
  have l1 : (1 : Int32).toInt = 1 := by decide
  have l2 : (2 : Int32).toInt = 2 := by decide
  have l6 : (6 : Int32).toInt = 6 := by decide
  refine c104_0 ⟨fun z => ⟨(h0 (fun c => by have := i_lt z; omega)).symm, rfl, rfl⟩, fun z0 => ⟨fun z1 => ⟨fun y => ⟨(h0 (fun c => by have := i_lt y; omega)).symm, rfl, rfl⟩, fun y0 => ⟨fun y => ⟨(h0 (fun c => by have := i_lt y; omega)).symm, rfl, rfl⟩, fun y1 => ?_⟩⟩, fun z => ⟨(h0 (fun c => by have := i_nlt z; omega)).symm, rfl, rfl⟩⟩⟩
  have z0 := i_nlt z0
  have z1 := i_lt z1
  have y0 := i_nlt y0
  have y1 := i_nlt y1
  have m := i_mul (a := 2) (b := p) l2 rfl (by omega)
  have s := i_add (b := q) m rfl (by omega)
  exact ⟨i_in s (by omega), (h1 ⟨by omega, by omega, by omega, by omega⟩).symm, rfl, rfl⟩
theorem lawRf {p q : Int32} : wcI S (d + 1) 189 [.ref 43, .int p, .int q] x I' J' (fun _ I2 J2 => I2 = mSet I' 43 0 0 ∧ J2 = J') := by
  have l0 : (0 : Int32).toInt = 0 := by decide
  have l1 : (1 : Int32).toInt = 1 := by decide
  have l2 : (2 : Int32).toInt = 2 := by decide
  have l5 : (5 : Int32).toInt = 5 := by decide
  have l42 : (42 : Int32).toInt = 42 := by decide
  have l86 : (86 : Int32).toInt = 86 := by decide
  refine c189_43 (c151 ⟨fun z => ⟨fun _ => ⟨rfl, rfl⟩, fun z => absurd rfl z⟩, fun z0 => ⟨fun z => ⟨fun _ => ⟨rfl, rfl⟩, fun z => absurd rfl z⟩, fun z1 => ⟨fun z => absurd z (by decide), fun _ => c151 ⟨fun z => ⟨fun _ => ⟨rfl, rfl⟩, fun z => absurd rfl z⟩, fun y0 => ⟨fun z => ⟨fun _ => ⟨rfl, rfl⟩, fun z => absurd rfl z⟩, fun y1 => ⟨fun z => absurd z (by decide), fun _ => ?_⟩⟩⟩⟩⟩⟩)
  have z0 := i_nlt z0
  have z1 := i_nlt z1
  have y0 := i_nlt y0
  have y1 := i_nlt y1
  have m := i_mul (a := 2) (b := p) l2 rfl (by omega)
  have s := i_add (b := q) m rfl (by omega)
  have m2 := i_mul (a := 42) l42 s (by omega)
  have s2 := i_add (a := 86) l86 m2 (by omega)
  exact ⟨i_in s2 (by omega), fun _ => ⟨rfl, rfl⟩, fun _ => ⟨rfl, rfl⟩⟩
/-- what feed of the reference leaves as it was -/
def FF (I : rI0) (I' : rI0) : Prop := (∀ b, b ≠ 43 → b ≠ 44 → I' b = I b) ∧ ∀ q, q ≠ 0 → q ≠ 2 → I' 43 q = I 43 q
theorem FF.tr (h : FF I I1) (h2 : FF I1 I2) : FF I I2 := ⟨fun b h3 h4 => (h2.1 b h3 h4).trans (h.1 b h3 h4), fun q h3 h4 => (h2.2 q h3 h4).trans (h.2 q h3 h4)⟩
theorem FF.s {a c : Nat} {v w : Int32} (hc : c = 2 ∨ c = 0) : FF I (mSet (mSet I 44 a v) 43 c w) := ⟨fun b h1 h2 => by rw [mSet_ne h1, mSet_ne h2], fun q h1 h2 => by rw [mS_nk (by omega), mSet_ne (by decide)]⟩
theorem f148 {l1 l2 : Int32} {n : Nat} {Q : rI0 → rJ0 → Prop} (hl : ¬ l2 < 0) (hn : n < 940) (e : I 43 2 = nI n) (k : ∀ I', FF I I' → I' 43 2 = nI (n + 1) → wp S d 148 3 [some (.ref 43), some (.int l1), some (.int (l2 + -8))] [] (wv x I' J) (rV x Q)) : wp S d 148 3 [some (.ref 43), some (.int l1), some (.int l2)] [] (wv x I J) (rV x Q) :=
  v148_43_3 ⟨fun q => absurd q hl, fun _ => ⟨by rw [e]; exact nI_in hn (by omega), k _ (FF.s (Or.inl rfl)) (by rw [mSet_at, e, nI_succ])⟩⟩
theorem f4 {p1 : Int32} {n : Nat} {Q : rI0 → rJ0 → Prop} (hn : n + 4 ≤ 940) (e : I 43 2 = nI n) (k : ∀ I', FF I I' → I' 43 2 = nI (n + 4) → Q I' J) : wcV S d 148 [.ref 43, .int p1] x I J Q :=
  c148_43 (f148 (by decide) (by omega) e (fun I1 h1 e1 => f148 (by decide) (by omega) e1 (fun I2 h2 e2 => f148 (by decide) (by omega) e2 (fun I3 h3 e3 => f148 (by decide) (by omega) e3 (fun I4 h4 e4 => v148_43_3 ⟨fun _ => k _ (((h1.tr h2).tr h3).tr h4) e4, fun q => absurd (by decide) q⟩)))))
theorem yFeedF {p1 p2 p3 p4 p5 : Int32} {n : Nat} (e : I 43 2 = nI n) (hn : n ≤ 940) : wcI S (d + 1) 147 [.ref 43, .int p1, .int p2, .int p3, .int p4, .int p5] x I J (fun _ I2 J2 => FF I I2 ∧ J2 = J) := by
  have l9 : (940 : Int32).toInt = 940 := by decide
  have f0 : FF I (mSet I 43 0 0) := ⟨fun b h1 _ => mSet_ne h1, fun q h1 _ => mS_nk h1⟩
  have e0 : mSet I 43 0 0 43 2 = nI n := by rw [mS_nk (by decide)]; exact e
  refine c147_43 ⟨fun _ => ⟨f0, rfl⟩, fun q => ?_⟩
  have q := i_nlt q
  rw [e, show (20 : Int32) = nI 20 from rfl, nI_add, nI_toInt (by omega), l9] at q
  exact f4 (by omega) e0 (fun I1 h1 e1 => f4 (by omega) e1 (fun I2 h2 e2 => f4 (by omega) e2 (fun I3 h3 e3 => f4 (by omega) e3 (fun I4 h4 e4 => f4 (by omega) e4 (fun I5 h5 _ => ⟨((((f0.tr h1).tr h2).tr h3).tr h4).tr h5, rfl⟩)))))
/-! count -/
def cntR (I : rI0) (J : rJ0) (p V : Int32) : Prop := ((p.toInt < 0 ∨ 9 < p.toInt) → V = -1) ∧ (p.toInt = 0 → V = I 4 0) ∧ (p.toInt = 1 → V = I 4 1) ∧ (p.toInt = 2 → V = nI (pc (J 4 5))) ∧ (p.toInt = 3 → V = I 4 2) ∧ (p.toInt = 4 → V = I 4 3) ∧ (p.toInt = 5 → V = if I 4 4 = 0 then 0 else 1) ∧ (p.toInt = 6 → V = nI (pc (J 3 5))) ∧ (p.toInt = 7 → V = nI (pc (J 3 6))) ∧ (p.toInt = 8 → V = I 1 1) ∧ (p.toInt = 9 → V = I 3 4)
theorem cnt_x (p : Int32) : ∃ V, cntR I J p V := by
  by_cases c0 : p.toInt = 0
  · exact ⟨I 4 0, by unfold cntR; refine ⟨fun _ => ?_, fun _ => ?_, fun _ => ?_, fun _ => ?_, fun _ => ?_, fun _ => ?_, fun _ => ?_, fun _ => ?_, fun _ => ?_, fun _ => ?_, fun _ => ?_⟩ <;> first | rfl | omega⟩
  by_cases c1 : p.toInt = 1
  · exact ⟨I 4 1, by unfold cntR; refine ⟨fun _ => ?_, fun _ => ?_, fun _ => ?_, fun _ => ?_, fun _ => ?_, fun _ => ?_, fun _ => ?_, fun _ => ?_, fun _ => ?_, fun _ => ?_, fun _ => ?_⟩ <;> first | rfl | omega⟩
  by_cases c2 : p.toInt = 2
  · exact ⟨nI (pc (J 4 5)), by unfold cntR; refine ⟨fun _ => ?_, fun _ => ?_, fun _ => ?_, fun _ => ?_, fun _ => ?_, fun _ => ?_, fun _ => ?_, fun _ => ?_, fun _ => ?_, fun _ => ?_, fun _ => ?_⟩ <;> first | rfl | omega⟩
  by_cases c3 : p.toInt = 3
  · exact ⟨I 4 2, by unfold cntR; refine ⟨fun _ => ?_, fun _ => ?_, fun _ => ?_, fun _ => ?_, fun _ => ?_, fun _ => ?_, fun _ => ?_, fun _ => ?_, fun _ => ?_, fun _ => ?_, fun _ => ?_⟩ <;> first | rfl | omega⟩
  by_cases c4 : p.toInt = 4
  · exact ⟨I 4 3, by unfold cntR; refine ⟨fun _ => ?_, fun _ => ?_, fun _ => ?_, fun _ => ?_, fun _ => ?_, fun _ => ?_, fun _ => ?_, fun _ => ?_, fun _ => ?_, fun _ => ?_, fun _ => ?_⟩ <;> first | rfl | omega⟩
  by_cases c5 : p.toInt = 5
  · exact ⟨if I 4 4 = 0 then 0 else 1, by unfold cntR; refine ⟨fun _ => ?_, fun _ => ?_, fun _ => ?_, fun _ => ?_, fun _ => ?_, fun _ => ?_, fun _ => ?_, fun _ => ?_, fun _ => ?_, fun _ => ?_, fun _ => ?_⟩ <;> first | rfl | omega⟩
  by_cases c6 : p.toInt = 6
  · exact ⟨nI (pc (J 3 5)), by unfold cntR; refine ⟨fun _ => ?_, fun _ => ?_, fun _ => ?_, fun _ => ?_, fun _ => ?_, fun _ => ?_, fun _ => ?_, fun _ => ?_, fun _ => ?_, fun _ => ?_, fun _ => ?_⟩ <;> first | rfl | omega⟩
  by_cases c7 : p.toInt = 7
  · exact ⟨nI (pc (J 3 6)), by unfold cntR; refine ⟨fun _ => ?_, fun _ => ?_, fun _ => ?_, fun _ => ?_, fun _ => ?_, fun _ => ?_, fun _ => ?_, fun _ => ?_, fun _ => ?_, fun _ => ?_, fun _ => ?_⟩ <;> first | rfl | omega⟩
  by_cases c8 : p.toInt = 8
  · exact ⟨I 1 1, by unfold cntR; refine ⟨fun _ => ?_, fun _ => ?_, fun _ => ?_, fun _ => ?_, fun _ => ?_, fun _ => ?_, fun _ => ?_, fun _ => ?_, fun _ => ?_, fun _ => ?_, fun _ => ?_⟩ <;> first | rfl | omega⟩
  by_cases c9 : p.toInt = 9
  · exact ⟨I 3 4, by unfold cntR; refine ⟨fun _ => ?_, fun _ => ?_, fun _ => ?_, fun _ => ?_, fun _ => ?_, fun _ => ?_, fun _ => ?_, fun _ => ?_, fun _ => ?_, fun _ => ?_, fun _ => ?_⟩ <;> first | rfl | omega⟩
  · exact ⟨-1, by unfold cntR; refine ⟨fun _ => ?_, fun _ => ?_, fun _ => ?_, fun _ => ?_, fun _ => ?_, fun _ => ?_, fun _ => ?_, fun _ => ?_, fun _ => ?_, fun _ => ?_, fun _ => ?_⟩ <;> first | rfl | omega⟩
theorem xCount {p V : Int32} (h : cntR I J p V) : wcI S (d + 1) 139 [.ref 0, .int p] x I J (fun v I1 J1 => v = V ∧ I1 = I ∧ J1 = J) := by
  obtain ⟨h10, h0, h1, h2, h3, h4, h5, h6, h7, h8, h9⟩ := h
  refine c139_0 ⟨fun z => ⟨(h10 z).symm, rfl, rfl⟩, fun z => ⟨(h0 z).symm, rfl, rfl⟩, fun z => ⟨(h1 z).symm, rfl, rfl⟩, fun z => bcX ⟨(h2 z).symm, rfl, rfl⟩, fun z => ⟨(h3 z).symm, rfl, rfl⟩, fun z => ⟨(h4 z).symm, rfl, rfl⟩, fun z => ⟨fun y => ⟨?_, rfl, rfl⟩, fun y => ⟨?_, rfl, rfl⟩⟩, fun z => bcX ⟨(h6 z).symm, rfl, rfl⟩, fun z => bcX ⟨(h7 z).symm, rfl, rfl⟩, fun z => ⟨(h8 z).symm, rfl, rfl⟩, fun z => ⟨(h9 z).symm, rfl, rfl⟩, trivial⟩
  · rw [h5 z, if_pos y]
  · rw [h5 z, if_neg y]
theorem yCount {n : Nat} {p V : Int32} (hR : RH g W I' J') (hM : HM g W I J) (e2 : I 4 2 = nI (gN g 3)) (e45 : I 45 = I' 45) (j5 : J 3 5 = J' 43 16) (j6 : J 3 6 = J' 43 17) (et : I 1 1 = I' 43 2) (h : cntR I J p V) : wcI S (d + 1) 245 [.ref 43, .int p] x I' J' (fun v I1 J1 => v = V ∧ I1 = mSet I' 43 0 0 ∧ J1 = J') := by
  obtain ⟨h10, h0, h1, h2, h3, h4, h5, h6, h7, h8, h9⟩ := h
  have hI := hR.2.1
  have eg := hR.2.2.2.2.1
  have z590 : (590 : Int32).toNatClampNeg = 590 := by decide
  have l : (0 : Int32).toInt = 0 ∧ (5 : Int32).toInt = 5 := by decide
  have n6 : nI 6 = (6 : Int32) ∧ nI 7 = (7 : Int32) ∧ nI 8 = (8 : Int32) ∧ nI 9 = (9 : Int32) := by decide
  have ne : ∀ {k : Nat}, k < 100 → ¬ p.toInt = (k : Int) → ¬ p = nI k := fun hk z y => z (by rw [y, nI_toInt (by omega)])
  have ye : ∀ {k : Nat}, k < 100 → p = nI k → p.toInt = (k : Int) := fun hk y => by rw [y, nI_toInt (by omega)]
  refine c245_43 (c151 ⟨fun z => ⟨fun _ => ?_, fun y => absurd rfl y⟩, fun z0 => ⟨fun z => ⟨fun _ => ?_, fun y => absurd rfl y⟩, fun z1 => ⟨fun y => absurd y (by decide), fun _ => ?_⟩⟩⟩)
  · have z := i_lt z
    rw [l.1] at z
    exact ⟨fun y => absurd (ye (k := 6) (by omega) y) (by omega), fun _ => ⟨fun y => absurd (ye (k := 7) (by omega) y) (by omega), fun _ => ⟨fun y => absurd (ye (k := 8) (by omega) y) (by omega), fun _ => ⟨fun y => absurd (ye (k := 9) (by omega) y) (by omega), fun _ => ⟨(h10 (Or.inl z)).symm, rfl, rfl⟩⟩⟩⟩⟩
  · have z := i_lt z
    rw [l.2] at z
    refine ⟨fun y => rbX ⟨?_, rfl, rfl⟩, fun y6 => ⟨fun y => rbX ⟨?_, rfl, rfl⟩, fun y7 => ⟨fun y => ⟨?_, rfl, rfl⟩, fun y8 => ⟨fun y => ⟨by decide, ?_, rfl, rfl⟩, fun y9 => ⟨?_, rfl, rfl⟩⟩⟩⟩⟩
    · rw [h6 (ye (k := 6) (by omega) y), j5]
    · rw [h7 (ye (k := 7) (by omega) y), j6]
    · rw [h8 (ye (k := 8) (by omega) y), mS_nk (by decide), et]
    · rw [h9 (ye (k := 9) (by omega) y), mSet_ne (by decide), z590, eg, hI.2.2.2.1]
      exact hM.2.2.2.2.2.2.2.2.2.1.symm
    · have m6 : p.toInt ≠ 6 := fun w => y6 (p_eq (n := 6) (by omega) w)
      have m7 : p.toInt ≠ 7 := fun w => y7 (p_eq (n := 7) (by omega) w)
      have m8 : p.toInt ≠ 8 := fun w => y8 (p_eq (n := 8) (by omega) w)
      have m9 : p.toInt ≠ 9 := fun w => y9 (p_eq (n := 9) (by omega) w)
      exact (h10 (Or.inr (by omega))).symm
  · have z0 := i_nlt z0
    have z1 := i_nlt z1
    rw [l.1] at z0
    rw [l.2] at z1
    obtain ⟨k, hk, ek⟩ : ∃ k : Nat, k ≤ 5 ∧ p = nI k := ⟨p.toInt.toNat, by omega, p_eq (by omega) (by omega)⟩
    have pk := ye (k := k) (by omega) ek
    subst ek
    refine ⟨nI_in (by omega) (by omega), ?_, rfl, rfl⟩
    rw [nI_clamp (by omega), mSet_ne (by decide), eg, hI.1 k hk]
    rcases (show k = 0 ∨ k = 1 ∨ k = 2 ∨ k = 3 ∨ k = 4 ∨ k = 5 by omega) with z | z | z | z | z | z <;> subst z
    · rw [h0 pk, hM.1]
    · rw [h1 pk, hM.2.1]
    · rw [h2 pk, pc_se hM.2.2.2.2.1, ← hI.1 2 (by omega), g2_n hR.2.2.1]
    · rw [h3 pk, e2]
    · rw [h4 pk, hM.2.2.1]
    · rw [h5 pk, hM.2.2.2.1]
      have := hR.1.2.2.2.1
      rcases (show gN g 5 = 0 ∨ gN g 5 = 1 by omega) with z | z <;> rw [z] <;> decide
end TRN
end
