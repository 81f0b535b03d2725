/-! pay, hiss, exchange, image, restore, seat: exactly -/
section TRM
variable {S : Nat × (Nat → Int32)} {d : Nat} {x : mX} {I I1 I2 : rI0} {J J1 J2 : rJ0} {g b : Nat → Int32} {W : Nat → lV} {P H : Nat → Bool}
def r01 (p : Int32) : Bool := decide (((0 : Nat) : Int) ≤ p.toInt ∧ p.toInt ≤ ((1 : Nat) : Int))
theorem r01_t {p : Int32} (h0 : ¬ p < 0) (h1 : ¬ 1 < p) : ∃ e, e ≤ 1 ∧ p = nI e ∧ r01 p = true := by
  obtain ⟨e, he, ee⟩ := i_nat (n := 1) (by omega) h0 h1
  refine ⟨e, he, ee, ?_⟩
  rw [ee]
  unfold r01
  rw [nI_toInt (by omega)]
  exact decide_eq_true (by omega)
theorem r01_0 {p : Int32} (h : p < 0) : r01 p = false := by
  have h := i_lt h
  rw [show (0 : Int32).toInt = 0 by decide] at h
  exact decide_eq_false (by omega)
theorem r01_1 {p : Int32} (h : 1 < p) : r01 p = false := by
  have h := i_lt h
  rw [show (1 : Int32).toInt = 1 by decide] at h
  exact decide_eq_false (by omega)
/-- a bit put -/
def wbB (v : Int64) (s e : Nat) (w : Int64) : Prop := e ≤ 1 ∧ ∀ u, u < 64 → bits5 w u = if u = s then decide (e = 1) else bits5 v u
theorem wbB_u {v w w2 : Int64} {s e : Nat} (h : wbB v s e w) (h2 : wbB v s e w2) : w2 = w := b5_ext (fun u hu => (h2.2 u hu).trans (h.2 u hu).symm)
theorem xPay {p1 p2 : Int32} {Q : Int32 → rI0 → rJ0 → Prop} (hb : ∀ s, s < 64 → bits5 (J 4 5) s = seB g s) (k0 : (seI g p1 && r01 p2) = false → Q 0 I J) (k1 : ∀ s e w, p1 = nI s → p2 = nI e → seB g s = true → (seI g p1 && r01 p2) = true → wbB (J 3 5) s e w → Q 1 (mSet I 31 6 0) (mSet J 3 5 w)) : wcI S (d + 1) 105 [.ref 0, .int p1, .int p2] x I J Q := by
  refine c105_0 (cIs hb (fun s hs es hse hsi => ⟨fun z => absurd z (by decide), fun _ => ⟨fun q => k0 (by rw [r01_0 q, Bool.and_false]), fun q0 => ⟨fun q => k0 (by rw [r01_1 q, Bool.and_false]), fun q1 => c143 (c6_31 ?_)⟩⟩⟩) (fun hsi => ⟨fun _ => k0 (by rw [hsi, Bool.false_and]), fun z => absurd rfl z⟩))
  obtain ⟨e, he, ee, er⟩ := r01_t q0 q1
  refine k1 s e _ es ee hse (by rw [hsi, er]; rfl) ⟨he, fun u hu => ?_⟩
  rw [es, ee]
  exact b5_w hs he hu
theorem xHiss {p1 p2 : Int32} {Q : Int32 → rI0 → rJ0 → Prop} (hb : ∀ s, s < 64 → bits5 (J 4 5) s = seB g s) (k0 : (seI g p1 && r01 p2) = false → Q 0 I J) (k1 : ∀ s e w, p1 = nI s → p2 = nI e → seB g s = true → (seI g p1 && r01 p2) = true → wbB (J 3 6) s e w → Q 1 (mSet I 31 6 0) (mSet J 3 6 w)) : wcI S (d + 1) 106 [.ref 0, .int p1, .int p2] x I J Q := by
  refine c106_0 (cIs hb (fun s hs es hse hsi => ⟨fun z => absurd z (by decide), fun _ => ⟨fun q => k0 (by rw [r01_0 q, Bool.and_false]), fun q0 => ⟨fun q => k0 (by rw [r01_1 q, Bool.and_false]), fun q1 => c143 (c6_31 ?_)⟩⟩⟩) (fun hsi => ⟨fun _ => k0 (by rw [hsi, Bool.false_and]), fun z => absurd rfl z⟩))
  obtain ⟨e, he, ee, er⟩ := r01_t q0 q1
  refine k1 s e _ es ee hse (by rw [hsi, er]; rfl) ⟨he, fun u hu => ?_⟩
  rw [es, ee]
  exact b5_w hs he hu
theorem wb_or {v : Int64} {s : Nat} (hs : s < 64) : wbB v s 1 (v ||| ((1 : Int64) <<< ((nI s).toInt64 &&& 63))) := ⟨Nat.le_refl _, fun u hu => by
  rw [b5_or, b5_1 hs]
  by_cases z : u = s
  · rw [if_pos z, decide_eq_true z, Bool.or_true]
    rfl
  · rw [if_neg z, decide_eq_false z, Bool.or_false]⟩
theorem wb_an {v : Int64} {s : Nat} (hs : s < 64) : wbB v s 0 (v &&& (((1 : Int64) <<< ((nI s).toInt64 &&& 63)) ^^^ (-1 : Int64))) := ⟨Nat.zero_le _, fun u hu => by
  rw [b5_and, b5_not hu, b5_1 hs]
  by_cases z : u = s
  · rw [if_pos z, decide_eq_true z, Bool.not_true, Bool.and_false]
    rfl
  · rw [if_neg z, decide_eq_false z, Bool.not_false, Bool.and_true]⟩
theorem yPay {p1 p2 : Int32} {Q : Int32 → rI0 → rJ0 → Prop} (hR : RH g W I J) (k0 : (seI g p1 && r01 p2) = false → Q 0 (mSet I 43 0 0) J) (k1 : ∀ s e w, p1 = nI s → p2 = nI e → seB g s = true → (seI g p1 && r01 p2) = true → wbB (J 43 16) s e w → Q 1 (mSet I 43 0 0) (mSet J 43 16 w)) : wcI S (d + 2) 190 [.ref 43, .int p1, .int p2] x I J Q := by
  refine c190_43 (d := d + 1) (rIs (d := d) hR.1 hR.2.1 (hR.q (v := 0) (q := 0) (by decide)).2.2.2.2.1 (fun s hs es hse hsi => ⟨fun z => absurd z (by decide), fun _ => rIn (a := 0) (b := 1) (by decide) (by decide) (by omega) (fun e _ he ee er => ⟨fun z => absurd z (by decide), fun _ => ⟨fun q => ?_, fun q => ?_⟩⟩) (fun er => ⟨fun _ => k0 (by rw [show r01 p2 = false from er, Bool.and_false]), fun z => absurd rfl z⟩)⟩) (fun hsi => ⟨fun _ => k0 (by rw [hsi, Bool.false_and]), fun z => absurd rfl z⟩))
  · refine k1 s 1 _ es q hse (by rw [hsi, show r01 p2 = true from er]; rfl) ?_
    rw [es]
    exact wb_or hs
  · have : e = 0 := by
      have : e ≠ 1 := fun z => q (by rw [ee, z]; rfl)
      omega
    subst this
    refine k1 s 0 _ es ee hse (by rw [hsi, show r01 p2 = true from er]; rfl) ?_
    rw [es]
    exact wb_an hs
theorem yHiss {p1 p2 : Int32} {Q : Int32 → rI0 → rJ0 → Prop} (hR : RH g W I J) (k0 : (seI g p1 && r01 p2) = false → Q 0 (mSet I 43 0 0) J) (k1 : ∀ s e w, p1 = nI s → p2 = nI e → seB g s = true → (seI g p1 && r01 p2) = true → wbB (J 43 17) s e w → Q 1 (mSet I 43 0 0) (mSet J 43 17 w)) : wcI S (d + 2) 191 [.ref 43, .int p1, .int p2] x I J Q := by
  refine c191_43 (d := d + 1) (rIs (d := d) hR.1 hR.2.1 (hR.q (v := 0) (q := 0) (by decide)).2.2.2.2.1 (fun s hs es hse hsi => ⟨fun z => absurd z (by decide), fun _ => rIn (a := 0) (b := 1) (by decide) (by decide) (by omega) (fun e _ he ee er => ⟨fun z => absurd z (by decide), fun _ => ⟨fun q => ?_, fun q => ?_⟩⟩) (fun er => ⟨fun _ => k0 (by rw [show r01 p2 = false from er, Bool.and_false]), fun z => absurd rfl z⟩)⟩) (fun hsi => ⟨fun _ => k0 (by rw [hsi, Bool.false_and]), fun z => absurd rfl z⟩))
  · refine k1 s 1 _ es q hse (by rw [hsi, show r01 p2 = true from er]; rfl) ?_
    rw [es]
    exact wb_or hs
  · have : e = 0 := by
      have : e ≠ 1 := fun z => q (by rw [ee, z]; rfl)
      omega
    subst this
    refine k1 s 0 _ es ee hse (by rw [hsi, show r01 p2 = true from er]; rfl) ?_
    rw [es]
    exact wb_an hs
/-- exchange -/
def exgB (g : Nat → Int32) (p1 p2 : Int32) : Bool := seI g p1 && (seI g p2 && !decide (p1 = p2))
theorem xExg {p1 p2 : Int32} {Q : Int32 → rI0 → rJ0 → Prop} (hC : CE g W P H I J) (hk : KDs g I) (k0 : exgB g p1 p2 = false → Q 0 I J) (k1 : ∀ u v I' J', p1 = nI u → p2 = nI v → seB g u = true → seB g v = true → exgB g p1 p2 = true → (∀ b, b ≠ 5 → b ≠ 31 → I' b = I b) → (∀ b, b ≠ 6 → J' b = J b) → CE (swG g u v) W P H I' J' → KDs (swG g u v) I' → I' 31 6 = 0 → Q 1 I' J') : wcI S (d + 3) 131 [.ref 0, .int p1, .int p2] x I J Q := by
  have hb := hC.2.1.2.2.2.2.1
  refine c131_0 (d := d + 2) (cIs hb (fun u hu eu hsu hiu => ⟨fun z => absurd z (by decide), fun _ => cIs hb (fun v hv ev hsv hiv => ⟨fun z => absurd z (by decide), fun _ => ⟨fun q => k0 ?_, fun q => ?_⟩⟩) (fun hi => ⟨fun _ => k0 ?_, fun z => absurd rfl z⟩)⟩) (fun hi => ⟨fun _ => k0 ?_, fun z => absurd rfl z⟩))
  · unfold exgB
    rw [decide_eq_true q, Bool.not_true, Bool.and_false, Bool.and_false]
  · subst eu ev
    refine c30x (d := d) hC.2.1 hsu hsv hk (fun I3 J3 fi fj hM h5 => c6_31 (k1 u v _ J3 rfl rfl hsu hsv ?_ (fun b h1 h2 => (mSet_ne h2).trans (fi b h1)) fj ?_ ?_ mSet_at))
    · unfold exgB
      rw [hiu, hiv, decide_eq_false q]
      rfl
    · exact (hC.sw hsu hsv fi fj hM).m3 (fun b h1 h2 => mSet_ne (by omega)) (fun _ _ _ => rfl)
    · have hk3 : KDs (swG g u v) I3 := KDs.sw hk hsu hsv h5
      exact hk3.mv (mSet_ne (by decide))
  · unfold exgB
    rw [hi, Bool.false_and, Bool.and_false]
  · unfold exgB
    rw [hi, Bool.false_and]
theorem yExg {p1 p2 : Int32} {Q : Int32 → rI0 → rJ0 → Prop} (hR : RH g W I J) (k0 : exgB g p1 p2 = false → Q 0 (mSet I 43 0 0) J) (k1 : ∀ u v I', p1 = nI u → p2 = nI v → seB g u = true → seB g v = true → exgB g p1 p2 = true → (∀ b, b ≠ 43 → b ≠ 45 → I' b = I b) → (∀ q, q ≠ 0 → I' 43 q = I 43 q) → RH (swG g u v) W I' J → Q 1 I' J) : wcI S (d + 2) 235 [.ref 43, .int p1, .int p2] x I J Q := by
  have r1 : RH g W (mSet I 43 0 0) J := hR.q (by decide)
  refine c235_43 (d := d + 1) (rIs (d := d) hR.1 hR.2.1 r1.2.2.2.2.1 (fun u hu eu hsu hiu => ⟨fun z => absurd z (by decide), fun _ => rIs (d := d) hR.1 hR.2.1 r1.2.2.2.2.1 (fun v hv ev hsv hiv => ⟨fun z => absurd z (by decide), fun _ => ⟨fun q => k0 ?_, fun q => ?_⟩⟩) (fun hi => ⟨fun _ => k0 ?_, fun z => absurd rfl z⟩)⟩) (fun hi => ⟨fun _ => k0 ?_, fun z => absurd rfl z⟩))
  · unfold exgB
    rw [decide_eq_true q, Bool.not_true, Bool.and_false, Bool.and_false]
  · subst eu ev
    refine r232x hu hv r1.2.2.2.2.1 (fun I3 f3 e3 => k1 u v I3 rfl rfl hsu hsv ?_ (fun b h1 h2 => (f3 b h2).trans (mSet_ne h1)) (fun q hq => by rw [f3 43 (by decide), mS_nk hq]) (r1.sw hsu hsv e3 (by rw [f3 43 (by decide)])))
    unfold exgB
    rw [hiu, hiv, decide_eq_false q]
    rfl
  · unfold exgB
    rw [hi, Bool.false_and, Bool.and_false]
  · unfold exgB
    rw [hi, Bool.false_and]
/-! image and restore -/
theorem yImage {p : Int32} {Q : Int32 → rI0 → rJ0 → Prop} (k0 : p < 0 ∨ 1 < p → Q 0 (mSet I 43 0 0) J) (k1 : ∀ t I', t < 2 → p = nI t → (∀ b, b ≠ 43 → b ≠ 63 → b ≠ 66 → I' b = I b) → (∀ q, q ≠ 0 → I' 43 q = I 43 q) → (∀ i, i < 681 → I' 63 (681 * t + i) = I 45 i) → (∀ j, ¬ (681 * t ≤ j ∧ j < 681 * t + 681) → I' 63 j = I 63 j) → Q 1 I' (mSet (mSet J 64 t (J 43 16)) 65 t (J 43 17))) : wcI S (d + 1) 243 [.ref 43, .int p] x I J Q := by
  refine c243_43 (c151 ⟨fun q => ⟨fun _ => k0 (Or.inl q), fun z => absurd rfl z⟩, fun q0 => ⟨fun q => ⟨fun _ => k0 (Or.inr q), fun z => absurd rfl z⟩, fun q1 => ⟨fun z => absurd z (by decide), fun _ => ?_⟩⟩⟩)
  obtain ⟨t, ht, et⟩ := i_nat (n := 1) (by omega) q0 q1
  subst et
  refine img_lp (by omega) 681 0 _ (by omega) (fun I' o1 o2 o3 => k1 t _ (by omega) rfl (fun b h1 h2 h3 => ?_) (fun q hq => ?_) (fun i hi => ?_) (fun j hj => ?_))
  · rw [mSet_ne h3, o1 b h2, mSet_ne h1]
  · rw [mSet_ne (by decide), o1 43 (by decide), mS_nk hq]
  · rw [mSet_ne (by decide), o2 i (by omega) hi, mSet_ne (by decide)]
  · rw [mSet_ne (by decide), o3 j (by omega), mSet_ne (by decide)]
theorem yRestore {p : Int32} {Q : Int32 → rI0 → rJ0 → Prop} (k0 : p < 0 ∨ 1 < p ∨ I 66 p.toNatClampNeg = 0 → Q 0 (mSet I 43 0 0) J) (k1 : ∀ t I', t < 2 → p = nI t → ¬ I 66 t = 0 → (∀ b, b ≠ 43 → b ≠ 45 → I' b = I b) → (∀ q, q ≠ 0 → q ≠ 30 → I' 43 q = I 43 q) → I' 43 30 = 1 → (∀ i, i < 681 → I' 45 i = I 63 (681 * t + i)) → Q 1 I' (mSet (mSet J 43 16 (J 64 t)) 43 17 (J 65 t))) : wcI S (d + 1) 244 [.ref 43, .int p] x I J Q := by
  refine c244_43 (c151 ⟨fun q => ⟨fun _ => k0 (Or.inl q), fun z => absurd rfl z⟩, fun q0 => ⟨fun q => ⟨fun _ => k0 (Or.inr (Or.inl q)), fun z => absurd rfl z⟩, fun q1 => ⟨fun z => absurd z (by decide), fun _ => ?_⟩⟩⟩)
  obtain ⟨t, ht, et⟩ := i_nat (n := 1) (by omega) q0 q1
  subst et
  refine ⟨nI_in (by omega) (by omega), fun z => k0 (Or.inr (Or.inr z)), fun nz => rst_lp (by omega) 681 0 _ (by omega) (fun I' o1 o2 _ => k1 t _ (by omega) rfl ?_ (fun b h1 h2 => ?_) (fun q h1 h2 => ?_) mSet_at (fun i hi => ?_))⟩
  · rw [nI_clamp (by omega)] at nz
    exact nz
  · rw [mSet_ne h1, o1 b h2, mSet_ne h1]
  · rw [mS_nk h2, o1 43 (by decide), mS_nk h1]
  · rw [mSet_ne (by decide), o2 i (by omega) hi, mSet_ne (by decide)]
theorem xRestore {p : Int32} {Q : Int32 → rI0 → rJ0 → Prop} (hx : KX x I J) (k0 : p < 0 ∨ 1 < p ∨ x.2.1 27 p.toNatClampNeg = none → Q 0 I J) (k1 : ∀ t a, t < 2 → p = nI t → 68 ≤ a → x.2.1 27 t = some a → ∀ I' J', (∀ b, ¬ (3 ≤ b ∧ b ≤ 14) → b ≠ 31 → I' b = I b) → (∀ b, ¬ (3 ≤ b ∧ b ≤ 14) → J' b = J b) → I' 31 6 = 0 → CPe a 3 I J I' J' → Q 1 I' J') : wcI S (d + 4) 138 [.ref 0, .int p] x I J Q := by
  show wp S (d + 4) 138 0 [some (.ref 0), some (.int p)] [] (wv x I J) (rI x Q)
  have l2 : (2 : Int32).toInt = 2 := by decide
  have l1 : (1 : Int32).toInt = 1 := by decide
  have z18 : (p < 0 ∨ 1 < p ∨ x.2.1 27 p.toNatClampNeg = none) → wp S (d + 4) 138 18 [some (.ref 0), some (.int p)] [] (wv x I J) (rI x Q) := by
    intro z
    refine wp_seg (C := gC138) (pc1 := 19) (Lo1 := [some (.ref 0), some (.int p)]) (st1' := [.int (0 : Int32)]) (w1 := (wv x I J)) rfl 1 rfl ?_
    exact we_z rfl rfl (Or.inl rfl) (k0 z)
  refine wp_seg (C := gC138) (pc1 := 1) (Lo1 := [some (.ref 0), some (.int p)]) (st1' := [.int p]) (w1 := (wv x I J)) rfl 1 rfl ?_
  refine wi_lt (tgt := 18) rfl rfl (fun q => z18 (Or.inl q)) (fun q0 => ?_)
  refine wp_seg (C := gC138) (pc1 := 6) (Lo1 := [some (.ref 0), some (.int p)]) (st1' := [.int (2 : Int32), .int p]) (w1 := (wv x I J)) rfl 2 rfl ?_
  refine wj_ge (tgt := 18) rfl rfl (fun q2 => ?_) (fun q2 => z18 (Or.inr (Or.inl (Int32.lt_iff_toInt_lt.mpr (by have := i_nlt q2; omega)))))
  have q2 := i_lt q2
  have q1 : ¬ 1 < p := fun z => by have := i_lt z; omega
  obtain ⟨t, ht, et⟩ := i_nat (n := 1) (by omega) q0 q1
  subst et
  refine wp_seg (C := gC138) (pc1 := 14) (Lo1 := [some (.ref 0), some (.int (nI t))]) (st1' := [.int (nI t), .ref 27]) (w1 := (wv x I J)) rfl 3 rfl ?_
  refine wa_a (n := 2) rfl rfl (nI_in (by omega) (by omega)) ?_
  rw [nI_clamp (by omega)]
  rcases hx t (by omega) with z | ⟨a, ha, e, ev, hv, hr⟩
  · rw [show rf x 27 t = none from z]
    refine wp_nl (off := 5) rfl ?_
    exact z18 (Or.inr (Or.inr (by rw [nI_clamp (by omega)]; exact z)))
  · rw [show rf x 27 t = some a from e]
    refine wp_nn (off := 5) rfl ?_
    show wp S (d + 4) 138 20 [some (.ref 0), some (.int (nI t))] [] (wv x I J) (rI x Q)
    refine wp_seg (C := gC138) (pc1 := 29) (Lo1 := [some (.ref 0), some (.int (nI t))]) (st1' := [.int (nI t), .ref 27, .ref 3]) (w1 := (wv x I J)) rfl 5 rfl ?_
    refine wa_a (n := 2) rfl rfl (nI_in (by omega) (by omega)) ?_
    rw [nI_clamp (by omega), show rf x 27 t = some a from e]
    show wp S (d + 4) 138 30 [some (.ref 0), some (.int (nI t))] [.ref a, .ref 3] (wv x I J) (rI x Q)
    refine cv_V (mj := 15) (a := 3) (as := [.ref a]) (r := []) rfl rfl rfl ⟨rfl, by decide, Nat.le_of_ble_eq_true rfl, Nat.le_of_ble_eq_true rfl⟩ rfl (tAll (d := d + 1) EvX3 ev (Or.inl (by omega)) hv.2.2.1 (fun I' J' f g v => ?_))
    refine wp_seg (C := gC138) (pc1 := 37) (Lo1 := [some (.ref 0), some (.int (nI t))]) (st1' := [.ref 31]) (w1 := (wv x I' J')) rfl 2 rfl ?_
    refine cv_V (mj := 6) (a := 31) (as := []) (r := []) rfl rfl rfl ⟨rfl, by decide, Nat.le_of_ble_eq_true rfl, Nat.le_of_ble_eq_true rfl⟩ rfl (c6_31 ?_)
    refine wp_seg (C := gC138) (pc1 := 41) (Lo1 := [some (.ref 0), some (.int (nI t))]) (st1' := [.int (1 : Int32)]) (w1 := (wv x (mSet I' 31 6 0) J')) rfl 1 rfl ?_
    exact we_z rfl rfl (Or.inr rfl) (k1 t a (by omega) rfl ha e _ _ (fun b h1 h2 => by rw [mSet_ne h2]; exact f b (by omega)) (fun b h1 => g b (by omega)) mSet_at ⟨fun q hq => (by rw [mSet_ne (by decide)]; exact v.1 q hq), v.2.1, fun s hs => (by rw [mSet_ne (by decide)]; exact v.2.2.1 s hs), v.2.2.2.1, fun r hr => (by rw [mSet_ne (by decide)]; exact v.2.2.2.2.1 r hr), fun r hr => (by rw [mSet_ne (by decide)]; exact v.2.2.2.2.2.1 r hr), fun l hl => (by rw [mSet_ne (by decide)]; exact v.2.2.2.2.2.2.1 l hl), fun i hi => (by rw [mSet_ne (by decide)]; exact v.2.2.2.2.2.2.2.1 i hi), v.2.2.2.2.2.2.2.2.1, (by rw [mSet_ne (by decide)]; exact v.2.2.2.2.2.2.2.2.2.1), fun i hi => (by rw [mSet_ne (by decide), mSet_ne (by decide), mSet_ne (by decide)]; exact v.2.2.2.2.2.2.2.2.2.2.1 i hi), v.2.2.2.2.2.2.2.2.2.2.2.1, v.2.2.2.2.2.2.2.2.2.2.2.2⟩)
/-! seat -/
def stB4 (g : Nat → Int32) (p1 p2 : Int32) : Bool := seI g p1 && decide (((0 : Nat) : Int) ≤ p2.toInt ∧ p2.toInt ≤ ((4 : Nat) : Int))
def seatV (g : Nat → Int32) (P H : Nat → Bool) (s : Nat) (p2 : Int32) : Int32 := if p2 = 0 then nI (kdN g s) else if p2 = 1 then nI (gN g (70 + s / gN g 1)) else if p2 = 2 then nI (gN g (78 + s / gN g 1)) - 1 else if p2 = 3 then nI (if P s = true then 1 else 0) else nI (if H s = true then 1 else 0)
theorem lv_m (hM : HM g W I J) {r : Nat} (hr : r < 8) : I 8 r = nI (gN g (78 + r)) - 1 := by
  rcases hM.2.2.2.2.2.2.1 r hr with ⟨h1, h2⟩ | ⟨m, h1, h2, h3⟩
  · rw [h1, h2]
    decide
  · rw [h2, h3, nI_pr]
theorem c27x {s : Nat} {Q : Int32 → rI0 → rJ0 → Prop} (hG : GA g) (hM : HM g W I J) (hse : seB g s = true) (k : Q (nI (gN g (78 + s / gN g 1)) - 1) I J) : wcI S (d + 2) 27 [.ref 4, .int (nI s)] x I J Q := by
  obtain ⟨hc, hr, hm⟩ := seC hG hse
  have hs := seB_l hse
  have sl := (hG.2.2.2.2.1 s hse).1
  have h8 := hG.1
  have h8c := hG.2.1
  have hRC : gN g 0 * gN g 1 ≤ 64 := Nat.le_trans (Nat.mul_le_mul h8 h8c) (by omega)
  have e1 : nI s / nI (gN g 1) = nI (s / gN g 1) := by
    rw [← Int32.toInt_inj, (i_div (nI_toInt (show s < 2 ^ 31 by omega)) (nI_toInt (show gN g 1 < 2 ^ 31 by omega)) (by omega) (by omega)).1, nI_toInt (by omega)]
    exact (Int.natCast_ediv s (gN g 1)).symm
  refine c27_4 (c25_4 ⟨fun _ => ⟨fun q => absurd q (nI_nlt (b := 0) (by omega) (by omega)), fun _ => c23_4 ⟨fun _ => ⟨?_, ?_, ?_⟩, fun q => absurd ?_ q⟩⟩, fun q => absurd ?_ q⟩)
  · rw [hM.2.1]
    exact fun z => absurd (nI_ij (b := 0) (by omega) (by omega) z) (by omega)
  · rw [hM.2.1, e1]
    exact nI_in (by omega) (by omega)
  · rw [hM.2.1, e1, nI_clamp (by omega), lv_m hM (by omega)]
    exact k
  · rw [hM.1, hM.2.1, nI_mu]
    exact nI_lt sl (by omega)
  · rw [hM.2.1]
    exact nI_lt (a := 0) hc (by omega)
theorem p_eq {p : Int32} {n : Nat} (hn : n < 2 ^ 31) (h : p.toInt = (n : Int)) : p = nI n := Int32.toInt_inj.mp (by rw [h, nI_toInt hn])
/-- the class: seat -/
theorem xSeat {p1 p2 : Int32} {T : mX → rI0 → rJ0 → Prop} {Q : Int32 → rI0 → rJ0 → Prop} (hC : CE g W P H I J) (hk : KDs g I) (hp : ∀ r, r < 8 → I 7 r = nI (gN g (70 + r))) (kt : stB4 g p1 p2 = false → 68 + x.1.length < 1000000 ∧ T (xA x (0, 11) 6) (va_up I (68 + x.1.length) (fun _ => 0)) (va_up J (68 + x.1.length) (fun _ => 0))) (k : ∀ s, s < 64 → p1 = nI s → stB4 g p1 p2 = true → Q (seatV g P H s p2) I J) : wcT S (d + 3) 103 [.ref 0, .int p1, .int p2] x I J T Q := by
  have l0 : (0 : Int32).toInt = 0 := by decide
  have l4 : (4 : Int32).toInt = 4 := by decide
  refine c103_0 (d := d + 2) (cIs hC.2.1.2.2.2.2.1 (fun s hs es hse hsi => ⟨fun z => absurd z (by decide), fun _ => ⟨fun q => kt ?_, fun q0 => ⟨fun q => kt ?_, fun q4 => ?_⟩⟩⟩) (fun hsi => ⟨fun _ => kt ?_, fun z => absurd rfl z⟩))
  · have q := i_lt q
    unfold stB4
    rw [decide_eq_false (by omega), Bool.and_false]
  · have q := i_lt q
    unfold stB4
    rw [decide_eq_false (by omega), Bool.and_false]
  · have q0 := i_nlt q0
    have q4 := i_nlt q4
    have K := k s hs es (by
      unfold stB4
      rw [hsi, decide_eq_true (by omega)]
      rfl)
    subst es
    unfold seatV at K
    refine ⟨fun z => bO hs ?_, fun z => ⟨nI_in (by omega) (by omega), ?_⟩, fun z => c26x (d := d) hC.1 hC.2.1 hp hse ?_, fun z => c27x (d := d) hC.1 hC.2.1 hse ?_, fun z => bO hs ?_, trivial⟩
    · have e := p_eq (n := 4) (by omega) (show p2.toInt = ((4 : Nat) : Int) by omega)
      subst e
      rw [if_neg (by decide), if_neg (by decide), if_neg (by decide), if_neg (by decide)] at K
      rw [hC.2.2.2.2.1 s hs]
      exact K
    · have e := p_eq (n := 0) (by omega) (show p2.toInt = ((0 : Nat) : Int) by omega)
      subst e
      rw [if_pos (by decide)] at K
      rw [nI_clamp (by omega), (hk s hse).2]
      exact K
    · have e := p_eq (n := 1) (by omega) (show p2.toInt = ((1 : Nat) : Int) by omega)
      subst e
      rw [if_neg (by decide), if_pos (by decide)] at K
      exact K
    · have e := p_eq (n := 2) (by omega) (show p2.toInt = ((2 : Nat) : Int) by omega)
      subst e
      rw [if_neg (by decide), if_neg (by decide), if_pos (by decide)] at K
      exact K
    · have e := p_eq (n := 3) (by omega) (show p2.toInt = ((3 : Nat) : Int) by omega)
      subst e
      rw [if_neg (by decide), if_neg (by decide), if_neg (by decide), if_pos (by decide)] at K
      rw [hC.2.2.2.1 s hs]
      exact K
  · unfold stB4
    rw [hsi, Bool.false_and]
/-- the reference: seat -/
theorem ySeat {p1 p2 : Int32} {Q : Int32 → rI0 → rJ0 → Prop} (hR : RH g W I J) (e16 : ∀ s, s < 64 → bits5 (J 43 16) s = P s) (e17 : ∀ s, s < 64 → bits5 (J 43 17) s = H s) (kt : stB4 g p1 p2 = false → Q 0 (mSet I 43 0 1) J) (k : ∀ s, s < 64 → p1 = nI s → stB4 g p1 p2 = true → Q (seatV g P H s p2) (mSet I 43 0 0) J) : wcI S (d + 2) 187 [.ref 43, .int p1, .int p2] x I J Q := by
  obtain ⟨-, z1, -, -, -, -⟩ := k0c
  have T : stB4 g p1 p2 = false → wp S (d + 2) 187 23 [some (.ref 43), some (.int p1), some (.int p2)] [.int (1), .ref 43] (wv x I J) (rI x Q) := fun z => v187_43_23 (d := d + 1) (c146_43 ⟨fun y => absurd y (by decide), fun _ => ⟨Or.inr rfl, fun y => absurd y (by decide), fun _ => kt z⟩⟩)
  refine c187_43 (d := d + 1) (rIs (d := d) hR.1 hR.2.1 hR.2.2.2.2.1 (fun s hs es hse hsi => ⟨fun z => absurd z (by decide), fun _ => rIn (a := 0) (b := 4) (by decide) (by decide) (by omega) (fun e _ he ee er => ⟨fun z => absurd z (by decide), fun _ => ?_⟩) (fun er => ⟨fun _ => T ?_, fun z => absurd rfl z⟩)⟩) (fun hsi => ⟨fun _ => T ?_, fun z => absurd rfl z⟩))
  · have K := k s hs es (by
      unfold stB4
      rw [hsi, er]
      rfl)
    have r1 : RH g W (mSet I 43 0 0) J := hR.q (by decide)
    have hG := hR.1
    have hI := hR.2.1
    obtain ⟨hc, hr, hm⟩ := seC hG hse
    have h8 := hG.1
    have h8c := hG.2.1
    have e1 : nI s / nI (gN g 1) = nI (s / gN g 1) := by
      rw [← Int32.toInt_inj, (i_div (nI_toInt (show s < 2 ^ 31 by omega)) (nI_toInt (show gN g 1 < 2 ^ 31 by omega)) (by omega) (by omega)).1, nI_toInt (by omega)]
      exact (Int.natCast_ediv s (gN g 1)).symm
    have te : p2.toInt = (e : Int) := by rw [ee, nI_toInt (by omega)]
    subst es
    unfold seatV at K
    refine v187_43_23 (d := d + 1) (c146_43 ⟨fun _ => ⟨Or.inl rfl, fun _ => ⟨fun z => ?_, fun z => ⟨?_, ?_⟩, fun z => r188x hG hI r1.2.2.2.2.1 hse ?_, fun z => ?_, fun z => ?_, trivial⟩, fun y => absurd rfl y⟩, fun y => absurd rfl y⟩)
    · have e := p_eq (n := 4) (by omega) (show p2.toInt = ((4 : Nat) : Int) by omega)
      rw [e, if_neg (by decide), if_neg (by decide), if_neg (by decide), if_neg (by decide), ← e17 s hs] at K
      refine c153 ⟨fun y => ⟨fun z => absurd z (by decide), fun _ => ?_⟩, fun y => ⟨fun _ => ?_, fun z => absurd rfl z⟩⟩
      · rw [if_pos (show bits5 (J 43 17) s = true from (hb_iff hs).mp y)] at K
        exact K
      · rw [if_neg (show ¬ bits5 (J 43 17) s = true from fun w => y ((hb_iff hs).mpr w))] at K
        exact K
    · rw [show (6 : Int32) = nI 6 from rfl, nI_add]
      exact nI_in (by omega) (by omega)
    · have e := p_eq (n := 0) (by omega) (show p2.toInt = ((0 : Nat) : Int) by omega)
      rw [e, if_pos (by decide)] at K
      rw [show (6 : Int32) = nI 6 from rfl, nI_add, nI_clamp (by omega), r1.2.2.2.2.1, (hI.2.1 s hs).1]
      have ps := seB_p hse
      have e2 : gN g (6 + s) = kdN g s + 1 := by
        unfold kdN gN
        omega
      rw [e2, nI_pr]
      exact K
    · have e := p_eq (n := 1) (by omega) (show p2.toInt = ((1 : Nat) : Int) by omega)
      rw [e, if_neg (by decide), if_pos (by decide)] at K
      exact K
    · have e := p_eq (n := 2) (by omega) (show p2.toInt = ((2 : Nat) : Int) by omega)
      rw [e, if_neg (by decide), if_neg (by decide), if_pos (by decide)] at K
      have ei : (78 : Int32) + nI (s / gN g 1) = nI (78 + s / gN g 1) := by
        show nI 78 + _ = _
        rw [nI_add]
      rw [z1, r1.2.2.2.2.1, hI.1 1 (by omega), e1, ei, nI_clamp (by omega), (hI.2.2.1 _ (by omega)).2.2.1]
      exact ⟨by decide, fun z => absurd (nI_ij (b := 0) (by omega) (by omega) z) (by omega), nI_in (by omega) (by omega), K⟩
    · have e := p_eq (n := 3) (by omega) (show p2.toInt = ((3 : Nat) : Int) by omega)
      rw [e, if_neg (by decide), if_neg (by decide), if_neg (by decide), if_pos (by decide), ← e16 s hs] at K
      refine c153 ⟨fun y => ⟨fun z => absurd z (by decide), fun _ => ?_⟩, fun y => ⟨fun _ => ?_, fun z => absurd rfl z⟩⟩
      · rw [if_pos (show bits5 (J 43 16) s = true from (hb_iff hs).mp y)] at K
        exact K
      · rw [if_neg (show ¬ bits5 (J 43 16) s = true from fun w => y ((hb_iff hs).mpr w))] at K
        exact K
  · unfold stB4
    rw [er, Bool.and_false]
  · unfold stB4
    rw [hsi, Bool.false_and]
end TRM
