section GV0
variable {S : Nat × (Nat → Int32)} {d : Nat} {x x' : mX} {I I' : rI0} {J J' : rJ0}
theorem so_n {o : Option Nat} {a : Nat} (h : o = some a) : ¬ o = none := by
  rw [h]
  intro z
  cases z
theorem EvX.lt {a : Nat} (h : EvX x a) : a + 11 < 68 + x.1.length := by
  have h1 : (SHL ++ x.1)[a + 11]? = some (1, 30) := h.1.2.2.2.2.2.2.2.2.2.2.2
  rcases Nat.lt_or_ge (a + 11) (SHL ++ x.1).length with z | z
  · rw [List.length_append, SHL_len] at z
    exact z
  · rw [List.getElem?_eq_none z] at h1
    cases h1
theorem EvX.mv {a : Nat} (h : EvX x a) (hs : ∀ b, b ≤ a + 11 → sh x' b = sh x b) (hr : ∀ b, b ≤ a + 11 → b ≠ 27 → x'.2.1 b = x.2.1 b) (ha : 68 ≤ a) : EvX x' a := by
  have r0 : ∀ k, rf x' a k = rf x a k := fun k => congrFun (RRk_b (hr a (by omega) (by omega))) k
  have r1 : ∀ k, rf x' (a + 1) k = rf x (a + 1) k := fun k => congrFun (RRk_b (hr (a + 1) (by omega) (by omega))) k
  unfold EvX at *
  rw [hs a (by omega), hs (a + 1) (by omega), hs (a + 2) (by omega), hs (a + 3) (by omega), hs (a + 4) (by omega), hs (a + 5) (by omega), hs (a + 6) (by omega), hs (a + 7) (by omega), hs (a + 8) (by omega), hs (a + 9) (by omega), hs (a + 10) (by omega), hs (a + 11) (by omega), r0, r0, r0, r0, r1, r1, r1, r1, r1, r1, r1]
  exact h
theorem EvX.no {a i : Nat} (h : EvX x a) (h0 : 1 ≤ i) (h1 : i ≤ 11) : ¬ sh x (a + i) = some (0, 2) := by
  obtain ⟨⟨s0, s1, s2, s3, s4, s5, s6, s7, s8, s9, s10, s11⟩, -, -⟩ := h
  intro z
  rcases (show i = 1 ∨ i = 2 ∨ i = 3 ∨ i = 4 ∨ i = 5 ∨ i = 6 ∨ i = 7 ∨ i = 8 ∨ i = 9 ∨ i = 10 ∨ i = 11 by omega) with e | e | e | e | e | e | e | e | e | e | e <;> subst e
  · exact absurd (s1.symm.trans z) (by decide)
  · exact absurd (s2.symm.trans z) (by decide)
  · exact absurd (s3.symm.trans z) (by decide)
  · exact absurd (s4.symm.trans z) (by decide)
  · exact absurd (s5.symm.trans z) (by decide)
  · exact absurd (s6.symm.trans z) (by decide)
  · exact absurd (s7.symm.trans z) (by decide)
  · exact absurd (s8.symm.trans z) (by decide)
  · exact absurd (s9.symm.trans z) (by decide)
  · exact absurd (s10.symm.trans z) (by decide)
  · exact absurd (s11.symm.trans z) (by decide)
theorem EvX.dj {a b : Nat} (h : EvX x a) (g : EvX x b) : a = b ∨ a + 12 ≤ b ∨ b + 12 ≤ a := by
  rcases (show a = b ∨ a + 12 ≤ b ∨ b + 12 ≤ a ∨ (a < b ∧ b ≤ a + 11) ∨ (b < a ∧ a ≤ b + 11) by omega) with z | z | z | z | z
  · exact Or.inl z
  · exact Or.inr (Or.inl z)
  · exact Or.inr (Or.inr z)
  · refine absurd g.1.1 ?_
    have := h.no (i := b - a) (by omega) (by omega)
    rw [show a + (b - a) = b by omega] at this
    exact this
  · refine absurd h.1.1 ?_
    have := g.no (i := a - b) (by omega) (by omega)
    rw [show b + (a - b) = a by omega] at this
    exact this
/-- the kept evenings within bounds -/
def KX (x : mX) (I : rI0) (J : rJ0) : Prop := ∀ k, k < 2 → x.2.1 27 k = none ∨ ∃ a, 68 ≤ a ∧ x.2.1 27 k = some a ∧ EvX x a ∧ HV (a + 1) (a + 2) I J ∧ RB (I a 4) 30
theorem HV.mv {h q h' q' : Nat} (v : HV h q I J) (e0 : I' h' 0 = I h 0) (e1 : I' h' 1 = I h 1) (e4 : I' h' 4 = I h 4) (e5 : J' h' 5 = J h 5) (eq : ∀ s, s < 64 → I' q' s = I q s) : HV h' q' I' J' := by
  obtain ⟨v0, v1, v4, vk, vs⟩ := v
  exact ⟨by rw [e0]; exact v0, by rw [e1]; exact v1, by rw [e4]; exact v4, fun s hs => by rw [eq s hs]; exact vk s hs, fun s hs hb => by rw [eq s hs]; exact vs s hs (by rw [← e5]; exact hb)⟩
theorem KX.mv (h : KX x I J) (hi : ∀ b, 68 ≤ b → I' b = I b) (hj : ∀ b, 68 ≤ b → J' b = J b) : KX x I' J' := by
  intro k hk
  rcases h k hk with z | ⟨a, ha, e, ev, hv, hr⟩
  · exact Or.inl z
  · exact Or.inr ⟨a, ha, e, ev, hv.mv (by rw [hi (a + 1) (by omega)]) (by rw [hi (a + 1) (by omega)]) (by rw [hi (a + 1) (by omega)]) (by rw [hj (a + 1) (by omega)]) (fun s _ => by rw [hi (a + 2) (by omega)]), by rw [hi a (by omega)]; exact hr⟩
theorem KX.t (h : KX x I J) {q : Nat × Nat} {m : Nat} : KX (xA x q m) (va_up I (68 + x.1.length) (fun _ => 0)) (va_up J (68 + x.1.length) (fun _ => 0)) := by
  intro k hk
  rcases h k hk with z | ⟨a, ha, e, ev, hv, hr⟩
  · refine Or.inl ?_
    rw [xA_kf (n := 68 + x.1.length) rfl (by omega)]
    exact z
  · have l := ev.lt
    have f : ∀ b, b ≤ a + 11 → va_up I (68 + x.1.length) (fun _ => 0) b = I b := fun b hb => vu_ne (by omega)
    have g : ∀ b, b ≤ a + 11 → va_up J (68 + x.1.length) (fun _ => 0) b = J b := fun b hb => vu_ne (by omega)
    refine Or.inr ⟨a, ha, ?_, ev.mv (fun b hb => xA_old (n := 68 + x.1.length) rfl (by omega)) (fun b hb _ => xA_kf (n := 68 + x.1.length) rfl (by omega)) ha, hv.mv (by rw [f (a + 1) (by omega)]) (by rw [f (a + 1) (by omega)]) (by rw [f (a + 1) (by omega)]) (by rw [g (a + 1) (by omega)]) (fun s _ => by rw [f (a + 2) (by omega)]), by rw [f a (by omega)]; exact hr⟩
    rw [xA_kf (n := 68 + x.1.length) rfl (by omega)]
    exact e
theorem CV.eq (h : CV I J) (hi : ∀ b, b < 43 → I' b = I b) (hj : ∀ b, b < 43 → J' b = J b) : CV I' J' := by
  unfold CV HV at *
  rw [hi 1 (by omega), hi 4 (by omega), hi 5 (by omega), hi 16 (by omega), hi 17 (by omega), hi 3 (by omega), hi 15 (by omega), hi 31 (by omega), hi 36 (by omega), hi 41 (by omega), hi 42 (by omega), hi 37 (by omega), hi 29 (by omega), hj 4 (by omega), hj 16 (by omega)]
  exact h
/-- the copy of now into a kept block -/
theorem img33 {a t : Nat} {Q : mX → Int32 → rI0 → rJ0 → Prop} (h : CV I J) (ht : t < 2) (ha : 68 ≤ a) (ev : EvX x a) (er : x.2.1 27 t = some a) (hk : ∀ k, k < 2 → x.2.1 27 k = none ∨ ∃ a, 68 ≤ a ∧ x.2.1 27 k = some a ∧ EvX x a ∧ (k ≠ t → HV (a + 1) (a + 2) I J ∧ RB (I a 4) 30)) (k : ∀ I' J', CV I' J' → KX x I' J' → (∀ b, b < 68 → I' b = I b) → (∀ b, b < 68 → J' b = J b) → CPe 3 a I J I' J' → (∀ b, ¬ (a ≤ b ∧ b ≤ a + 11) → I' b = I b ∧ J' b = J b) → Q x 1 I' J') : wp S (d + 3) 137 33 [some (.ref 0), some (.int (nI t))] [] (wv x I J) (rX Q) := by
  refine wp_seg (C := gC137) (pc1 := 38) (Lo1 := [some (.ref 0), some (.int (nI t))]) (st1' := [.int (nI t), .ref 27]) (w1 := (wv x I J)) rfl 3 rfl ?_
  refine wa_a (n := 2) rfl rfl (nI_in (by omega) (by omega)) ?_
  have e : rf x 27 (nI t).toNatClampNeg = some a := by
    rw [nI_clamp (by omega)]
    exact er
  rw [e]
  show wp S (d + 3) 137 39 [some (.ref 0), some (.int (nI t))] [.ref a] (wv x I J) (rX Q)
  refine wp_seg (C := gC137) (pc1 := 43) (Lo1 := [some (.ref 0), some (.int (nI t))]) (st1' := [.ref 3, .ref a]) (w1 := (wv x I J)) rfl 2 rfl ?_
  refine cv_V (mj := 15) (a := a) (as := [.ref 3]) (r := []) rfl rfl rfl ⟨rfl, by decide, Nat.le_of_ble_eq_true rfl, Nat.le_of_ble_eq_true rfl⟩ ev.1.1 (tAll ev EvX3 (Or.inr (by omega)) h.2.1.2.2.1 (fun I' J' f g v => ?_))
  refine wp_seg (C := gC137) (pc1 := 47) (Lo1 := [some (.ref 0), some (.int (nI t))]) (st1' := [.int (1 : Int32)]) (w1 := (wv x I' J')) rfl 1 rfl ?_
  refine wp_iret (mi := 137) (pc := 47) rfl (Or.inr ⟨rfl, Or.inr rfl⟩) ⟨x, 1, I', J', rfl, rfl, k I' J' (h.eq (fun b hb => f b (by omega)) (fun b hb => g b (by omega))) ?_ (fun b hb => f b (by omega)) (fun b hb => g b (by omega)) v (fun b hb => ⟨f b hb, g b hb⟩)⟩
  have v0 := v.1 0 (by omega)
  have v1 := v.1 1 (by omega)
  have v4 := v.1 4 (by omega)
  have v5 := v.2.1
  have v6 := v.2.2.1
  have vc := v.2.2.2.2.2.2.2.2.2.1
  have hva : HV (a + 1) (a + 2) I' J' ∧ RB (I' a 4) 30 := ⟨h.2.1.mv v0 v1 v4 v5 v6, by rw [vc]; exact h.2.2.2.1⟩
  intro s hs
  rcases hk s hs with z | ⟨b, hb, eb, evb, hvb⟩
  · exact Or.inl z
  · refine Or.inr ⟨b, hb, eb, evb, ?_⟩
    rcases ev.dj evb with z | z
    · rw [← z]
      exact hva
    · by_cases y : s = t
      · subst y
        have : a = b := Option.some.inj (er.symm.trans eb)
        omega
      · obtain ⟨w1, w2⟩ := hvb y
        exact ⟨w1.mv (by rw [f (b + 1) (by omega)]) (by rw [f (b + 1) (by omega)]) (by rw [f (b + 1) (by omega)]) (by rw [g (b + 1) (by omega)]) (fun v _ => by rw [f (b + 2) (by omega)]), by rw [f b (by omega)]; exact w2⟩
theorem zImage {p : Int32} {Q : mX → Int32 → rI0 → rJ0 → Prop} (h : CV I J) (hx : KX x I J) (hl : x.1.length < 10000) (k0 : p < 0 ∨ 1 < p → Q x 0 I J) (k1 : ¬ p < 0 → ¬ 1 < p → ∀ x' I' J', CV I' J' → KX x' I' J' → (∀ b, b < 68 → I' b = I b) → (∀ b, b < 68 → J' b = J b) → x'.1.length ≤ x.1.length + 12 ∧ x'.2.2.2 ≤ x.2.2.2 + 1100 → ¬ x'.2.1 27 p.toNatClampNeg = none ∧ (∀ s, s ≠ p.toNatClampNeg → x'.2.1 27 s = x.2.1 27 s) → (∃ a, 68 ≤ a ∧ x'.2.1 27 p.toNatClampNeg = some a ∧ EvX x' a ∧ CPe 3 a I J I' J' ∧ (x.2.1 27 p.toNatClampNeg = some a ∨ a = 68 + x.1.length) ∧ ∀ c, c < 68 + x.1.length → ¬ (a ≤ c ∧ c ≤ a + 11) → I' c = I c ∧ J' c = J c) → Q x' 1 I' J') : wcX S (d + 4) 137 [.ref 0, .int p] x I J Q := by
  show wp S (d + 4) 137 0 [some (.ref 0), some (.int p)] [] (wv x I J) (rX Q)
  have l2 : (2 : Int32).toInt = 2 := by decide
  have l1 : (1 : Int32).toInt = 1 := by decide
  refine wp_seg (C := gC137) (pc1 := 1) (Lo1 := [some (.ref 0), some (.int p)]) (st1' := [.int p]) (w1 := (wv x I J)) rfl 1 rfl ?_
  refine wi_lt (tgt := 9) rfl rfl (fun q => ?_) (fun q0 => ?_)
  · refine wp_seg (C := gC137) (pc1 := 10) (Lo1 := [some (.ref 0), some (.int p)]) (st1' := [.int (0 : Int32)]) (w1 := (wv x I J)) rfl 1 rfl ?_
    exact wp_iret (mi := 137) (pc := 10) rfl (Or.inr ⟨rfl, Or.inl rfl⟩) ⟨x, 0, I, J, rfl, rfl, k0 (Or.inl q)⟩
  refine wp_seg (C := gC137) (pc1 := 6) (Lo1 := [some (.ref 0), some (.int p)]) (st1' := [.int (2 : Int32), .int p]) (w1 := (wv x I J)) rfl 2 rfl ?_
  refine wj_lt (tgt := 11) rfl rfl (fun q2 => ?_) (fun q2 => ?_)
  · have q2 := i_lt q2
    have q1 : ¬ 1 < p := fun z => by have := i_lt z; omega
    obtain ⟨t, ht, et⟩ := i_nat (n := 1) (by omega) q0 q1
    subst et
    refine wp_seg (C := gC137) (pc1 := 16) (Lo1 := [some (.ref 0), some (.int (nI t))]) (st1' := [.int (nI t), .ref 27]) (w1 := (wv x I J)) rfl 3 rfl ?_
    refine wa_a (n := 2) rfl rfl (nI_in (by omega) (by omega)) ?_
    rw [nI_clamp (by omega)]
    rcases hx t (by omega) with z | ⟨a, ha, e, ev, hv, hr⟩
    · rw [show rf x 27 t = none from z]
      refine wp_nl (off := 16) rfl ?_
      show wp S (d + 4) 137 20 [some (.ref 0), some (.int (nI t))] [] (wv x I J) (rX Q)
      refine wp_seg (C := gC137) (pc1 := 25) (Lo1 := [some (.ref 0), some (.int (nI t))]) (st1' := [.int (nI t), .ref 27]) (w1 := (wv x I J)) rfl 3 rfl ?_
      refine wn_new (ci := 2) (n := 7) rfl rfl (by decide) rfl (by omega) ?_
      generalize ea : 68 + x.1.length = a
      have ha : 68 ≤ a := by omega
      have k1x := hx.t (q := (0, 2)) (m := 7)
      rw [ea] at k1x
      have hl1 := xA_len (q := (0, 2)) (m := 7) ea
      have sn := xA_new (q := (0, 2)) (m := 7) ea
      have fS0 := fun b hb => xA_old (q := (0, 2)) (m := 7) (b := b) ea hb
      have fR0 := fun b hb => xA_kf (q := (0, 2)) (m := 7) (b := b) ea hb
      have z2 : (xA x (0, 2) 7).2.2.2 = x.2.2.2 + 7 := rfl
      have len1 : (xA x (0, 2) 7).1.length = x.1.length + 1 := by omega
      generalize xA x (0, 2) 7 = x1 at *
      have fI0 : ∀ b, b ≠ a → va_up I a (fun _ => 0) b = I b := fun b hb => vu_ne hb
      have fJ0 : ∀ b, b ≠ a → va_up J a (fun _ => 0) b = J b := fun b hb => vu_ne hb
      generalize va_up I a (fun _ => 0) = I1 at *
      generalize va_up J a (fun _ => 0) = J1 at *
      refine wp_seg (C := gC137) (pc1 := 29) (Lo1 := [some (.ref 0), some (.int (nI t))]) (st1' := [.ref a, .ref a, .int (nI t), .ref 27]) (w1 := (wv x1 I1 J1)) rfl 1 rfl ?_
      refine wp_ci (mj := 13) (nn := 1) (a := a) (as := []) (r := [.ref a, .int (nI t), .ref 27]) rfl rfl rfl ⟨rfl, by decide, Nat.le_of_ble_eq_true rfl, Nat.le_of_ble_eq_true rfl⟩ ?_
      refine evInit (by omega) ha sn (by omega) (fun x2 I2 J2 ev2 len2 fS fR fI fJ cz => ⟨rfl, ?_⟩)
      show wp S (d + 4) 137 32 [some (.ref 0), some (.int (nI t))] [.ref a, .int (nI t), .ref 27] (wv x2 I2 J2) (rX Q)
      refine ws_a (n := 2) rfl rfl ev2.1.1 (nI_in (by omega) (by omega)) ?_
      rw [nI_clamp (by omega)]
      have r27 : ∀ s, x2.2.1 27 s = x.2.1 27 s := fun s => by rw [fR 27 (by omega), fR0 27 (by omega)]
      have kr : ∀ s, s ≠ t → (xR x2 27 t a).2.1 27 s = x.2.1 27 s := fun s hs => (show mSet x2.2.1 27 t (some a) 27 s = x2.2.1 27 s from mSet_x (fun z => hs z.2)).trans (r27 s)
      have ev3 : EvX (xR x2 27 t a) a := ev2.mv (fun b hb => rfl) (fun b hb h27 => mSet_ne h27) ha
      refine img33 (d := d + 1) (x := xR x2 27 t a) (h.eq (fun b hb => by rw [fI b (by omega), fI0 b (by omega)]) (fun b hb => by rw [fJ b (by omega), fJ0 b (by omega)])) (by omega) ha ev3 (show mSet x2.2.1 27 t (some a) 27 t = some a from mSet_at) (fun s hs => ?_) (fun I' J' c' kx f' g' cp fo => k1 q0 q1 (xR x2 27 t a) I' J' c' kx (fun b hb => by rw [f' b hb, fI b (by omega), fI0 b (by omega)]) (fun b hb => by rw [g' b hb, fJ b (by omega), fJ0 b (by omega)]) ?_ ?_ ⟨a, ha, by rw [nI_clamp (by omega)]; exact (show mSet x2.2.1 27 t (some a) 27 t = some a from mSet_at), ev3, cp.src (fun b h1 h2 => ⟨by rw [fI b (by omega), fI0 b (by omega)], by rw [fJ b (by omega), fJ0 b (by omega)]⟩), Or.inr ea.symm, fun c hc hn => ⟨by rw [(fo c hn).1, fI c (by omega), fI0 c (by omega)], by rw [(fo c hn).2, fJ c (by omega), fJ0 c (by omega)]⟩⟩)
      · by_cases y : s = t
        · subst y
          exact Or.inr ⟨a, ha, (show mSet x2.2.1 27 s (some a) 27 s = some a from mSet_at), ev3, fun z => absurd rfl z⟩
        · rw [kr s y]
          rcases hx s hs with w | ⟨b, hb, eb, evb, hvb, hrb⟩
          · exact Or.inl w
          · have lb := evb.lt
            have fi : ∀ c, c ≤ b + 11 → I2 c = I c := fun c hc => by rw [fI c (by omega), fI0 c (by omega)]
            have fj : ∀ c, c ≤ b + 11 → J2 c = J c := fun c hc => by rw [fJ c (by omega), fJ0 c (by omega)]
            refine Or.inr ⟨b, hb, eb, evb.mv (fun c hc => (show sh (xR x2 27 t a) c = sh x2 c from rfl).trans ((fS c (by omega)).trans (fS0 c (by omega)))) (fun c hc h27 => (mSet_ne h27).trans ((fR c (by omega)).trans (fR0 c (by omega)))) hb, fun _ => ⟨hvb.mv (by rw [fi (b + 1) (by omega)]) (by rw [fi (b + 1) (by omega)]) (by rw [fi (b + 1) (by omega)]) (by rw [fj (b + 1) (by omega)]) (fun v _ => by rw [fi (b + 2) (by omega)]), by rw [fi b (by omega)]; exact hrb⟩⟩
      · show x2.1.length ≤ _ ∧ x2.2.2.2 ≤ _
        omega
      · rw [nI_clamp (by omega)]
        exact ⟨so_n (show mSet x2.2.1 27 t (some a) 27 t = some a from mSet_at), kr⟩
    · rw [show rf x 27 t = some a from e]
      refine wp_nn (off := 16) rfl ?_
      show wp S (d + 4) 137 33 [some (.ref 0), some (.int (nI t))] [] (wv x I J) (rX Q)
      refine img33 (d := d + 1) h (by omega) ha ev e (fun s hs => ?_) (fun I' J' c' kx f' g' cp fo => k1 q0 q1 x I' J' c' kx f' g' (by omega) (by rw [nI_clamp (by omega)]; exact ⟨so_n e, fun _ _ => rfl⟩) ⟨a, ha, by rw [nI_clamp (by omega)]; exact e, ev, cp, by rw [nI_clamp (by omega)]; exact Or.inl e, fun c _ hn => fo c hn⟩)
      rcases hx s hs with w | ⟨b, hb, eb, evb, hvb, hrb⟩
      · exact Or.inl w
      · exact Or.inr ⟨b, hb, eb, evb, fun _ => ⟨hvb, hrb⟩⟩
  · have q2 := i_nlt q2
    refine wp_seg (C := gC137) (pc1 := 10) (Lo1 := [some (.ref 0), some (.int p)]) (st1' := [.int (0 : Int32)]) (w1 := (wv x I J)) rfl 1 rfl ?_
    refine wp_iret (mi := 137) (pc := 10) rfl (Or.inr ⟨rfl, Or.inl rfl⟩) ⟨x, 0, I, J, rfl, rfl, k0 (Or.inr ?_)⟩
    exact Int32.lt_iff_toInt_lt.mpr (by omega)
theorem zRestore {p : Int32} {Q : Int32 → rI0 → rJ0 → Prop} (h : CV I J) (hx : KX x I J) (k0 : p < 0 ∨ 1 < p ∨ x.2.1 27 p.toNatClampNeg = none → Q 0 I J) (k1 : ¬ p < 0 → ¬ 1 < p → ¬ x.2.1 27 p.toNatClampNeg = none → ∀ I' J', CV I' J' → UK I J I' J' → (∃ a, 68 ≤ a ∧ x.2.1 27 p.toNatClampNeg = some a ∧ CPe a 3 I J I' J') → I' 0 = I 0 → Q 1 I' J') : wcI S (d + 4) 138 [.ref 0, .int p] x I J Q := by
  show wp S (d + 4) 138 0 [some (.ref 0), some (.int p)] [] (wv x I J) (rI x Q)
  have l2 : (2 : Int32).toInt = 2 := by decide
  have l1 : (1 : Int32).toInt = 1 := by decide
  have z18 : (p < 0 ∨ 1 < p ∨ x.2.1 27 p.toNatClampNeg = none) → wp S (d + 4) 138 18 [some (.ref 0), some (.int p)] [] (wv x I J) (rI x Q) := by
    intro z
    refine wp_seg (C := gC138) (pc1 := 19) (Lo1 := [some (.ref 0), some (.int p)]) (st1' := [.int (0 : Int32)]) (w1 := (wv x I J)) rfl 1 rfl ?_
    exact we_z rfl rfl (Or.inl rfl) (k0 z)
  refine wp_seg (C := gC138) (pc1 := 1) (Lo1 := [some (.ref 0), some (.int p)]) (st1' := [.int p]) (w1 := (wv x I J)) rfl 1 rfl ?_
  refine wi_lt (tgt := 18) rfl rfl (fun q => z18 (Or.inl q)) (fun q0 => ?_)
  refine wp_seg (C := gC138) (pc1 := 6) (Lo1 := [some (.ref 0), some (.int p)]) (st1' := [.int (2 : Int32), .int p]) (w1 := (wv x I J)) rfl 2 rfl ?_
  refine wj_ge (tgt := 18) rfl rfl (fun q2 => ?_) (fun q2 => z18 (Or.inr (Or.inl (Int32.lt_iff_toInt_lt.mpr (by have := i_nlt q2; omega)))))
  have q2 := i_lt q2
  have q1 : ¬ 1 < p := fun z => by have := i_lt z; omega
  obtain ⟨t, ht, et⟩ := i_nat (n := 1) (by omega) q0 q1
  subst et
  refine wp_seg (C := gC138) (pc1 := 14) (Lo1 := [some (.ref 0), some (.int (nI t))]) (st1' := [.int (nI t), .ref 27]) (w1 := (wv x I J)) rfl 3 rfl ?_
  refine wa_a (n := 2) rfl rfl (nI_in (by omega) (by omega)) ?_
  rw [nI_clamp (by omega)]
  rcases hx t (by omega) with z | ⟨a, ha, e, ev, hv, hr⟩
  · rw [show rf x 27 t = none from z]
    refine wp_nl (off := 5) rfl ?_
    exact z18 (Or.inr (Or.inr (by rw [nI_clamp (by omega)]; exact z)))
  · rw [show rf x 27 t = some a from e]
    refine wp_nn (off := 5) rfl ?_
    show wp S (d + 4) 138 20 [some (.ref 0), some (.int (nI t))] [] (wv x I J) (rI x Q)
    refine wp_seg (C := gC138) (pc1 := 29) (Lo1 := [some (.ref 0), some (.int (nI t))]) (st1' := [.int (nI t), .ref 27, .ref 3]) (w1 := (wv x I J)) rfl 5 rfl ?_
    refine wa_a (n := 2) rfl rfl (nI_in (by omega) (by omega)) ?_
    rw [nI_clamp (by omega), show rf x 27 t = some a from e]
    show wp S (d + 4) 138 30 [some (.ref 0), some (.int (nI t))] [.ref a, .ref 3] (wv x I J) (rI x Q)
    refine cv_V (mj := 15) (a := 3) (as := [.ref a]) (r := []) rfl rfl rfl ⟨rfl, by decide, Nat.le_of_ble_eq_true rfl, Nat.le_of_ble_eq_true rfl⟩ rfl (tAll (d := d + 1) EvX3 ev (Or.inl (by omega)) hv.2.2.1 (fun I' J' f g v => ?_))
    refine wp_seg (C := gC138) (pc1 := 37) (Lo1 := [some (.ref 0), some (.int (nI t))]) (st1' := [.ref 31]) (w1 := (wv x I' J')) rfl 2 rfl ?_
    refine cv_V (mj := 6) (a := 31) (as := []) (r := []) rfl rfl rfl ⟨rfl, by decide, Nat.le_of_ble_eq_true rfl, Nat.le_of_ble_eq_true rfl⟩ rfl (c6_31 ?_)
    refine wp_seg (C := gC138) (pc1 := 41) (Lo1 := [some (.ref 0), some (.int (nI t))]) (st1' := [.int (1 : Int32)]) (w1 := (wv x (mSet I' 31 6 0) J')) rfl 1 rfl ?_
    refine we_z rfl rfl (Or.inr rfl) (k1 q0 q1 (by rw [nI_clamp (by omega)]; exact so_n e) _ _ ?_ ⟨⟨fun b hb => by rw [mSet_ne (by omega)]; exact f b (by omega), fun b hb => g b (by omega)⟩, by rw [mSet_ne (by decide), f 1 (by omega)]⟩ ⟨a, ha, by rw [nI_clamp (by omega)]; exact e, v⟩ (by rw [mSet_ne (by decide)]; exact f 0 (by omega)))
    have v0 := v.1 0 (by omega)
    have v1 := v.1 1 (by omega)
    have v4 := v.1 4 (by omega)
    have v5 := v.2.1
    have v6 := v.2.2.1
    have vc := v.2.2.2.2.2.2.2.2.2.1
    have h4 : HV 4 5 I' J' := hv.mv v0 v1 v4 v5 v6
    obtain ⟨c1, -, c16, -, c15, c31, c36, c41, c42, c37, c29⟩ := h
    refine CV.f ?_
    unfold CV at *
    refine ⟨by rw [f 1 (by omega)]; exact c1, h4, c16.mv (by rw [f 16 (by omega)]) (by rw [f 16 (by omega)]) (by rw [f 16 (by omega)]) (by rw [g 16 (by omega)]) (fun s _ => by rw [f 17 (by omega)]), by rw [vc]; exact hr, by rw [f 15 (by omega)]; exact c15, by rw [f 31 (by omega)]; exact c31, by rw [f 36 (by omega)]; exact c36, by rw [f 41 (by omega)]; exact c41, by rw [f 42 (by omega)]; exact c42, by rw [f 37 (by omega)]; exact c37, by rw [f 29 (by omega)]; exact c29⟩
end GV0
