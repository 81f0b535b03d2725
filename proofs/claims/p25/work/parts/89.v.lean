section
section GV0
variable {S : Nat × (Nat → Int32)} {d : Nat} {x x' : mX} {I I' : rI0} {J J' : rJ0}
theorem so_n {o : Option Nat} {a : Nat} (h : o = some a) : ¬ o = none := by
  rw [h]
  intro z
  cases z
theorem EvX.lt {a : Nat} (h : EvX x a) : a + 11 < 68 + x.1.length := by
  have h1 : (SHL ++ x.1)[a + 11]? = some (1, 30) := h.1.2.2.2.2.2.2.2.2.2.2.2
  rcases Nat.lt_or_ge (a + 11) (SHL ++ x.1).length with z | z
  · rw [List.length_append, SHL_len] at z
    exact z
  · rw [List.getElem?_eq_none z] at h1
    cases h1
theorem EvX.mv {a : Nat} (h : EvX x a) (hs : ∀ b, b ≤ a + 11 → sh x' b = sh x b) (hr : ∀ b, b ≤ a + 11 → b ≠ 27 → x'.2.1 b = x.2.1 b) (ha : 68 ≤ a) : EvX x' a := by
  have r0 : ∀ k, rf x' a k = rf x a k := fun k => congrFun (RRk_b (hr a (by omega) (by omega))) k
  have r1 : ∀ k, rf x' (a + 1) k = rf x (a + 1) k := fun k => congrFun (RRk_b (hr (a + 1) (by omega) (by omega))) k
  unfold EvX at *
  rw [hs a (by omega), hs (a + 1) (by omega), hs (a + 2) (by omega), hs (a + 3) (by omega), hs (a + 4) (by omega), hs (a + 5) (by omega), hs (a + 6) (by omega), hs (a + 7) (by omega), hs (a + 8) (by omega), hs (a + 9) (by omega), hs (a + 10) (by omega), hs (a + 11) (by omega), r0, r0, r0, r0, r1, r1, r1, r1, r1, r1, r1]
  exact h
theorem EvX.no {a i : Nat} (h : EvX x a) (h0 : 1 ≤ i) (h1 : i ≤ 11) : ¬ sh x (a + i) = some (0, 2) := by
  obtain ⟨⟨s0, s1, s2, s3, s4, s5, s6, s7, s8, s9, s10, s11⟩, -, -⟩ := h
  intro z
  rcases (show i = 1 ∨ i = 2 ∨ i = 3 ∨ i = 4 ∨ i = 5 ∨ i = 6 ∨ i = 7 ∨ i = 8 ∨ i = 9 ∨ i = 10 ∨ i = 11 by omega) with e | e | e | e | e | e | e | e | e | e | e <;> subst e
  · exact absurd (s1.symm.trans z) (by decide)
  · exact absurd (s2.symm.trans z) (by decide)
  · exact absurd (s3.symm.trans z) (by decide)
  · exact absurd (s4.symm.trans z) (by decide)
  · exact absurd (s5.symm.trans z) (by decide)
  · exact absurd (s6.symm.trans z) (by decide)
  · exact absurd (s7.symm.trans z) (by decide)
  · exact absurd (s8.symm.trans z) (by decide)
  · exact absurd (s9.symm.trans z) (by decide)
  · exact absurd (s10.symm.trans z) (by decide)
  · exact absurd (s11.symm.trans z) (by decide)
theorem EvX.dj {a b : Nat} (h : EvX x a) (g : EvX x b) : a = b ∨ a + 12 ≤ b ∨ b + 12 ≤ a := by
  rcases (show a = b ∨ a + 12 ≤ b ∨ b + 12 ≤ a ∨ (a < b ∧ b ≤ a + 11) ∨ (b < a ∧ a ≤ b + 11) by omega) with z | z | z | z | z
  · exact Or.inl z
  · exact Or.inr (Or.inl z)
  · exact Or.inr (Or.inr z)
  · refine absurd g.1.1 ?_
    have := h.no (i := b - a) (by omega) (by omega)
    rw [show a + (b - a) = b by omega] at this
    exact this
  · refine absurd h.1.1 ?_
    have := g.no (i := a - b) (by omega) (by omega)
    rw [show b + (a - b) = a by omega] at this
    exact this
/-- the kept evenings within bounds -/
def KX (x : mX) (I : rI0) (J : rJ0) : Prop := ∀ k, k < 2 → x.2.1 27 k = none ∨ ∃ a, 68 ≤ a ∧ x.2.1 27 k = some a ∧ EvX x a ∧ HV (a + 1) (a + 2) I J ∧ RB (I a 4) 30
theorem HV.mv {h q h' q' : Nat} (v : HV h q I J) (e0 : I' h' 0 = I h 0) (e1 : I' h' 1 = I h 1) (e4 : I' h' 4 = I h 4) (e5 : J' h' 5 = J h 5) (eq : ∀ s, s < 64 → I' q' s = I q s) : HV h' q' I' J' := by
  obtain ⟨v0, v1, v4, vk, vs⟩ := v
  exact ⟨by rw [e0]; exact v0, by rw [e1]; exact v1, by rw [e4]; exact v4, fun s hs => by rw [eq s hs]; exact vk s hs, fun s hs hb => by rw [eq s hs]; exact vs s hs (by rw [← e5]; exact hb)⟩
theorem KX.mv (h : KX x I J) (hi : ∀ b, 68 ≤ b → I' b = I b) (hj : ∀ b, 68 ≤ b → J' b = J b) : KX x I' J' := by
  intro k hk
  rcases h k hk with z | ⟨a, ha, e, ev, hv, hr⟩
  · exact Or.inl z
  · exact Or.inr ⟨a, ha, e, ev, hv.mv (by rw [hi (a + 1) (by omega)]) (by rw [hi (a + 1) (by omega)]) (by rw [hi (a + 1) (by omega)]) (by rw [hj (a + 1) (by omega)]) (fun s _ => by rw [hi (a + 2) (by omega)]), by rw [hi a (by omega)]; exact hr⟩
theorem KX.t (h : KX x I J) {q : Nat × Nat} {m : Nat} : KX (xA x q m) (va_up I (68 + x.1.length) (fun _ => 0)) (va_up J (68 + x.1.length) (fun _ => 0)) := by
  intro k hk
  rcases h k hk with z | ⟨a, ha, e, ev, hv, hr⟩
  · refine Or.inl ?_
    rw [xA_kf (n := 68 + x.1.length) rfl (by omega)]
    exact z
  · have l := ev.lt
    have f : ∀ b, b ≤ a + 11 → va_up I (68 + x.1.length) (fun _ => 0) b = I b := fun b hb => vu_ne (by omega)
    have g : ∀ b, b ≤ a + 11 → va_up J (68 + x.1.length) (fun _ => 0) b = J b := fun b hb => vu_ne (by omega)
    refine Or.inr ⟨a, ha, ?_, ev.mv (fun b hb => xA_old (n := 68 + x.1.length) rfl (by omega)) (fun b hb _ => xA_kf (n := 68 + x.1.length) rfl (by omega)) ha, hv.mv (by rw [f (a + 1) (by omega)]) (by rw [f (a + 1) (by omega)]) (by rw [f (a + 1) (by omega)]) (by rw [g (a + 1) (by omega)]) (fun s _ => by rw [f (a + 2) (by omega)]), by rw [f a (by omega)]; exact hr⟩
    rw [xA_kf (n := 68 + x.1.length) rfl (by omega)]
    exact e
theorem CV.eq (h : CV I J) (hi : ∀ b, b < 43 → I' b = I b) (hj : ∀ b, b < 43 → J' b = J b) : CV I' J' := by
  unfold CV HV at *
  rw [hi 1 (by omega), hi 4 (by omega), hi 5 (by omega), hi 16 (by omega), hi 17 (by omega), hi 3 (by omega), hi 15 (by omega), hi 31 (by omega), hi 36 (by omega), hi 41 (by omega), hi 42 (by omega), hi 37 (by omega), hi 29 (by omega), hj 4 (by omega), hj 16 (by omega)]
  exact h
/-- the copy of now into a kept block -/
theorem img33 {a t : Nat} {Q : mX → Int32 → rI0 → rJ0 → Prop} (h : CV I J) (ht : t < 2) (ha : 68 ≤ a) (ev : EvX x a) (er : x.2.1 27 t = some a) (hk : ∀ k, k < 2 → x.2.1 27 k = none ∨ ∃ a, 68 ≤ a ∧ x.2.1 27 k = some a ∧ EvX x a ∧ (k ≠ t → HV (a + 1) (a + 2) I J ∧ RB (I a 4) 30)) (k : ∀ I' J', CV I' J' → KX x I' J' → (∀ b, b < 68 → I' b = I b) → (∀ b, b < 68 → J' b = J b) → CPe 3 a I J I' J' → (∀ b, ¬ (a ≤ b ∧ b ≤ a + 11) → I' b = I b ∧ J' b = J b) → Q x 1 I' J') : wp S (d + 3) 137 33 [some (.ref 0), some (.int (nI t))] [] (wv x I J) (rX Q) := by
  refine wp_seg (C := gC137) (pc1 := 38) (Lo1 := [some (.ref 0), some (.int (nI t))]) (st1' := [.int (nI t), .ref 27]) (w1 := (wv x I J)) rfl 3 rfl ?_
  refine wa_a (n := 2) rfl rfl (nI_in (by omega) (by omega)) ?_
  have e : rf x 27 (nI t).toNatClampNeg = some a := by
    rw [nI_clamp (by omega)]
    exact er
  rw [e]
  show wp S (d + 3) 137 39 [some (.ref 0), some (.int (nI t))] [.ref a] (wv x I J) (rX Q)
  refine wp_seg (C := gC137) (pc1 := 43) (Lo1 := [some (.ref 0), some (.int (nI t))]) (st1' := [.ref 3, .ref a]) (w1 := (wv x I J)) rfl 2 rfl ?_
  refine cv_V (mj := 15) (a := a) (as := [.ref 3]) (r := []) rfl rfl rfl ⟨rfl, by decide, Nat.le_of_ble_eq_true rfl, Nat.le_of_ble_eq_true rfl⟩ ev.1.1 (tAll ev EvX3 (Or.inr (by omega)) h.2.1.2.2.1 (fun I' J' f g v => ?_))
  refine wp_seg (C := gC137) (pc1 := 47) (Lo1 := [some (.ref 0), some (.int (nI t))]) (st1' := [.int (1 : Int32)]) (w1 := (wv x I' J')) rfl 1 rfl ?_
  refine wp_iret (mi := 137) (pc := 47) rfl (Or.inr ⟨rfl, Or.inr rfl⟩) ⟨x, 1, I', J', rfl, rfl, k I' J' (h.eq (fun b hb => f b (by omega)) (fun b hb => g b (by omega))) ?_ (fun b hb => f b (by omega)) (fun b hb => g b (by omega)) v (fun b hb => ⟨f b hb, g b hb⟩)⟩
  have v0 := v.1 0 (by omega)
  have v1 := v.1 1 (by omega)
  have v4 := v.1 4 (by omega)
  have v5 := v.2.1
  have v6 := v.2.2.1
  have vc := v.2.2.2.2.2.2.2.2.2.1
  have hva : HV (a + 1) (a + 2) I' J' ∧ RB (I' a 4) 30 := ⟨h.2.1.mv v0 v1 v4 v5 v6, by rw [vc]; exact h.2.2.2.1⟩
  intro s hs
  rcases hk s hs with z | ⟨b, hb, eb, evb, hvb⟩
  · exact Or.inl z
  · refine Or.inr ⟨b, hb, eb, evb, ?_⟩
    rcases ev.dj evb with z | z
    · rw [← z]
      exact hva
    · by_cases y : s = t
      · subst y
        have : a = b := Option.some.inj (er.symm.trans eb)
        omega
      · obtain ⟨w1, w2⟩ := hvb y
        exact ⟨w1.mv (by rw [f (b + 1) (by omega)]) (by rw [f (b + 1) (by omega)]) (by rw [f (b + 1) (by omega)]) (by rw [g (b + 1) (by omega)]) (fun v _ => by rw [f (b + 2) (by omega)]), by rw [f b (by omega)]; exact w2⟩
theorem zImage {p : Int32} {Q : mX → Int32 → rI0 → rJ0 → Prop} (h : CV I J) (hx : KX x I J) (hl : x.1.length < 10000) (k0 : p < 0 ∨ 1 < p → Q x 0 I J) (k1 : ¬ p < 0 → ¬ 1 < p → ∀ x' I' J', CV I' J' → KX x' I' J' → (∀ b, b < 68 → I' b = I b) → (∀ b, b < 68 → J' b = J b) → x'.1.length ≤ x.1.length + 12 ∧ x'.2.2.2 ≤ x.2.2.2 + 1100 → ¬ x'.2.1 27 p.toNatClampNeg = none ∧ (∀ s, s ≠ p.toNatClampNeg → x'.2.1 27 s = x.2.1 27 s) → (∃ a, 68 ≤ a ∧ x'.2.1 27 p.toNatClampNeg = some a ∧ EvX x' a ∧ CPe 3 a I J I' J' ∧ (x.2.1 27 p.toNatClampNeg = some a ∨ a = 68 + x.1.length) ∧ ∀ c, c < 68 + x.1.length → ¬ (a ≤ c ∧ c ≤ a + 11) → I' c = I c ∧ J' c = J c) → Q x' 1 I' J') : wcX S (d + 4) 137 [.ref 0, .int p] x I J Q := by
  show wp S (d + 4) 137 0 [some (.ref 0), some (.int p)] [] (wv x I J) (rX Q)
  have l2 : (2 : Int32).toInt = 2 := by decide
  have l1 : (1 : Int32).toInt = 1 := by decide
  refine wp_seg (C := gC137) (pc1 := 1) (Lo1 := [some (.ref 0), some (.int p)]) (st1' := [.int p]) (w1 := (wv x I J)) rfl 1 rfl ?_
  refine wi_lt (tgt := 9) rfl rfl (fun q => ?_) (fun q0 => ?_)
  · refine wp_seg (C := gC137) (pc1 := 10) (Lo1 := [some (.ref 0), some (.int p)]) (st1' := [.int (0 : Int32)]) (w1 := (wv x I J)) rfl 1 rfl ?_
    exact wp_iret (mi := 137) (pc := 10) rfl (Or.inr ⟨rfl, Or.inl rfl⟩) ⟨x, 0, I, J, rfl, rfl, k0 (Or.inl q)⟩
  refine wp_seg (C := gC137) (pc1 := 6) (Lo1 := [some (.ref 0), some (.int p)]) (st1' := [.int (2 : Int32), .int p]) (w1 := (wv x I J)) rfl 2 rfl ?_
  refine wj_lt (tgt := 11) rfl rfl (fun q2 => ?_) (fun q2 => ?_)
  · have q2 := i_lt q2
    have q1 : ¬ 1 < p := fun z => by have := i_lt z; omega
    obtain ⟨t, ht, et⟩ := i_nat (n := 1) (by omega) q0 q1
    subst et
    refine wp_seg (C := gC137) (pc1 := 16) (Lo1 := [some (.ref 0), some (.int (nI t))]) (st1' := [.int (nI t), .ref 27]) (w1 := (wv x I J)) rfl 3 rfl ?_
    refine wa_a (n := 2) rfl rfl (nI_in (by omega) (by omega)) ?_
    rw [nI_clamp (by omega)]
    rcases hx t (by omega) with z | ⟨a, ha, e, ev, hv, hr⟩
    · rw [show rf x 27 t = none from z]
      refine wp_nl (off := 16) rfl ?_
      show wp S (d + 4) 137 20 [some (.ref 0), some (.int (nI t))] [] (wv x I J) (rX Q)
      refine wp_seg (C := gC137) (pc1 := 25) (Lo1 := [some (.ref 0), some (.int (nI t))]) (st1' := [.int (nI t), .ref 27]) (w1 := (wv x I J)) rfl 3 rfl ?_
      refine wn_new (ci := 2) (n := 7) rfl rfl (by decide) rfl (by omega) ?_
      generalize ea : 68 + x.1.length = a
      have ha : 68 ≤ a := by omega
      have k1x := hx.t (q := (0, 2)) (m := 7)
      rw [ea] at k1x
      have hl1 := xA_len (q := (0, 2)) (m := 7) ea
      have sn := xA_new (q := (0, 2)) (m := 7) ea
      have fS0 := fun b hb => xA_old (q := (0, 2)) (m := 7) (b := b) ea hb
      have fR0 := fun b hb => xA_kf (q := (0, 2)) (m := 7) (b := b) ea hb
      have z2 : (xA x (0, 2) 7).2.2.2 = x.2.2.2 + 7 := rfl
      have len1 : (xA x (0, 2) 7).1.length = x.1.length + 1 := by omega
      generalize xA x (0, 2) 7 = x1 at *
      have fI0 : ∀ b, b ≠ a → va_up I a (fun _ => 0) b = I b := fun b hb => vu_ne hb
      have fJ0 : ∀ b, b ≠ a → va_up J a (fun _ => 0) b = J b := fun b hb => vu_ne hb
      generalize va_up I a (fun _ => 0) = I1 at *
      generalize va_up J a (fun _ => 0) = J1 at *
      refine wp_seg (C := gC137) (pc1 := 29) (Lo1 := [some (.ref 0), some (.int (nI t))]) (st1' := [.ref a, .ref a, .int (nI t), .ref 27]) (w1 := (wv x1 I1 J1)) rfl 1 rfl ?_
      refine wp_ci (mj := 13) (nn := 1) (a := a) (as := []) (r := [.ref a, .int (nI t), .ref 27]) rfl rfl rfl ⟨rfl, by decide, Nat.le_of_ble_eq_true rfl, Nat.le_of_ble_eq_true rfl⟩ ?_
      refine evInit (by omega) ha sn (by omega) (fun x2 I2 J2 ev2 len2 fS fR fI fJ cz => ⟨rfl, ?_⟩)
      show wp S (d + 4) 137 32 [some (.ref 0), some (.int (nI t))] [.ref a, .int (nI t), .ref 27] (wv x2 I2 J2) (rX Q)
      refine ws_a (n := 2) rfl rfl ev2.1.1 (nI_in (by omega) (by omega)) ?_
      rw [nI_clamp (by omega)]
      have r27 : ∀ s, x2.2.1 27 s = x.2.1 27 s := fun s => by rw [fR 27 (by omega), fR0 27 (by omega)]
      have kr : ∀ s, s ≠ t → (xR x2 27 t a).2.1 27 s = x.2.1 27 s := fun s hs => (show mSet x2.2.1 27 t (some a) 27 s = x2.2.1 27 s from mSet_x (fun z => hs z.2)).trans (r27 s)
      have ev3 : EvX (xR x2 27 t a) a := ev2.mv (fun b hb => rfl) (fun b hb h27 => mSet_ne h27) ha
      refine img33 (d := d + 1) (x := xR x2 27 t a) (h.eq (fun b hb => by rw [fI b (by omega), fI0 b (by omega)]) (fun b hb => by rw [fJ b (by omega), fJ0 b (by omega)])) (by omega) ha ev3 (show mSet x2.2.1 27 t (some a) 27 t = some a from mSet_at) (fun s hs => ?_) (fun I' J' c' kx f' g' cp fo => k1 q0 q1 (xR x2 27 t a) I' J' c' kx (fun b hb => by rw [f' b hb, fI b (by omega), fI0 b (by omega)]) (fun b hb => by rw [g' b hb, fJ b (by omega), fJ0 b (by omega)]) ?_ ?_ ⟨a, ha, by rw [nI_clamp (by omega)]; exact (show mSet x2.2.1 27 t (some a) 27 t = some a from mSet_at), ev3, cp.src (fun b h1 h2 => ⟨by rw [fI b (by omega), fI0 b (by omega)], by rw [fJ b (by omega), fJ0 b (by omega)]⟩), Or.inr ea.symm, fun c hc hn => ⟨by rw [(fo c hn).1, fI c (by omega), fI0 c (by omega)], by rw [(fo c hn).2, fJ c (by omega), fJ0 c (by omega)]⟩⟩)
      · by_cases y : s = t
        · subst y
          exact Or.inr ⟨a, ha, (show mSet x2.2.1 27 s (some a) 27 s = some a from mSet_at), ev3, fun z => absurd rfl z⟩
        · rw [kr s y]
          rcases hx s hs with w | ⟨b, hb, eb, evb, hvb, hrb⟩
          · exact Or.inl w
          · have lb := evb.lt
            have fi : ∀ c, c ≤ b + 11 → I2 c = I c := fun c hc => by rw [fI c (by omega), fI0 c (by omega)]
            have fj : ∀ c, c ≤ b + 11 → J2 c = J c := fun c hc => by rw [fJ c (by omega), fJ0 c (by omega)]
            refine Or.inr ⟨b, hb, eb, evb.mv (fun c hc => (show sh (xR x2 27 t a) c = sh x2 c from rfl).trans ((fS c (by omega)).trans (fS0 c (by omega)))) (fun c hc h27 => (mSet_ne h27).trans ((fR c (by omega)).trans (fR0 c (by omega)))) hb, fun _ => ⟨hvb.mv (by rw [fi (b + 1) (by omega)]) (by rw [fi (b + 1) (by omega)]) (by rw [fi (b + 1) (by omega)]) (by rw [fj (b + 1) (by omega)]) (fun v _ => by rw [fi (b + 2) (by omega)]), by rw [fi b (by omega)]; exact hrb⟩⟩
      · show x2.1.length ≤ _ ∧ x2.2.2.2 ≤ _
        omega
      · rw [nI_clamp (by omega)]
        exact ⟨so_n (show mSet x2.2.1 27 t (some a) 27 t = some a from mSet_at), kr⟩
    · rw [show rf x 27 t = some a from e]
      refine wp_nn (off := 16) rfl ?_
      show wp S (d + 4) 137 33 [some (.ref 0), some (.int (nI t))] [] (wv x I J) (rX Q)
      refine img33 (d := d + 1) h (by omega) ha ev e (fun s hs => ?_) (fun I' J' c' kx f' g' cp fo => k1 q0 q1 x I' J' c' kx f' g' (by omega) (by rw [nI_clamp (by omega)]; exact ⟨so_n e, fun _ _ => rfl⟩) ⟨a, ha, by rw [nI_clamp (by omega)]; exact e, ev, cp, by rw [nI_clamp (by omega)]; exact Or.inl e, fun c _ hn => fo c hn⟩)
      rcases hx s hs with w | ⟨b, hb, eb, evb, hvb, hrb⟩
      · exact Or.inl w
      · exact Or.inr ⟨b, hb, eb, evb, fun _ => ⟨hvb, hrb⟩⟩
  · have q2 := i_nlt q2
    refine wp_seg (C := gC137) (pc1 := 10) (Lo1 := [some (.ref 0), some (.int p)]) (st1' := [.int (0 : Int32)]) (w1 := (wv x I J)) rfl 1 rfl ?_
    refine wp_iret (mi := 137) (pc := 10) rfl (Or.inr ⟨rfl, Or.inl rfl⟩) ⟨x, 0, I, J, rfl, rfl, k0 (Or.inr ?_)⟩
    exact Int32.lt_iff_toInt_lt.mpr (by omega)
theorem zRestore {p : Int32} {Q : Int32 → rI0 → rJ0 → Prop} (h : CV I J) (hx : KX x I J) (k0 : p < 0 ∨ 1 < p ∨ x.2.1 27 p.toNatClampNeg = none → Q 0 I J) (k1 : ¬ p < 0 → ¬ 1 < p → ¬ x.2.1 27 p.toNatClampNeg = none → ∀ I' J', CV I' J' → UK I J I' J' → (∃ a, 68 ≤ a ∧ x.2.1 27 p.toNatClampNeg = some a ∧ CPe a 3 I J I' J') → I' 0 = I 0 → Q 1 I' J') : wcI S (d + 4) 138 [.ref 0, .int p] x I J Q := by
  show wp S (d + 4) 138 0 [some (.ref 0), some (.int p)] [] (wv x I J) (rI x Q)
  have l2 : (2 : Int32).toInt = 2 := by decide
  have l1 : (1 : Int32).toInt = 1 := by decide
  have z18 : (p < 0 ∨ 1 < p ∨ x.2.1 27 p.toNatClampNeg = none) → wp S (d + 4) 138 18 [some (.ref 0), some (.int p)] [] (wv x I J) (rI x Q) := by
    intro z
    refine wp_seg (C := gC138) (pc1 := 19) (Lo1 := [some (.ref 0), some (.int p)]) (st1' := [.int (0 : Int32)]) (w1 := (wv x I J)) rfl 1 rfl ?_
    exact we_z rfl rfl (Or.inl rfl) (k0 z)
  refine wp_seg (C := gC138) (pc1 := 1) (Lo1 := [some (.ref 0), some (.int p)]) (st1' := [.int p]) (w1 := (wv x I J)) rfl 1 rfl ?_
  refine wi_lt (tgt := 18) rfl rfl (fun q => z18 (Or.inl q)) (fun q0 => ?_)
  refine wp_seg (C := gC138) (pc1 := 6) (Lo1 := [some (.ref 0), some (.int p)]) (st1' := [.int (2 : Int32), .int p]) (w1 := (wv x I J)) rfl 2 rfl ?_
  refine wj_ge (tgt := 18) rfl rfl (fun q2 => ?_) (fun q2 => z18 (Or.inr (Or.inl (Int32.lt_iff_toInt_lt.mpr (by have := i_nlt q2; omega)))))
  have q2 := i_lt q2
  have q1 : ¬ 1 < p := fun z => by have := i_lt z; omega
  obtain ⟨t, ht, et⟩ := i_nat (n := 1) (by omega) q0 q1
  subst et
  refine wp_seg (C := gC138) (pc1 := 14) (Lo1 := [some (.ref 0), some (.int (nI t))]) (st1' := [.int (nI t), .ref 27]) (w1 := (wv x I J)) rfl 3 rfl ?_
  refine wa_a (n := 2) rfl rfl (nI_in (by omega) (by omega)) ?_
  rw [nI_clamp (by omega)]
  rcases hx t (by omega) with z | ⟨a, ha, e, ev, hv, hr⟩
  · rw [show rf x 27 t = none from z]
    refine wp_nl (off := 5) rfl ?_
    exact z18 (Or.inr (Or.inr (by rw [nI_clamp (by omega)]; exact z)))
  · rw [show rf x 27 t = some a from e]
    refine wp_nn (off := 5) rfl ?_
    show wp S (d + 4) 138 20 [some (.ref 0), some (.int (nI t))] [] (wv x I J) (rI x Q)
    refine wp_seg (C := gC138) (pc1 := 29) (Lo1 := [some (.ref 0), some (.int (nI t))]) (st1' := [.int (nI t), .ref 27, .ref 3]) (w1 := (wv x I J)) rfl 5 rfl ?_
    refine wa_a (n := 2) rfl rfl (nI_in (by omega) (by omega)) ?_
    rw [nI_clamp (by omega), show rf x 27 t = some a from e]
    show wp S (d + 4) 138 30 [some (.ref 0), some (.int (nI t))] [.ref a, .ref 3] (wv x I J) (rI x Q)
    refine cv_V (mj := 15) (a := 3) (as := [.ref a]) (r := []) rfl rfl rfl ⟨rfl, by decide, Nat.le_of_ble_eq_true rfl, Nat.le_of_ble_eq_true rfl⟩ rfl (tAll (d := d + 1) EvX3 ev (Or.inl (by omega)) hv.2.2.1 (fun I' J' f g v => ?_))
    refine wp_seg (C := gC138) (pc1 := 37) (Lo1 := [some (.ref 0), some (.int (nI t))]) (st1' := [.ref 31]) (w1 := (wv x I' J')) rfl 2 rfl ?_
    refine cv_V (mj := 6) (a := 31) (as := []) (r := []) rfl rfl rfl ⟨rfl, by decide, Nat.le_of_ble_eq_true rfl, Nat.le_of_ble_eq_true rfl⟩ rfl (c6_31 ?_)
    refine wp_seg (C := gC138) (pc1 := 41) (Lo1 := [some (.ref 0), some (.int (nI t))]) (st1' := [.int (1 : Int32)]) (w1 := (wv x (mSet I' 31 6 0) J')) rfl 1 rfl ?_
    refine we_z rfl rfl (Or.inr rfl) (k1 q0 q1 (by rw [nI_clamp (by omega)]; exact so_n e) _ _ ?_ ⟨⟨fun b hb => by rw [mSet_ne (by omega)]; exact f b (by omega), fun b hb => g b (by omega)⟩, by rw [mSet_ne (by decide), f 1 (by omega)]⟩ ⟨a, ha, by rw [nI_clamp (by omega)]; exact e, v⟩ (by rw [mSet_ne (by decide)]; exact f 0 (by omega)))
    have v0 := v.1 0 (by omega)
    have v1 := v.1 1 (by omega)
    have v4 := v.1 4 (by omega)
    have v5 := v.2.1
    have v6 := v.2.2.1
    have vc := v.2.2.2.2.2.2.2.2.2.1
    have h4 : HV 4 5 I' J' := hv.mv v0 v1 v4 v5 v6
    obtain ⟨c1, -, c16, -, c15, c31, c36, c41, c42, c37, c29⟩ := h
    refine CV.f ?_
    unfold CV at *
    refine ⟨by rw [f 1 (by omega)]; exact c1, h4, c16.mv (by rw [f 16 (by omega)]) (by rw [f 16 (by omega)]) (by rw [f 16 (by omega)]) (by rw [g 16 (by omega)]) (fun s _ => by rw [f 17 (by omega)]), by rw [vc]; exact hr, by rw [f 15 (by omega)]; exact c15, by rw [f 31 (by omega)]; exact c31, by rw [f 36 (by omega)]; exact c36, by rw [f 41 (by omega)]; exact c41, by rw [f 42 (by omega)]; exact c42, by rw [f 37 (by omega)]; exact c37, by rw [f 29 (by omega)]; exact c29⟩
end GV0
end
section
/-! pure tokens: positions over bytes b (0..255) of a text of n bytes; Bool predicates -/
def tBlk (c : Int32) : Bool := decide (c = 32) || decide (c = 10)
def tAlp (c : Int32) : Bool := decide (¬ c < 97) && decide (¬ 122 < c)
def tDgt (c : Int32) : Bool := decide (¬ c < 48) && decide (¬ 57 < c)
def tAln (c : Int32) : Bool := tAlp c || tDgt c
def tGo (P : Int32 → Bool) (b : Nat → Int32) : Nat → Nat → Nat
  | 0, p => p
  | f + 1, p => if P (b p) = true then tGo P b f (p + 1) else p
/-- behind the blanks; behind the letters and digits -/
def tSk (b : Nat → Int32) (n p : Nat) : Nat := tGo tBlk b (n - p) p
def tRn (b : Nat → Int32) (n p : Nat) : Nat := tGo tAln b (n - p) p
section TK0
variable {P : Int32 → Bool} {b : Nat → Int32} {n p : Nat}
theorem tGo_s (h : p < n) (hp : P (b p) = true) : tGo P b (n - p) p = tGo P b (n - (p + 1)) (p + 1) := by
  rw [show n - p = (n - (p + 1)) + 1 by omega]
  show (if P (b p) = true then _ else _) = _
  rw [if_pos hp]
theorem tGo_e (h : ¬ (p < n ∧ P (b p) = true)) : tGo P b (n - p) p = p := by
  by_cases z : p < n
  · rw [show n - p = (n - (p + 1)) + 1 by omega]
    show (if P (b p) = true then _ else _) = _
    rw [if_neg (fun y => h ⟨z, y⟩)]
  · rw [show n - p = 0 by omega]
    rfl
theorem tGo_le : ∀ f p, p ≤ tGo P b f p ∧ tGo P b f p ≤ p + f := by
  intro f
  induction f with
  | zero => intro p; exact ⟨Nat.le_refl _, Nat.le_refl _⟩
  | succ f ih =>
    intro p
    show p ≤ (if P (b p) = true then tGo P b f (p + 1) else p) ∧ (if P (b p) = true then tGo P b f (p + 1) else p) ≤ _
    split
    · have := ih (p + 1)
      omega
    · omega
theorem tGo_in : ∀ f p i, p ≤ i → i < tGo P b f p → P (b i) = true := by
  intro f
  induction f with
  | zero =>
    intro p i h1 h2
    have : i < p := h2
    omega
  | succ f ih =>
    intro p i h1 h2
    have h2 : i < (if P (b p) = true then tGo P b f (p + 1) else p) := h2
    split at h2
    · rcases (show i = p ∨ p + 1 ≤ i by omega) with z | z
      · subst z; assumption
      · exact ih (p + 1) i z h2
    · omega
/-- how many of the bytes p .. e - 1 are such; the number that digits spell -/
def tCn (P : Int32 → Bool) (b : Nat → Int32) (p : Nat) : Nat → Nat
  | 0 => 0
  | k + 1 => tCn P b p k + (if P (b (p + k)) = true then 1 else 0)
def tVl (b : Nat → Int32) (p : Nat) : Nat → Int32
  | 0 => 0
  | k + 1 => tVl b p k * 10 + b (p + k) - 48
/-- the kind of the token at p (blanks behind us), as the program names it: 0 none, 1 end, 2 word, 3 number, else the sign -/
def tkK (b : Nat → Int32) (n lim p : Nat) : Int32 :=
  if min n lim ≤ p then (if lim < n then 0 else 1)
  else if tRn b n p = p then (if b p = 59 ∨ b p = 40 ∨ b p = 41 ∨ (¬ b p < 60 ∧ ¬ 62 < b p) then b p else 0)
  else if tCn tDgt b p (tRn b n p - p) = 0 then (if tRn b n p - p ≤ 8 then 2 else 0)
  else if tCn tAlp b p (tRn b n p - p) = 0 ∧ tRn b n p - p ≤ 3 then 3 else 0
/-- where it stands, and where the next is looked for -/
def tkA (n lim p : Nat) : Nat := if min n lim ≤ p then min n lim else p
def tkE (b : Nat → Int32) (n lim p : Nat) : Nat := if min n lim ≤ p then p else if tRn b n p = p then p + 1 else tRn b n p
end TK0
section TK1
variable {P : Int32 → Bool} {b : Nat → Int32} {n p : Nat}
theorem tCn_0 : ∀ k, tCn P b p k = 0 ↔ ∀ i, i < k → P (b (p + i)) = false := by
  intro k
  induction k with
  | zero => exact ⟨fun _ i hi => absurd hi (by omega), fun _ => rfl⟩
  | succ k ih =>
    show tCn P b p k + _ = 0 ↔ _
    constructor
    · intro h i hi
      by_cases z : P (b (p + k)) = true
      · rw [if_pos z] at h
        omega
      · rw [if_neg z] at h
        rcases (show i = k ∨ i < k by omega) with y | y
        · subst y
          cases hh : P (b (p + i))
          · rfl
          · exact absurd hh z
        · exact ih.mp (by omega) i y
    · intro h
      rw [ih.mpr (fun i hi => h i (by omega)), h k (by omega)]
      rfl
theorem tAlp_t {c : Int32} : tAlp c = true ↔ 97 ≤ c.toInt ∧ c.toInt ≤ 122 := by
  have a : (97 : Int32).toInt = 97 := by decide
  have z : (122 : Int32).toInt = 122 := by decide
  unfold tAlp
  rw [Bool.and_eq_true, decide_eq_true_iff, decide_eq_true_iff, Int32.lt_iff_toInt_lt, Int32.lt_iff_toInt_lt, a, z]
  omega
theorem tDgt_t {c : Int32} : tDgt c = true ↔ 48 ≤ c.toInt ∧ c.toInt ≤ 57 := by
  have a : (48 : Int32).toInt = 48 := by decide
  have z : (57 : Int32).toInt = 57 := by decide
  unfold tDgt
  rw [Bool.and_eq_true, decide_eq_true_iff, decide_eq_true_iff, Int32.lt_iff_toInt_lt, Int32.lt_iff_toInt_lt, a, z]
  omega
theorem tAln_x {c : Int32} (h : tAln c = true) : tDgt c = !tAlp c := by
  unfold tAln at h
  cases h1 : tAlp c
  · rw [h1, Bool.false_or] at h
    exact h
  · cases h2 : tDgt c
    · rfl
    · have := tAlp_t.mp h1
      have := tDgt_t.mp h2
      omega
theorem tRn_in {i : Nat} (h1 : p ≤ i) (h2 : i < tRn b n p) : tAln (b i) = true := tGo_in _ _ i h1 h2
theorem tRn_le : p ≤ tRn b n p ∧ (p ≤ n → tRn b n p ≤ n) := by
  have := tGo_le (P := tAln) (b := b) (n - p) p
  exact ⟨this.1, fun h => by have := this.2; show tGo tAln b (n - p) p ≤ n; omega⟩
/-- all signs of the run are letters as the first is, or none is: the reference's 'all' -/
def tSame (b : Nat → Int32) (p : Nat) (k : Nat) : Prop := ∀ i, i < k → tAlp (b (p + i)) = tAlp (b p)
theorem tSame_w {k : Nat} (h : ∀ i, i < k → tAln (b (p + i)) = true) (hk : 0 < k) (ha : tAlp (b p) = true) : tSame b p k ↔ tCn tDgt b p k = 0 := by
  rw [tCn_0]
  constructor
  · intro s i hi
    rw [tAln_x (h i hi), s i hi, ha]
    rfl
  · intro s i hi
    have e := s i hi
    rw [tAln_x (h i hi)] at e
    rw [ha]
    cases z : tAlp (b (p + i))
    · rw [z] at e
      cases e
    · rfl
theorem tSame_n {k : Nat} (h : ∀ i, i < k → tAln (b (p + i)) = true) (hk : 0 < k) (ha : tAlp (b p) = false) : tSame b p k ↔ tCn tAlp b p k = 0 := by
  rw [tCn_0]
  constructor
  · intro s i hi
    rw [s i hi, ha]
  · intro s i hi
    rw [s i hi, ha]
end TK1
/-! words: eight letters packed into a long against the letters themselves -/
section WD0
variable {b c : Nat → Int32} {p : Nat}
def tPk (b : Nat → Int32) (p : Nat) : Nat → Int64
  | 0 => 0
  | k + 1 => (tPk b p k <<< ((8 : Int32).toInt64 &&& 63)) ||| (b (p + k)).toInt64
def tPkN (b : Nat → Int32) (p : Nat) : Nat → Nat
  | 0 => 0
  | k + 1 => tPkN b p k * 256 + (b (p + k)).toInt.toNat
theorem tPkN_lt : ∀ k, (∀ i, i < k → (b (p + i)).toInt ≤ 255) → tPkN b p k < 256 ^ k := by
  intro k
  induction k with
  | zero => intro _; exact Nat.one_pos
  | succ k ih =>
    intro h
    have h1 := ih (fun i hi => h i (by omega))
    have h2 := h k (by omega)
    show tPkN b p k * 256 + _ < 256 ^ k * 256
    omega
theorem tPkN_inj : ∀ k m q, (∀ i, i < k → 1 ≤ (b (p + i)).toInt ∧ (b (p + i)).toInt ≤ 255) → (∀ i, i < m → 1 ≤ (c (q + i)).toInt ∧ (c (q + i)).toInt ≤ 255) → tPkN b p k = tPkN c q m → k = m ∧ ∀ i, i < m → b (p + i) = c (q + i) := by
  intro k
  induction k with
  | zero =>
    intro m q _ hc e
    cases m with
    | zero => exact ⟨rfl, fun i hi => absurd hi (by omega)⟩
    | succ m =>
      have := hc m (by omega)
      have e : 0 = tPkN c q m * 256 + (c (q + m)).toInt.toNat := e
      omega
  | succ k ih =>
    intro m q hb hc e
    have h1 := hb k (by omega)
    cases m with
    | zero =>
      have e : tPkN b p k * 256 + (b (p + k)).toInt.toNat = 0 := e
      omega
    | succ m =>
      have h2 := hc m (by omega)
      have e : tPkN b p k * 256 + (b (p + k)).toInt.toNat = tPkN c q m * 256 + (c (q + m)).toInt.toNat := e
      have e1 : (b (p + k)).toInt = (c (q + m)).toInt := by omega
      obtain ⟨e2, e3⟩ := ih m q (fun i hi => hb i (by omega)) (fun i hi => hc i (by omega)) (by omega)
      subst e2
      refine ⟨rfl, fun i hi => ?_⟩
      rcases (show i = k ∨ i < k by omega) with z | z
      · subst z; exact Int32.toInt_inj.mp e1
      · exact e3 i z
theorem tBvn {v : Int32} (h : 0 ≤ v.toInt) : v.toInt64.toBitVec.toNat = v.toInt.toNat := by
  have e : v.toInt64.toInt = v.toInt := Int32.toInt_toInt64 v
  have e2 : v.toInt64.toBitVec.toInt = v.toInt := e
  rw [BitVec.toInt_eq_toNat_cond] at e2
  have := v.toInt64.toBitVec.isLt
  split at e2 <;> omega
theorem tPk_n : ∀ k, k ≤ 8 → (∀ i, i < k → 0 ≤ (b (p + i)).toInt ∧ (b (p + i)).toInt ≤ 255) → (tPk b p k).toBitVec.toNat = tPkN b p k := by
  intro k
  induction k with
  | zero => intro _ _; rfl
  | succ k ih =>
    intro hk h
    have e := ih (by omega) (fun i hi => h i (by omega))
    have l := tPkN_lt (b := b) (p := p) k (fun i hi => (h i (by omega)).2)
    have hb := h k (by omega)
    show ((tPk b p k <<< ((8 : Int32).toInt64 &&& 63)) ||| (b (p + k)).toInt64).toBitVec.toNat = tPkN b p k * 256 + (b (p + k)).toInt.toNat
    have l2 : tPkN b p k < 256 ^ 7 := Nat.lt_of_lt_of_le l (Nat.pow_le_pow_right (by decide) (by omega))
    have sh : (((8 : Int32).toInt64 &&& 63).toBitVec.smod 64) = 8#64 := by decide
    rw [Int64.toBitVec_or, Int64.toBitVec_shiftLeft, sh, BitVec.toNat_or, BitVec.shiftLeft_eq', BitVec.toNat_shiftLeft, e, tBvn hb.1]
    have s8 : (8#64).toNat = 8 := rfl
    rw [s8, Nat.mod_eq_of_lt (by rw [Nat.shiftLeft_eq]; omega), ← Nat.shiftLeft_add_eq_or_of_lt (by omega), Nat.shiftLeft_eq]
/-- the word is that one: as long, and letter by letter -/
theorem tPk_is {k m : Nat} (hk : k ≤ 8) (hm : m ≤ 8) (hb : ∀ i, i < k → 1 ≤ (b (p + i)).toInt ∧ (b (p + i)).toInt ≤ 255) (hc : ∀ i, i < m → 1 ≤ (c (0 + i)).toInt ∧ (c (0 + i)).toInt ≤ 255) : tPk b p k = tPk c 0 m ↔ k = m ∧ ∀ i, i < m → b (p + i) = c i := by
  have e1 := tPk_n (b := b) (p := p) k hk (fun i hi => by have := hb i hi; omega)
  have e2 := tPk_n (b := c) (p := 0) m hm (fun i hi => by have := hc i hi; omega)
  constructor
  · intro h
    have h3 : tPkN b p k = tPkN c 0 m := by rw [← e1, ← e2, h]
    obtain ⟨a1, a2⟩ := tPkN_inj k m 0 hb hc h3
    exact ⟨a1, fun i hi => by rw [a2 i hi, Nat.zero_add]⟩
  · rintro ⟨rfl, h⟩
    have : ∀ j, j ≤ k → tPk b p j = tPk c 0 j := by
      intro j
      induction j with
      | zero => intro _; rfl
      | succ j ih =>
        intro hj
        show (tPk b p j <<< _) ||| _ = (tPk c 0 j <<< _) ||| _
        rw [ih (by omega), h j (by omega), Nat.zero_add]
    exact this k (Nat.le_refl _)
end WD0
section WD1
variable {b c : Nat → Int32} {p : Nat}
/-- the same of a table's word, blanks behind it, against the token's letters, blanks behind them -/
theorem tPad_is {k m : Nat} (hk : k ≤ 8) (hm : m ≤ 8) (hb : ∀ i, i < k → ¬ b (p + i) = 32) (hc : ∀ i, i < m → ¬ c i = 32) : (∀ i, i < 8 → (if i < m then c i else 32) = (if i < k then b (p + i) else 32)) ↔ k = m ∧ ∀ i, i < m → b (p + i) = c i := by
  constructor
  · intro h
    have e : k = m := by
      rcases (show k = m ∨ k < m ∨ m < k by omega) with z | z | z
      · exact z
      · have := h k (by omega)
        rw [if_pos z, if_neg (by omega)] at this
        exact absurd this (hc k z)
      · have := h m (by omega)
        rw [if_neg (by omega), if_pos z] at this
        exact absurd this.symm (hb m z)
    subst e
    refine ⟨rfl, fun i hi => ?_⟩
    have := h i (by omega)
    rw [if_pos hi, if_pos hi] at this
    exact this.symm
  · rintro ⟨rfl, h⟩ i _
    by_cases z : i < k
    · rw [if_pos z, if_pos z, h i z]
    · rw [if_neg z, if_neg z]
end WD1
section TK2
variable {P : Int32 → Bool} {b : Nat → Int32} {n lim p : Nat}
/-- the token that is found from p on: its kind, place, end, length, packed word (0: no word), number -/
def uK (b : Nat → Int32) (n lim p : Nat) : Int32 := tkK b n lim (tSk b n p)
def uA (b : Nat → Int32) (n lim p : Nat) : Nat := tkA n lim (tSk b n p)
def uE (b : Nat → Int32) (n lim p : Nat) : Nat := tkE b n lim (tSk b n p)
def uL (b : Nat → Int32) (n p : Nat) : Nat := tRn b n (tSk b n p) - tSk b n p
def uW (b : Nat → Int32) (n lim p : Nat) : Int64 := if uK b n lim p = 2 then tPk b (tSk b n p) (uL b n p) else 0
def uV (b : Nat → Int32) (n p : Nat) : Int32 := tVl b (tSk b n p) (uL b n p)
theorem tSk_le : p ≤ tSk b n p ∧ (p ≤ n → tSk b n p ≤ n) := by
  have := tGo_le (P := tBlk) (b := b) (n - p) p
  exact ⟨this.1, fun h => by have := this.2; show tGo tBlk b (n - p) p ≤ n; omega⟩
theorem tGo_end : ∀ f p, ¬ (tGo P b f p < p + f ∧ P (b (tGo P b f p)) = true) := by
  intro f
  induction f with
  | zero =>
    intro p h
    exact absurd h.1 (Nat.lt_irrefl _)
  | succ f ih =>
    intro p
    show ¬ ((if P (b p) = true then tGo P b f (p + 1) else p) < p + (f + 1) ∧ P (b (if P (b p) = true then tGo P b f (p + 1) else p)) = true)
    by_cases z : P (b p) = true
    · rw [if_pos z]
      have := ih (p + 1)
      rw [show p + 1 + f = p + (f + 1) by omega] at this
      exact this
    · rw [if_neg z]
      exact fun h => z h.2
theorem tkE_le (h : p ≤ n) : p ≤ tkE b n lim p ∧ tkE b n lim p ≤ n := by
  have r := tRn_le (b := b) (n := n) (p := p)
  have r2 := r.2 h
  unfold tkE
  split
  · omega
  · split <;> omega
theorem uE_le (h : p ≤ n) : p ≤ uE b n lim p ∧ uE b n lim p ≤ n := by
  have s := tSk_le (b := b) (n := n) (p := p)
  have e := tkE_le (b := b) (lim := lim) (s.2 h)
  unfold uE
  omega
theorem uE_gt (h0 : ¬ uK b n lim p = 0) (h1 : ¬ uK b n lim p = 1) : p < uE b n lim p ∧ uA b n lim p = tSk b n p ∧ tSk b n p < min n lim := by
  have s := tSk_le (b := b) (n := n) (p := p)
  have r := tRn_le (b := b) (n := n) (p := tSk b n p)
  have a : ¬ min n lim ≤ tSk b n p := by
    intro a
    unfold uK tkK at h0 h1
    rw [if_pos a] at h0 h1
    split at h0
    · exact h0 rfl
    · rename_i y
      rw [if_neg y] at h1
      exact h1 rfl
  unfold uE uA tkE tkA
  rw [if_neg a, if_neg a]
  refine ⟨?_, rfl, by omega⟩
  split <;> omega
theorem uK_2 (h : uK b n lim p = 2) : tSk b n p < min n lim ∧ 1 ≤ uL b n p ∧ uL b n p ≤ 8 ∧ uE b n lim p = tSk b n p + uL b n p ∧ uA b n lim p = tSk b n p ∧ ∀ i, i < uL b n p → tAlp (b (tSk b n p + i)) = true := by
  have g := uE_gt (b := b) (n := n) (lim := lim) (p := p) (by rw [h]; decide) (by rw [h]; decide)
  have r := tRn_le (b := b) (n := n) (p := tSk b n p)
  unfold uK tkK at h
  rw [if_neg (by omega)] at h
  by_cases z : tRn b n (tSk b n p) = tSk b n p
  · rw [if_pos z] at h
    split at h
    · rename_i y
      rcases y with y | y | y | y
      · rw [y] at h; exact absurd h (by decide)
      · rw [y] at h; exact absurd h (by decide)
      · rw [y] at h; exact absurd h (by decide)
      · rw [h] at y; exact absurd y (by decide)
    · exact absurd h (by decide)
  · rw [if_neg z] at h
    split at h
    · rename_i y
      split at h
      · rename_i l
        refine ⟨g.2.2, ?_, l, ?_, g.2.1, ?_⟩
        · unfold uL; omega
        · unfold uE tkE uL
          rw [if_neg (by omega), if_neg z]
          omega
        · intro i hi
          have e := tCn_0 (P := tDgt) (b := b) (p := tSk b n p) (tRn b n (tSk b n p) - tSk b n p)
          have e := e.mp y i hi
          unfold uL at hi
          have a := tRn_in (b := b) (n := n) (p := tSk b n p) (i := tSk b n p + i) (by omega) (by omega)
          rw [tAln_x a] at e
          cases q : tAlp (b (tSk b n p + i))
          · rw [q] at e; cases e
          · rfl
      · exact absurd h (by decide)
    · split at h <;> exact absurd h (by decide)
theorem uK_3 (h : uK b n lim p = 3) : tSk b n p < min n lim ∧ 1 ≤ uL b n p ∧ uL b n p ≤ 3 ∧ uE b n lim p = tSk b n p + uL b n p ∧ uA b n lim p = tSk b n p ∧ ∀ i, i < uL b n p → tDgt (b (tSk b n p + i)) = true := by
  have g := uE_gt (b := b) (n := n) (lim := lim) (p := p) (by rw [h]; decide) (by rw [h]; decide)
  have r := tRn_le (b := b) (n := n) (p := tSk b n p)
  unfold uK tkK at h
  rw [if_neg (by omega)] at h
  by_cases z : tRn b n (tSk b n p) = tSk b n p
  · rw [if_pos z] at h
    split at h
    · rename_i y
      rcases y with y | y | y | y
      · rw [y] at h; exact absurd h (by decide)
      · rw [y] at h; exact absurd h (by decide)
      · rw [y] at h; exact absurd h (by decide)
      · rw [h] at y; exact absurd y (by decide)
    · exact absurd h (by decide)
  · rw [if_neg z] at h
    split at h
    · split at h <;> exact absurd h (by decide)
    · split at h
      · rename_i y
        refine ⟨g.2.2, ?_, y.2, ?_, g.2.1, ?_⟩
        · unfold uL; omega
        · unfold uE tkE uL
          rw [if_neg (by omega), if_neg z]
          omega
        · intro i hi
          have e := tCn_0 (P := tAlp) (b := b) (p := tSk b n p) (tRn b n (tSk b n p) - tSk b n p)
          have e := e.mp y.1 i hi
          unfold uL at hi
          have a := tRn_in (b := b) (n := n) (p := tSk b n p) (i := tSk b n p + i) (by omega) (by omega)
          rw [tAln_x a, e]
          rfl
      · exact absurd h (by decide)
/-- a sign's kind is the sign itself -/
theorem uK_s (h0 : ¬ uK b n lim p = 0) (h1 : ¬ uK b n lim p = 1) (h2 : ¬ uK b n lim p = 2) (h3 : ¬ uK b n lim p = 3) : uK b n lim p = b (tSk b n p) ∧ tRn b n (tSk b n p) = tSk b n p ∧ (b (tSk b n p) = 59 ∨ b (tSk b n p) = 40 ∨ b (tSk b n p) = 41 ∨ (¬ b (tSk b n p) < 60 ∧ ¬ 62 < b (tSk b n p))) := by
  have g := uE_gt (b := b) (n := n) (lim := lim) (p := p) h0 h1
  have e : uK b n lim p = (if tRn b n (tSk b n p) = tSk b n p then (if b (tSk b n p) = 59 ∨ b (tSk b n p) = 40 ∨ b (tSk b n p) = 41 ∨ (¬ b (tSk b n p) < 60 ∧ ¬ 62 < b (tSk b n p)) then b (tSk b n p) else 0)
    else if tCn tDgt b (tSk b n p) (tRn b n (tSk b n p) - tSk b n p) = 0 then (if tRn b n (tSk b n p) - tSk b n p ≤ 8 then 2 else 0)
    else if tCn tAlp b (tSk b n p) (tRn b n (tSk b n p) - tSk b n p) = 0 ∧ tRn b n (tSk b n p) - tSk b n p ≤ 3 then 3 else 0) := by
    unfold uK tkK
    rw [if_neg (by omega)]
  by_cases z : tRn b n (tSk b n p) = tSk b n p
  · rw [if_pos z] at e
    split at e
    · rename_i y
      exact ⟨e, z, y⟩
    · exact absurd e h0
  · rw [if_neg z] at e
    split at e
    · split at e
      · exact absurd e h2
      · exact absurd e h0
    · split at e
      · exact absurd e h3
      · exact absurd e h0
/-- which of a table's words stands here -/
theorem uW_2 (h : uK b n lim p = 2) : uW b n lim p = tPk b (tSk b n p) (uL b n p) := if_pos h
theorem uW_n (h : ¬ uK b n lim p = 2) : uW b n lim p = 0 := if_neg h
theorem uW_is {c : Nat → Int32} {m : Nat} (h : uK b n lim p = 2) (hm : m ≤ 8) (hc : ∀ i, i < m → 1 ≤ (c (0 + i)).toInt ∧ (c (0 + i)).toInt ≤ 255) : uW b n lim p = tPk c 0 m ↔ uL b n p = m ∧ ∀ i, i < m → b (tSk b n p + i) = c i := by
  obtain ⟨-, -, l8, -, -, al⟩ := uK_2 h
  rw [uW_2 h]
  exact tPk_is l8 hm (fun i hi => by have := tAlp_t.mp (al i hi); omega) hc
end TK2
end
section
/-! the class's tokens, exactly: read() from a place p on ends at the token that is found from p on -/
section TC0
variable {S : Nat × (Nat → Int32)} {d : Nat} {x : mX} {I : rI0} {J : rJ0} {b : Nat → Int32} {n lim p : Nat}
def Of5 (I I' : rI0) : Prop := (∀ a, a ≠ 28 → I' a = I a) ∧ ∀ k, ¬ (3 ≤ k ∧ k ≤ 6) → I' 28 k = I 28 k
theorem Of5.rf : Of5 I I := ⟨fun _ _ => rfl, fun _ _ => rfl⟩
theorem Of5.tr {I1 I2 : rI0} (h : Of5 I I1) (h2 : Of5 I1 I2) : Of5 I I2 := ⟨fun a ha => (h2.1 a ha).trans (h.1 a ha), fun k hk => (h2.2 k hk).trans (h.2 k hk)⟩
theorem Of5.s {k : Nat} {v : Int32} (hk : 3 ≤ k ∧ k ≤ 6) : Of5 I (mSet I 28 k v) := ⟨fun a ha => mSet_ne ha, fun j hj => mSet_x (by omega)⟩
def Tst (b : Nat → Int32) (n lim p : Nat) (I : rI0) : Prop := n ≤ 940 ∧ p ≤ n ∧ I 2 = b ∧ I 28 1 = nI n ∧ I 28 2 = nI (min n lim) ∧ I 28 5 = nI p
def Tck (b : Nat → Int32) (n lim p : Nat) (I : rI0) : Prop := p ≤ n ∧ Tst b n lim (uE b n lim p) I ∧ I 28 3 = uK b n lim p ∧ I 28 4 = nI (uA b n lim p) ∧ (uK b n lim p = 3 → I 28 6 = uV b n p)
/-- the number, of the digits alone -/
def tVc (b : Nat → Int32) (p : Nat) : Nat → Int32
  | 0 => 0
  | k + 1 => if tDgt (b (p + k)) = true then tVc b p k * 10 + b (p + k) - 48 else tVc b p k
theorem tVc_d {pl : Nat} : ∀ k, (∀ i, i < k → tDgt (b (pl + i)) = true) → tVc b pl k = tVl b pl k := by
  intro k
  induction k with
  | zero => intro _; rfl
  | succ k ih =>
    intro h
    show (if tDgt (b (pl + k)) = true then tVc b pl k * 10 + b (pl + k) - 48 else tVc b pl k) = tVl b pl k * 10 + b (pl + k) - 48
    rw [if_pos (h k (by omega)), ih (fun i hi => h i (by omega))]
theorem tAln_t {c : Int32} : tAln c = true ↔ (97 ≤ c.toInt ∧ c.toInt ≤ 122) ∨ (48 ≤ c.toInt ∧ c.toInt ≤ 57) := by
  unfold tAln
  rw [Bool.or_eq_true, tAlp_t, tDgt_t]
theorem c_lt {c v : Int32} {V : Int} (hv : v.toInt = V) : c < v ↔ c.toInt < V := by rw [Int32.lt_iff_toInt_lt, hv]
theorem c_gt {c v : Int32} {V : Int} (hv : v.toInt = V) : v < c ↔ V < c.toInt := by rw [Int32.lt_iff_toInt_lt, hv]
theorem v48 : (48 : Int32).toInt = 48 := by decide
theorem v57 : (57 : Int32).toInt = 57 := by decide
theorem v97 : (97 : Int32).toInt = 97 := by decide
theorem v122 : (122 : Int32).toInt = 122 := by decide
theorem tCn_sum {pl : Nat} : ∀ k, (∀ i, i < k → tAln (b (pl + i)) = true) → tCn tAlp b pl k + tCn tDgt b pl k = k := by
  intro k
  induction k with
  | zero => intro _; rfl
  | succ k ih =>
    intro h
    have e := ih (fun i hi => h i (by omega))
    have a := tAln_x (h k (by omega))
    show tCn tAlp b pl k + (if tAlp (b (pl + k)) = true then 1 else 0) + (tCn tDgt b pl k + (if tDgt (b (pl + k)) = true then 1 else 0)) = k + 1
    cases q : tAlp (b (pl + k))
    · rw [q] at a
      have a : tDgt (b (pl + k)) = true := a
      rw [if_neg (by decide), if_pos a]
      omega
    · rw [q] at a
      rw [if_pos rfl, if_neg (by rw [a]; decide)]
      omega
theorem rs224 {pl : Nat} {Q : rI0 → rJ0 → Prop} (hn : n ≤ 940) (hpl : pl < min n lim) (e5 : I 28 5 = nI (tRn b n pl)) (k : ∀ I', Of5 I I' → I' 28 4 = I 28 4 → I' 28 6 = I 28 6 → I' 28 3 = tkK b n lim pl → I' 28 5 = nI (tkE b n lim pl) → Q I' J) : wp S d 70 224 [some (.ref 28), some (.int (nI (tCn tAlp b pl (tRn b n pl - pl)))), some (.int (nI (tCn tDgt b pl (tRn b n pl - pl)))), some (.int (if tRn b n pl < n then b (tRn b n pl) else 32)), none] [] (wv x I J) (rV x Q) := by
  have r := tRn_le (b := b) (n := n) (p := pl)
  have r2 := r.2 (by omega)
  have sm := tCn_sum (b := b) (pl := pl) (tRn b n pl - pl) (fun i hi => tRn_in (n := n) (p := pl) (by omega) (by omega))
  by_cases z : tRn b n pl = pl
  · rw [z, Nat.sub_self, if_pos (by omega : pl < n)]
    have eE : tkE b n lim pl = pl + 1 := by
      unfold tkE
      rw [if_neg (by omega), if_pos z]
    have eK : tkK b n lim pl = (if b pl = 59 ∨ b pl = 40 ∨ b pl = 41 ∨ (¬ b pl < 60 ∧ ¬ 62 < b pl) then b pl else 0) := by
      unfold tkK
      rw [if_neg (by omega), if_pos z]
    have f : ∀ v, v = tkK b n lim pl → Q (mSet (mSet I 28 5 (I 28 5 + 1)) 28 3 v) J := fun v hv => k _ ((Of5.s (by omega)).tr (Of5.s (by omega))) rfl rfl hv (by show I 28 5 + 1 = _; rw [e5, z, eE, nI_succ])
    have y : (b pl = 59 ∨ b pl = 40 ∨ b pl = 41 ∨ (¬ b pl < 60 ∧ ¬ 62 < b pl)) → wp S d 70 270 [some (.ref 28), some (.int (nI (tCn tAlp b pl 0))), some (.int (nI (tCn tDgt b pl 0))), some (.int (b pl)), none] [] (wv x (mSet I 28 5 (I 28 5 + 1)) J) (rV x Q) := fun y => v70_28_270 ⟨fun q => absurd q (by decide), fun _ => f _ (by rw [eK, if_pos y])⟩
    have w : ¬ (b pl = 59 ∨ b pl = 40 ∨ b pl = 41 ∨ (¬ b pl < 60 ∧ ¬ 62 < b pl)) → Q (mSet (mSet I 28 5 (I 28 5 + 1)) 28 3 0) J := fun y => f _ (by rw [eK, if_neg y])
    refine v70_28_224 ⟨fun _ => ⟨fun h => y (Or.inl h), fun h1 => ⟨fun h => y (Or.inr (Or.inl h)), fun h2 => ⟨fun h => y (Or.inr (Or.inr (Or.inl h))), fun h3 => ⟨fun h => ⟨fun _ => w ?_, fun q => absurd rfl q⟩, fun h4 => ⟨fun h => ⟨fun _ => w ?_, fun q => absurd rfl q⟩, fun h5 => y (Or.inr (Or.inr (Or.inr ⟨h4, h5⟩)))⟩⟩⟩⟩⟩, fun q => absurd rfl q⟩
    · rintro (q | q | q | q)
      · exact h1 q
      · exact h2 q
      · exact h3 q
      · exact q.1 h
    · rintro (q | q | q | q)
      · exact h1 q
      · exact h2 q
      · exact h3 q
      · exact q.2 h
  · have eE : tkE b n lim pl = tRn b n pl := by
      unfold tkE
      rw [if_neg (by omega), if_neg z]
    have f : ∀ v, v = tkK b n lim pl → Q (mSet I 28 3 v) J := fun v hv => k _ (Of5.s (by omega)) rfl rfl hv (by show I 28 5 = _; rw [e5, eE])
    have eK : tkK b n lim pl = (if tCn tDgt b pl (tRn b n pl - pl) = 0 then (if tRn b n pl - pl ≤ 8 then 2 else 0) else if tCn tAlp b pl (tRn b n pl - pl) = 0 ∧ tRn b n pl - pl ≤ 3 then 3 else 0) := by
      unfold tkK
      rw [if_neg (by omega), if_neg z]
    have i0 : ∀ {m : Nat}, m ≤ 940 → nI m = 0 → m = 0 := fun {m} h q => by
      rcases Nat.eq_zero_or_pos m with w | w
      · exact w
      · exact absurd q (nI_ne0 w (by omega))
    refine v70_28_224 ⟨fun q => ?_, fun _ => ⟨fun q => ⟨fun q8 => ?_, fun q8 => ?_⟩, fun q => ⟨fun qa => ⟨fun q3 => ?_, fun q3 => ?_⟩, fun qa => ?_⟩⟩⟩
    · rw [nI_add, sm] at q
      exact absurd (i0 (by omega) q) (by omega)
    · have q := i0 (by omega) q
      refine f _ ?_
      rw [eK, if_pos q, if_neg]
      intro w
      exact absurd q8 (nI_nlt (a := 8) (by omega) (by omega))
    · have q := i0 (by omega) q
      refine f _ ?_
      rw [eK, if_pos q, if_pos]
      rcases Nat.lt_or_ge 8 (tRn b n pl - pl) with w | w
      · exact absurd (nI_lt (a := 8) (by omega) (by omega)) q8
      · exact w
    · have qa := i0 (by omega) qa
      have q : ¬ tCn tDgt b pl (tRn b n pl - pl) = 0 := by omega
      refine f _ ?_
      rw [eK, if_neg q, if_neg]
      intro w
      exact absurd q3 (nI_nlt (a := 3) (by omega) (by omega))
    · have qa := i0 (by omega) qa
      have q : ¬ tCn tDgt b pl (tRn b n pl - pl) = 0 := by omega
      refine f _ ?_
      rw [eK, if_neg q, if_pos]
      refine ⟨qa, ?_⟩
      rcases Nat.lt_or_ge 3 (tRn b n pl - pl) with w | w
      · exact absurd (nI_lt (a := 3) (by omega) (by omega)) q3
      · exact w
    · have q : ¬ tCn tDgt b pl (tRn b n pl - pl) = 0 := fun w => q (by rw [w]; rfl)
      refine f _ ?_
      rw [eK, if_neg q, if_neg]
      intro w
      exact qa (by rw [w.1]; rfl)
theorem rs119 {pl : Nat} {Q : rI0 → rJ0 → Prop} (hn : n ≤ 940) : ∀ (m st : Nat) (I : rI0), st + m = n → pl ≤ st → I 2 = b → I 28 1 = nI n → I 28 5 = nI st → I 28 6 = tVc b pl (st - pl) → (∀ I', Of5 I I' → I' 28 4 = I 28 4 → I' 28 5 = nI (tRn b n st) → I' 28 6 = tVc b pl (tRn b n st - pl) → wp S d 70 224 [some (.ref 28), some (.int (nI (tCn tAlp b pl (tRn b n st - pl)))), some (.int (nI (tCn tDgt b pl (tRn b n st - pl)))), some (.int (if tRn b n st < n then b (tRn b n st) else 32)), none] [] (wv x I' J) (rV x Q)) → wp S d 70 119 [some (.ref 28), some (.int (nI (tCn tAlp b pl (st - pl)))), some (.int (nI (tCn tDgt b pl (st - pl)))), some (.int (if st < n then b st else 32)), none] [] (wv x I J) (rV x Q) := by
  intro m
  induction m with
  | zero =>
    intro st I hm hp e2 e1 e5 e6 k
    have e : tRn b n st = st := tGo_e (fun z => by omega)
    rw [e] at k
    exact v70_28_119 ⟨fun z => absurd z (by rw [e1, e5]; exact nI_nlt (by omega) (by omega)), fun _ => k I Of5.rf rfl e5 e6⟩
  | succ m ih =>
    intro st I hm hp e2 e1 e5 e6 k
    rw [if_pos (by omega : st < n)]
    have hlt : I 28 5 < I 28 1 := by rw [e1, e5]; exact nI_lt (by omega) (by omega)
    by_cases z : tAln (b st) = true
    · have zt := tAln_t.mp z
      have e : tRn b n st = tRn b n (st + 1) := tGo_s (by omega) z
      rw [e] at k
      have g : ∀ I1, Of5 I I1 → I1 28 4 = I 28 4 → I1 28 5 = nI st → I1 28 6 = tVc b pl (st + 1 - pl) → wp S d 70 185 [some (.ref 28), some (.int (nI (tCn tAlp b pl (st + 1 - pl)))), some (.int (nI (tCn tDgt b pl (st + 1 - pl)))), some (.int (b st)), none] [] (wv x I1 J) (rV x Q) := by
        intro I1 o1 f4 f5 f6
        have a2 : I1 2 = b := (o1.1 2 (by decide)).trans e2
        have a1 : I1 28 1 = nI n := (o1.2 1 (by omega)).trans e1
        have w := ih (st + 1) (mSet I1 28 5 (I1 28 5 + 1)) (by omega) (by omega) (by rw [mSet_ne (by decide)]; exact a2) a1 (by show I1 28 5 + 1 = _; rw [f5, nI_succ]) f6 (fun I' o g4 g5 g6 => k I' (o1.tr ((Of5.s (by omega)).tr o)) (g4.trans f4) g5 g6)
        refine v70_28_185 ⟨fun y => ?_, fun y => ?_⟩
        · rw [f5, a1, ← nI_succ] at y
          have y1 : st + 1 < n := by
            rcases Nat.lt_or_ge (st + 1) n with h | h
            · exact h
            · exact absurd y (nI_nlt h (by omega))
          refine ⟨by rw [f5, ← nI_succ]; exact nI_in (by omega) (by omega), ?_⟩
          have l3 : I1 2 ((I1 28 5 + 1).toNatClampNeg) = (if st + 1 < n then b (st + 1) else 32) := by rw [if_pos y1, a2, f5, ← nI_succ, nI_clamp (by omega)]
          rw [l3]
          exact w
        · rw [f5, a1, ← nI_succ] at y
          have y1 : ¬ st + 1 < n := fun h => y (nI_lt h (by omega))
          rw [if_neg y1] at w
          exact w
      have s1 : st + 1 - pl = (st - pl) + 1 := by omega
      have s2 : pl + (st - pl) = st := by omega
      have h154 : wp S d 70 154 [some (.ref 28), some (.int (nI (tCn tAlp b pl (st - pl)))), some (.int (nI (tCn tDgt b pl (st - pl)))), some (.int (b st)), none] [] (wv x I J) (rV x Q) := by
        refine v70_28_154 ⟨fun y => ?_, fun y => ?_⟩
        · rw [c_lt v97] at y
          have dg : tDgt (b st) = true := tDgt_t.mpr (by omega)
          have na : ¬ tAlp (b st) = true := fun q => by have := tAlp_t.mp q; omega
          have ea : tCn tAlp b pl (st + 1 - pl) = tCn tAlp b pl (st - pl) := by
            rw [s1]
            show tCn tAlp b pl (st - pl) + (if tAlp (b (pl + (st - pl))) = true then 1 else 0) = _
            rw [s2, if_neg na]
            rfl
          have ed : tCn tDgt b pl (st + 1 - pl) = tCn tDgt b pl (st - pl) + 1 := by
            rw [s1]
            show tCn tDgt b pl (st - pl) + (if tDgt (b (pl + (st - pl))) = true then 1 else 0) = _
            rw [s2, if_pos dg]
          have w := g (mSet I 28 6 (I 28 6 * 10 + b st - 48)) (Of5.s (by omega)) rfl e5 (by
            show I 28 6 * 10 + b st - 48 = _
            rw [e6, s1]
            show _ = (if tDgt (b (pl + (st - pl))) = true then tVc b pl (st - pl) * 10 + b (pl + (st - pl)) - 48 else _)
            rw [s2, if_pos dg])
          rw [ea, ed, nI_succ] at w
          exact w
        · have y : 97 ≤ (b st).toInt := by
            rw [c_lt v97] at y
            omega
          have al : tAlp (b st) = true := tAlp_t.mpr (by omega)
          have nd : ¬ tDgt (b st) = true := fun q => by have := tDgt_t.mp q; omega
          have ea : tCn tAlp b pl (st + 1 - pl) = tCn tAlp b pl (st - pl) + 1 := by
            rw [s1]
            show tCn tAlp b pl (st - pl) + (if tAlp (b (pl + (st - pl))) = true then 1 else 0) = _
            rw [s2, if_pos al]
          have ed : tCn tDgt b pl (st + 1 - pl) = tCn tDgt b pl (st - pl) := by
            rw [s1]
            show tCn tDgt b pl (st - pl) + (if tDgt (b (pl + (st - pl))) = true then 1 else 0) = _
            rw [s2, if_neg nd]
            rfl
          have w := g I Of5.rf rfl e5 (by
            rw [e6, s1]
            show _ = (if tDgt (b (pl + (st - pl))) = true then tVc b pl (st - pl) * 10 + b (pl + (st - pl)) - 48 else _)
            rw [s2, if_neg nd])
          rw [ea, ed, nI_succ] at w
          exact w
      refine v70_28_119 ⟨fun _ => ⟨fun h1 => ⟨fun h2 => ?_, fun h2 => ⟨fun h3 => ?_, fun _ => h154⟩⟩, fun h1 => ⟨fun h4 => ?_, fun _ => h154⟩⟩, fun q => absurd hlt q⟩
      · rw [c_lt v97] at h1
        rw [c_lt v48] at h2
        omega
      · rw [c_lt v97] at h1
        rw [c_gt v57] at h3
        omega
      · rw [c_gt v122] at h4
        omega
    · have e : tRn b n st = st := tGo_e (fun q => z q.2)
      rw [e, if_pos (by omega : st < n)] at k
      have w := k I Of5.rf rfl e5 e6
      refine v70_28_119 ⟨fun _ => ⟨fun h1 => ⟨fun h2 => w, fun h2 => ⟨fun h3 => w, fun h3 => ?_⟩⟩, fun h1 => ⟨fun h4 => ⟨fun h2 => w, fun h2 => ⟨fun h3 => w, fun h3 => ?_⟩⟩, fun h4 => ?_⟩⟩, fun q => absurd hlt q⟩
      · rw [c_lt v48] at h2
        rw [c_gt v57] at h3
        exact absurd (tAln_t.mpr (by omega)) z
      · rw [c_lt v48] at h2
        rw [c_gt v57] at h3
        exact absurd (tAln_t.mpr (by omega)) z
      · rw [c_lt v97] at h1
        rw [c_gt v122] at h4
        exact absurd (tAln_t.mpr (by omega)) z
theorem rs52 {q : Nat} {Q : rI0 → rJ0 → Prop} (hn : n ≤ 940) (hq : q ≤ n) (e2 : I 2 = b) (e1 : I 28 1 = nI n) (ee : I 28 2 = nI (min n lim)) (e5 : I 28 5 = nI q) (k : ∀ I', Of5 I I' → I' 28 3 = tkK b n lim q → I' 28 4 = nI (tkA n lim q) → I' 28 5 = nI (tkE b n lim q) → (tkK b n lim q = 3 → I' 28 6 = tVc b q (tRn b n q - q)) → Q I' J) : wp S d 70 52 [some (.ref 28), none, none, none, none] [] (wv x I J) (rV x Q) := by
  refine v70_28_52 ⟨fun z => ?_, fun z => ?_⟩
  · rw [e5, ee] at z
    have hs : q < min n lim := by
      rcases Nat.lt_or_ge q (min n lim) with w | w
      · exact w
      · exact absurd z (nI_nlt w (by omega))
    refine ⟨by rw [e5]; exact nI_in (by omega) (by omega), ?_⟩
    have w := rs119 (S := S) (d := d) (x := x) (J := J) (b := b) (pl := q) (Q := Q) hn (n - q) q (mSet (mSet I 28 4 (I 28 5)) 28 6 0) (by omega) (Nat.le_refl _) (by rw [mSet_ne (by decide), mSet_ne (by decide)]; exact e2) e1 e5 (by rw [Nat.sub_self]; rfl) (fun I1 o1 f4 f5 f6 => rs224 hn hs f5 (fun I' o2 g4 g6 g3 g5 => k I' ((Of5.s (by omega)).tr ((Of5.s (by omega)).tr (o1.tr o2))) g3 (by
      rw [g4, f4]
      show I 28 5 = _
      unfold tkA
      rw [if_neg (by omega), e5]) g5 (fun _ => by rw [g6, f6])))
    rw [Nat.sub_self, if_pos (by omega : q < n)] at w
    have l3 : I 2 ((I 28 5).toNatClampNeg) = b q := by rw [e2, e5, nI_clamp (by omega)]
    rw [l3]
    exact w
  · rw [e5, ee] at z
    have hs : min n lim ≤ q := by
      rcases Nat.lt_or_ge q (min n lim) with w | w
      · exact absurd (nI_lt w (by omega)) z
      · exact w
    have f : ∀ v, v = tkK b n lim q → (tkK b n lim q = 3 → False) → Q (mSet (mSet I 28 4 (I 28 2)) 28 3 v) J := fun v hv h3 => k _ ((Of5.s (by omega)).tr (Of5.s (by omega))) hv (by
      show I 28 2 = _
      unfold tkA
      rw [if_pos hs, ee]) (by
      show I 28 5 = _
      unfold tkE
      rw [if_pos hs, e5]) (fun y => (h3 y).elim)
    have eK : tkK b n lim q = (if lim < n then 0 else 1) := by
      unfold tkK
      rw [if_pos hs]
    refine ⟨fun y => ?_, fun y => ?_⟩
    · rw [ee, e1] at y
      have : lim < n := by
        rcases Nat.lt_or_ge (min n lim) n with w | w
        · omega
        · exact absurd y (nI_nlt w (by omega))
      rw [if_pos this] at eK
      exact f _ eK.symm (fun q => by rw [eK] at q; exact absurd q (by decide))
    · rw [ee, e1] at y
      have : ¬ lim < n := fun w => y (nI_lt (by omega) (by omega))
      rw [if_neg this] at eK
      exact f _ eK.symm (fun q => by rw [eK] at q; exact absurd q (by decide))
theorem rs0 {Q : rI0 → rJ0 → Prop} (hn : n ≤ 940) : ∀ (m st : Nat) (I : rI0), st + m = n → I 2 = b → I 28 1 = nI n → I 28 2 = nI (min n lim) → I 28 5 = nI st → (∀ I', Of5 I I' → I' 28 3 = uK b n lim st → I' 28 4 = nI (uA b n lim st) → I' 28 5 = nI (uE b n lim st) → (uK b n lim st = 3 → I' 28 6 = tVc b (tSk b n st) (uL b n st)) → Q I' J) → wp S d 70 0 [some (.ref 28), none, none, none, none] [] (wv x I J) (rV x Q) := by
  intro m
  induction m with
  | zero =>
    intro st I hm e2 e1 ee e5 k
    have e : tSk b n st = st := tGo_e (fun z => by omega)
    unfold uK uA uE uL at k
    rw [e] at k
    exact v70_28_0 ⟨fun z => absurd z (by rw [e1, e5]; exact nI_nlt (by omega) (by omega)), fun _ => rs52 hn (by omega) e2 e1 ee e5 k⟩
  | succ m ih =>
    intro st I hm e2 e1 ee e5 k
    have hin : ¬ mOut (I 28 5) 940 := by rw [e5]; exact nI_in (by omega) (by omega)
    have l3 : I 2 ((I 28 5).toNatClampNeg) = b st := by rw [e2, e5, nI_clamp (by omega)]
    have tr : tBlk (b st) = true → wp S d 70 0 [some (.ref 28), none, none, none, none] [] (wv x (mSet I 28 5 (I 28 5 + 1)) J) (rV x Q) := by
      intro z
      have e : tSk b n st = tSk b n (st + 1) := tGo_s (by omega) z
      unfold uK uA uE uL at k
      rw [e] at k
      exact ih (st + 1) _ (by omega) (by rw [mSet_ne (by decide)]; exact e2) e1 ee (by show I 28 5 + 1 = _; rw [e5, nI_succ]) (fun I' o a3 a4 a5 a6 => k I' ((Of5.s (by omega)).tr o) a3 a4 a5 a6)
    refine v70_28_0 ⟨fun _ => ⟨hin, fun z => tr ?_, fun z1 => ⟨hin, fun z => tr ?_, fun z2 => ?_⟩⟩, fun q => absurd (by rw [e1, e5]; exact nI_lt (by omega) (by omega)) q⟩
    · rw [l3] at z
      unfold tBlk
      rw [z]
      rfl
    · rw [l3] at z
      unfold tBlk
      rw [z]
      rfl
    · rw [l3] at z1 z2
      have nb : ¬ tBlk (b st) = true := by
        unfold tBlk
        rw [Bool.or_eq_true, decide_eq_true_iff, decide_eq_true_iff]
        rintro (q | q)
        · exact z1 q
        · exact z2 q
      have e : tSk b n st = st := tGo_e (fun z => nb z.2)
      unfold uK uA uE uL at k
      rw [e] at k
      exact rs52 hn (by omega) e2 e1 ee e5 k
theorem readS {Q : rI0 → rJ0 → Prop} (h : Tst b n lim p I) (k : ∀ I', Of5 I I' → Tck b n lim p I' → Q I' J) : wcV S d 70 [.ref 28] x I J Q := by
  obtain ⟨hn, hp, e2, e1, ee, e5⟩ := h
  show wp S d 70 0 [some (.ref 28), none, none, none, none] [] (wv x I J) (rV x Q)
  refine rs0 (b := b) (lim := lim) hn (n - p) p I (by omega) e2 e1 ee e5 (fun I' o a3 a4 a5 a6 => k I' o ⟨hp, ⟨hn, (uE_le hp).2, (o.1 2 (by decide)).trans e2, (o.2 1 (by omega)).trans e1, (o.2 2 (by omega)).trans ee, a5⟩, a3, a4, fun z => ?_⟩)
  rw [a6 z]
  exact tVc_d _ (uK_3 z).2.2.2.2.2
theorem openS {l : Int32} {Q : rI0 → rJ0 → Prop} (hn : n ≤ 940) (hl : l = nI lim) (hm : lim ≤ 940) (k : ∀ I', (∀ a, a ≠ 28 → I' a = I a) → I' 28 7 = I 28 7 → I' 28 8 = 0 → Tck (I 2) n lim 0 I' → Q I' J) : wcV S (d + 1) 69 [.ref 28, .int (nI n), .int l] x I J Q := by
  refine c69_28 ?_
  rw [if_neg (show ¬ (940 : Int32) < nI n from nI_nlt (b := n) (a := 940) (by omega) (by omega))]
  have ee : (if l < nI n then l else nI n) = nI (min n lim) := by
    rw [hl]
    by_cases z : nI lim < nI n
    · rw [if_pos z]
      rcases Nat.lt_or_ge lim n with w | w
      · rw [Nat.min_eq_right (by omega)]
      · exact absurd z (nI_nlt w (by omega))
    · rw [if_neg z]
      rcases Nat.lt_or_ge lim n with w | w
      · exact absurd (nI_lt w (by omega)) z
      · rw [Nat.min_eq_left w]
  rw [ee]
  refine readS (b := I 2) (n := n) (lim := lim) (p := 0) ⟨hn, by omega, rfl, rfl, rfl, rfl⟩ (fun I' o t => k I' (fun a ha => ?_) ?_ ?_ t)
  · rw [o.1 a ha, mSet_ne ha, mSet_ne ha, mSet_ne ha, mSet_ne ha]
  · rw [o.2 7 (by omega)]
    rfl
  · rw [o.2 8 (by omega)]
    rfl
end TC0
end
