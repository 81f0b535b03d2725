/-! the class's diary -/
section DY0
variable {S : Nat × (Nat → Int32)} {d : Nat} {x : mX} {I : rI0} {J : rJ0} {g : Nat → Int32} {W : Nat → lV} {P H : Nat → Bool}
def FD (I : rI0) (J : rJ0) (I' : rI0) (J' : rJ0) : Prop := (∀ b, ¬ (31 ≤ b ∧ b ≤ 36) → I' b = I b) ∧ ∀ b, ¬ (31 ≤ b ∧ b ≤ 36) → J' b = J b
theorem FD.rf : FD I J I J := ⟨fun _ _ => rfl, fun _ _ => rfl⟩
theorem FD.tr {I1 I2 : rI0} {J1 J2 : rJ0} (h : FD I J I1 J1) (h2 : FD I1 J1 I2 J2) : FD I J I2 J2 := ⟨fun b hb => (h2.1 b hb).trans (h.1 b hb), fun b hb => (h2.2 b hb).trans (h.2 b hb)⟩
theorem F36.fd {I1 : rI0} {J1 : rJ0} (h : F36 I J I1 J1) : FD I J I1 J1 := ⟨fun b hb => h.1 b (by omega), fun b hb => h.2 b (by omega)⟩
/-- the moments that are kept -/
def DA (g : Nat → Int32) (W : Nat → lV) (P H : Nat → Bool) (k : Nat) (J : rJ0) : Prop := ∀ m, m < k → ∀ s, s < 64 → bits5 (J 32 m) s = decide (1 ≤ (nt g W P H m).1 s) ∧ bits5 (J 33 m) s = decide (2 ≤ (nt g W P H m).1 s) ∧ bits5 (J 34 m) s = decide ((nt g W P H m).2 s % 2 = 1) ∧ bits5 (J 35 m) s = decide (2 ≤ (nt g W P H m).2 s)
def DK (g : Nat → Int32) (W : Nat → lV) (P H : Nat → Bool) (k : Nat) (I : rI0) (J : rJ0) : Prop := 1 ≤ k ∧ k ≤ 601 ∧ I 31 6 = nI k ∧ DA g W P H k J ∧ NO36 g W P H (k - 1) I J
def DI (g : Nat → Int32) (W : Nat → lV) (P H : Nat → Bool) (I : rI0) (J : rJ0) : Prop := I 31 6 = 0 ∨ ∃ k, DK g W P H k I J
/-- the class's evening is that of g, P, H -/
def CE (g : Nat → Int32) (W : Nat → lV) (P H : Nat → Bool) (I : rI0) (J : rJ0) : Prop := GA g ∧ HM g W I J ∧ (∀ s, P s = true → seB g s = true) ∧ (∀ s, s < 64 → bits5 (J 3 5) s = P s) ∧ (∀ s, s < 64 → bits5 (J 3 6) s = H s) ∧ I 4 2 = nI (gN g 3) ∧ gN g 3 ≤ 64
theorem CE.mv {I' : rI0} {J' : rJ0} (h : CE g W P H I J) (hi : ∀ b, b < 15 → I' b = I b) (hj : ∀ b, b < 15 → J' b = J b) : CE g W P H I' J' := by
  obtain ⟨h1, h2, h3, h4, h5, h6, h7⟩ := h
  exact ⟨h1, h2.mv hi hj, h3, by rw [hj 3 (by omega)]; exact h4, by rw [hj 3 (by omega)]; exact h5, by rw [hi 4 (by omega)]; exact h6, h7⟩
theorem CE.fd {I' : rI0} {J' : rJ0} (h : CE g W P H I J) (f : FD I J I' J') : CE g W P H I' J' := h.mv (fun b hb => f.1 b (by omega)) (fun b hb => f.2 b (by omega))
/-- keep -/
theorem kp_31 {k : Nat} {Q : rI0 → rJ0 → Prop} (hk : k ≤ 600) (h6 : I 31 6 = nI k) (hA : DA g W P H k J) (hN : NO36 g W P H k I J) (c : ∀ I' J', FD I J I' J' → DK g W P H (k + 1) I' J' → Q I' J') : wcV S d 8 [.ref 31] x I J Q := by
  have io : ¬ mOut (I 31 6) 601 := by
    rw [h6]
    exact nI_in (by omega) (by omega)
  refine c8_31 ⟨fun q => absurd q (by rw [h6]; exact nI_nlt (a := 600) (by omega) (by omega)), fun _ => ⟨io, io, io, io, ?_⟩⟩
  rw [h6, nI_clamp (by omega), ← nI_succ]
  have e : ∀ (f : rJ0) (a j : Nat) (v : Int64), mSet f a k v a j = if j = k then v else f a j := by
    intro f a j v
    unfold mSet va_up
    rw [if_pos rfl]
  refine c _ _ ⟨fun b hb => mSet_ne (by omega), fun b hb => by rw [mSet_ne (by omega), mSet_ne (by omega), mSet_ne (by omega), mSet_ne (by omega)]⟩ ⟨by omega, by omega, rfl, fun m hm s hs => ?_, ?_⟩
  · rw [mSet_ne (show 32 ≠ 35 by decide), mSet_ne (show 32 ≠ 34 by decide), mSet_ne (show 32 ≠ 33 by decide), e, mSet_ne (show 33 ≠ 35 by decide), mSet_ne (show 33 ≠ 34 by decide), e, mSet_ne (show 34 ≠ 35 by decide), e, e, mSet_ne (show 33 ≠ 32 by decide), mSet_ne (show 34 ≠ 33 by decide), mSet_ne (show 34 ≠ 32 by decide), mSet_ne (show 35 ≠ 34 by decide), mSet_ne (show 35 ≠ 33 by decide), mSet_ne (show 35 ≠ 32 by decide)]
    by_cases z : m = k
    · rw [if_pos z, if_pos z, if_pos z, if_pos z, z]
      exact hN.2.2.2.2.2.2.1 s hs
    · rw [if_neg z, if_neg z, if_neg z, if_neg z]
      exact hA m (by omega) s hs
  · exact hN.mv (mSet_ne (by decide)) (by rw [mSet_ne (by decide), mSet_ne (by decide), mSet_ne (by decide), mSet_ne (by decide)])
theorem mm_i {t k : Nat} (ht : t ≤ 600) (hk : 1 ≤ k ∧ k ≤ 601) : (if (0 : Int32) < (if nI k - (1 : Int32) < nI t then nI k - (1 : Int32) else nI t) then (if nI k - (1 : Int32) < nI t then nI k - (1 : Int32) else nI t) else (0 : Int32)) = nI (if k - 1 < t then k - 1 else t) := by
  have e : nI k - (1 : Int32) = nI (k - 1) := by
    have := nI_pr (k - 1)
    rw [show k - 1 + 1 = k by omega] at this
    exact this
  have p : ∀ a, a ≤ 601 → (if (0 : Int32) < nI a then nI a else (0 : Int32)) = nI a := by
    intro a ha
    by_cases z : 0 < a
    · rw [if_pos (show (0 : Int32) < nI a from nI_lt (a := 0) z (by omega))]
    · rw [show a = 0 by omega]
      rfl
  rw [e]
  by_cases z : k - 1 < t
  · rw [if_pos (nI_lt z (by omega)), if_pos z]
    exact p _ (by omega)
  · rw [if_neg (nI_nlt (by omega) (by omega)), if_neg z]
    exact p _ (by omega)
/-- what reach says of m -/
def RC (g : Nat → Int32) (W : Nat → lV) (P H : Nat → Bool) (t m : Nat) : Prop := m ≤ t ∧ nt g W P H m = nt g W P H t ∧ (m = t ∨ ∀ u, m ≤ u → u ≤ 600 → nt g W P H u = nt g W P H m)
theorem rl_31 {t : Nat} {Q : Int32 → rI0 → rJ0 → Prop} (ht : t ≤ 600) : ∀ (n k : Nat) (I : rI0) (J : rJ0), k + n = 601 → CE g W P H I J → DK g W P H k I J → (∀ I' J' m k', FD I J I' J' → DK g W P H k' I' J' → m < k' → RC g W P H t m → k ≤ k' → Q (nI m) I' J') → wp S (d + 22) 7 37 [some (.ref 31), some (.int (nI t)), some (.int (nI k))] [] (wv x I J) (rI x Q) := by
  have fin : ∀ (k : Nat) (I : rI0) (J : rJ0), DK g W P H k I J → (t < k ∨ ∀ u, k - 1 ≤ u → u ≤ 600 → nt g W P H u = nt g W P H (k - 1)) → (∀ I' J' m k', FD I J I' J' → DK g W P H k' I' J' → m < k' → RC g W P H t m → k ≤ k' → Q (nI m) I' J') → Q (if (0 : Int32) < (if (I 31 6) - (1 : Int32) < nI t then (I 31 6) - (1 : Int32) else nI t) then (if (I 31 6) - (1 : Int32) < nI t then (I 31 6) - (1 : Int32) else nI t) else (0 : Int32)) I J := by
    intro k I J h z c
    have hk := h.1
    have hk2 := h.2.1
    rw [h.2.2.1, mm_i ht ⟨hk, hk2⟩]
    by_cases y : k - 1 < t
    · rw [if_pos y]
      refine c I J (k - 1) k FD.rf h (by omega) ⟨by omega, ?_, ?_⟩ (Nat.le_refl _)
      · rcases z with z | z
        · omega
        · exact (z t (by omega) ht).symm
      · rcases z with z | z
        · omega
        · exact Or.inr z
    · rw [if_neg y]
      exact c I J t k FD.rf h (by omega) ⟨Nat.le_refl _, rfl, Or.inl rfl⟩ (Nat.le_refl _)
  intro n
  induction n with
  | zero =>
    intro k I J hk hC h c
    have f := fin k I J h (Or.inl (by omega)) c
    exact v7_31_37 ⟨fun _ => f, fun _ => ⟨fun _ => f, fun q => absurd (nI_lt (a := 600) (by omega) (by omega)) q⟩⟩
  | succ n ih =>
    intro k I J hk hC h c
    refine v7_31_37 (d := d + 21) ⟨fun q => fin k I J h (Or.inl ((nI_ltI (by omega) (by omega)).mp q)) c, fun q => ⟨fun q2 => absurd q2 (nI_nlt (a := 600) (by omega) (by omega)), fun _ => ⟨fun q3 => ?_, fun q3 => ?_⟩⟩⟩
    · obtain ⟨k1, k2, k3, k4, k5⟩ := h
      refine st_36 (d := d) hC.1 hC.2.1 hC.2.2.1 (show k - 1 < 600 by omega) k5 (fun I1 J1 f1 n1 => ?_)
      have e : k - 1 + 1 = k := by omega
      rw [e] at n1
      refine kp_31 (k := k) (by omega) ((congrFun (f1.1 31 (by decide)) 6).trans k3) ?_ n1 (fun I2 J2 f2 h2 => ?_)
      · intro m hm s hs
        rw [f1.2 32 (by decide), f1.2 33 (by decide), f1.2 34 (by decide), f1.2 35 (by decide)]
        exact k4 m hm s hs
      · rw [← nI_succ]
        exact ih (k + 1) I2 J2 (by omega) (hC.fd (f1.fd.tr f2)) h2 (fun I3 J3 m k' f3 h3 hm hr hk' => c I3 J3 m k' (f1.fd.tr (f2.tr f3)) h3 hm hr (by omega))
    · rcases h.2.2.2.2.2.2.2.2.2.2.2 with z | ⟨_, z⟩
      · exact absurd z q3
      · exact fin k I J h (Or.inr z) c
/-- reach -/
theorem re_31 {t : Nat} {Q : Int32 → rI0 → rJ0 → Prop} (ht : t ≤ 600) (hC : CE g W P H I J) (hD : DI g W P H I J) (c : ∀ I' J' m k', FD I J I' J' → DK g W P H k' I' J' → m < k' → RC g W P H t m → (∀ k0, k0 ≤ 601 → I 31 6 = nI k0 → k0 ≤ k') → Q (nI m) I' J') : wcI S (d + 22) 7 [.ref 31, .int (nI t)] x I J Q := by
  refine c7_31 ⟨fun z => be_36 (d := d + 18) hC.1 hC.2.1 hC.2.2.1 hC.2.2.2.1 hC.2.2.2.2.1 (fun I1 J1 f1 n1 => kp_31 (k := 0) (by omega) ((congrFun (f1.1 31 (by decide)) 6).trans z) (fun m hm => absurd hm (by omega)) n1 (fun I2 J2 f2 h2 => ?_)), fun z => ?_⟩
  · rw [h2.2.2.1]
    exact rl_31 ht 600 1 I2 J2 (by omega) (hC.fd (f1.fd.tr f2)) h2 (fun I3 J3 m k' f3 h3 hm hr hk' => c I3 J3 m k' (f1.fd.tr (f2.tr f3)) h3 hm hr (fun k0 h0 e0 => by rw [z] at e0; have := nI_ij (a := 0) (b := k0) (by omega) (by omega) e0; omega))
  · rcases hD with y | ⟨k, h⟩
    · exact absurd y z
    · have := h.2.1
      rw [h.2.2.1]
      exact rl_31 ht (601 - k) k I J (by omega) hC h (fun I3 J3 m k' f3 h3 hm hr hk' => c I3 J3 m k' f3 h3 hm hr (fun k0 h0 e0 => by rw [h.2.2.1] at e0; have := nI_ij (a := k) (b := k0) (by omega) (by omega) e0; omega))
theorem DK.i {k : Nat} (h : DK g W P H k I J) : DI g W P H I J := Or.inr ⟨k, h⟩
/-- so many who stand at m -/
theorem DA.cn {k m : Nat} (h : DA g W P H k J) (hm : m < k) : pc (J 33 m) = stP g W P H m := nb_cg 64 (fun s hs => (h m hm s hs).2.1)
theorem DA.cn1 {k m : Nat} (h : DA g W P H k J) (hm : m < k) : pc (J 32 m) = nb (fun s => decide (1 ≤ (nt g W P H m).1 s)) 64 := nb_cg 64 (fun s hs => (h m hm s hs).1)
theorem stP_l {t : Nat} : stP g W P H t ≤ 64 := nb_le 64
/-- isUp -/
theorem up_31 {k m : Nat} {Q : Int32 → rI0 → rJ0 → Prop} (hC : CE g W P H I J) (h : DK g W P H k I J) (hm : m < k) (c : Q (nI (if gN g 3 ≤ stP g W P H m then 1 else 0)) I J) : wcI S (d + 1) 9 [.ref 31, .int (nI m)] x I J Q := by
  have hk := h.2.1
  have hs := stP_l (g := g) (W := W) (P := P) (H := H) (t := m)
  have h3 := hC.2.2.2.2.2.2
  refine c9_31 ⟨fun q => absurd q (nI_nlt (b := 0) (by omega) (by omega)), fun _ => ⟨fun _ => ⟨nI_in (by omega) (by omega), bcX ?_⟩, fun q => absurd (by rw [h.2.2.1]; exact nI_lt hm (by omega)) q⟩⟩
  rw [nI_clamp (by omega), DA.cn h.2.2.2.1 hm, hC.2.2.2.2.2.1]
  refine ⟨fun q => ?_, fun q => ?_⟩
  · have q := (nI_ltI (by omega) (by omega)).mp q
    rw [if_neg (by omega)] at c
    exact c
  · have q : ¬ stP g W P H m < gN g 3 := fun z => q (nI_lt z (by omega))
    rw [if_pos (by omega)] at c
    exact c
/-- height -/
theorem hg_31 {Q : Int32 → rI0 → rJ0 → Prop} (hC : CE g W P H I J) (hD : DI g W P H I J) (c : ∀ I' J', FD I J I' J' → DI g W P H I' J' → Q (nI (hgt g W P H 60)) I' J') : wcI S (d + 23) 10 [.ref 31] x I J Q := by
  have lp : ∀ (n u : Nat) (I1 : rI0) (J1 : rJ0), u + n = 61 → FD I J I1 J1 → DI g W P H I1 J1 → wp S (d + 23) 10 4 [some (.ref 31), some (.int (nI (hgP g W P H u))), some (.int (nI u))] [] (wv x I1 J1) (rI x Q) := by
    intro n
    induction n with
    | zero =>
      intro u I1 J1 hu f h
      have hu : u = 61 := by omega
      subst hu
      exact v10_31_4 ⟨fun _ => c I1 J1 f h, fun q => absurd (nI_lt (a := 60) (by omega) (by omega)) q⟩
    | succ n ih =>
      intro u I1 J1 hu f h
      refine v10_31_4 (d := d + 22) ⟨fun q => absurd q (nI_nlt (a := 60) (by omega) (by omega)), fun _ => re_31 (d := d) (by omega) (hC.fd f) h (fun I2 J2 m k f2 h2 hm hr _ => ⟨nI_in (N := 601) (by have := h2.2.1; omega) (by omega), bcX ?_⟩)⟩
      have hl := hgP_l (g := g) (W := W) (P := P) (H := H) (u := u)
      have hs := stP_l (g := g) (W := W) (P := P) (H := H) (t := u)
      have es : stP g W P H m = stP g W P H u := by
        unfold stP
        rw [hr.2.1]
      rw [nI_clamp (by have := h2.2.1; omega), DA.cn h2.2.2.2.1 hm, es, ← nI_succ]
      have e : (if nI (hgP g W P H u) < nI (stP g W P H u) then nI (stP g W P H u) else nI (hgP g W P H u)) = nI (hgP g W P H (u + 1)) := by
        rw [hgP_s]
        by_cases z : hgP g W P H u < stP g W P H u
        · rw [if_pos (nI_lt z (by omega)), if_pos z]
        · rw [if_neg (nI_nlt (by omega) (by omega)), if_neg z]
      rw [e]
      exact ih (u + 1) I2 J2 (by omega) (f.tr f2) h2.i
  exact c10_31 (lp 61 0 I J rfl FD.rf hD)
/-- two moments alike -/
theorem nt_eq {a b : Nat} (h : ∀ s, s < 64 → decide (1 ≤ (nt g W P H a).1 s) = decide (1 ≤ (nt g W P H b).1 s) ∧ decide (2 ≤ (nt g W P H a).1 s) = decide (2 ≤ (nt g W P H b).1 s) ∧ decide ((nt g W P H a).2 s % 2 = 1) = decide ((nt g W P H b).2 s % 2 = 1) ∧ decide (2 ≤ (nt g W P H a).2 s) = decide (2 ≤ (nt g W P H b).2 s)) : nt g W P H a = nt g W P H b := by
  obtain ⟨o1, o2⟩ := nt_o (g := g) (W := W) (P := P) (H := H) a
  obtain ⟨p1, p2⟩ := nt_o (g := g) (W := W) (P := P) (H := H) b
  refine Prod.ext (funext (fun s => ?_)) (funext (fun s => ?_))
  · cases z : seB g s with
    | false => rw [(o1 s).2 z, (p1 s).2 z]
    | true =>
      obtain ⟨a1, a2, -, -⟩ := h s (seB_l z)
      have q1 := (o1 s).1
      have q2 := (p1 s).1
      have a1 := decide_eq_decide.mp a1
      have a2 := decide_eq_decide.mp a2
      omega
  · cases z : seB g s with
    | false => rw [(o2 s).2 z, (p2 s).2 z]
    | true =>
      obtain ⟨-, -, a3, a4⟩ := h s (seB_l z)
      exact hd_inj _ (by have := (o2 s).1; omega) _ (by have := (p2 s).1; omega) a3 a4
theorem al_31 {k a b : Nat} {Q : Int32 → rI0 → rJ0 → Prop} (hk : k ≤ 601) (h : DA g W P H k J) (ha : a < k) (hb : b < k) (c1 : nt g W P H a = nt g W P H b → Q 1 I J) (c0 : nt g W P H a ≠ nt g W P H b → Q 0 I J) : wcI S d 12 [.ref 31, .int (nI a), .int (nI b)] x I J Q := by
  have oa : ¬ mOut (nI a) 601 := nI_in (by omega) (by omega)
  have ob : ¬ mOut (nI b) 601 := nI_in (by omega) (by omega)
  refine c12_31 ?_
  rw [nI_clamp (by omega), nI_clamp (by omega)]
  have e : ∀ (v w : Int64) (p q : Nat → Bool), (∀ s, s < 64 → bits5 v s = p s) → (∀ s, s < 64 → bits5 w s = q s) → (lg_cmp v w = 0 ↔ ∀ s, s < 64 → p s = q s) := by
    intro v w p q hp hq
    rw [lg_eq]
    constructor
    · intro y s hs
      rw [← hp s hs, ← hq s hs, y]
    · intro y
      exact b5_ext (fun s hs => by rw [hp s hs, hq s hs, y s hs])
  have e1 := e (J 32 a) (J 32 b) _ _ (fun s hs => (h a ha s hs).1) (fun s hs => (h b hb s hs).1)
  have e2 := e (J 33 a) (J 33 b) _ _ (fun s hs => (h a ha s hs).2.1) (fun s hs => (h b hb s hs).2.1)
  have e3 := e (J 34 a) (J 34 b) _ _ (fun s hs => (h a ha s hs).2.2.1) (fun s hs => (h b hb s hs).2.2.1)
  have e4 := e (J 35 a) (J 35 b) _ _ (fun s hs => (h a ha s hs).2.2.2) (fun s hs => (h b hb s hs).2.2.2)
  refine ⟨oa, ob, fun q1 => ⟨oa, ob, fun q2 => ⟨oa, ob, fun q3 => ⟨oa, ob, fun q4 => c1 (nt_eq (fun s hs => ⟨e1.mp q1 s hs, e2.mp q2 s hs, e3.mp q3 s hs, e4.mp q4 s hs⟩)), fun q4 => c0 (fun y => q4 (e4.mpr (fun s hs => by rw [y])))⟩, fun q3 => c0 (fun y => q3 (e3.mpr (fun s hs => by rw [y])))⟩, fun q2 => c0 (fun y => q2 (e2.mpr (fun s hs => by rw [y])))⟩, fun q1 => c0 (fun y => q1 (e1.mpr (fun s hs => by rw [y])))⟩
/-- likeBehind -/
theorem lb_31 {t : Nat} {Q : Int32 → rI0 → rJ0 → Prop} (ht : t ≤ 600) (hC : CE g W P H I J) (hD : DI g W P H I J) (c1 : ∀ I' J' u, FD I J I' J' → DI g W P H I' J' → t < u → u ≤ 600 → nt g W P H u = nt g W P H t → (∀ v, t < v → v < u → nt g W P H v ≠ nt g W P H t) → Q (nI u) I' J') (c0 : ∀ I' J', FD I J I' J' → DI g W P H I' J' → (∀ v, t < v → v ≤ 600 → nt g W P H v ≠ nt g W P H t) → Q (-1) I' J') : wcI S (d + 23) 11 [.ref 31, .int (nI t)] x I J Q := by
  have lp : ∀ (n u a k : Nat) (I1 : rI0) (J1 : rJ0), u + n = 601 → t < u → FD I J I1 J1 → DK g W P H k I1 J1 → a < k → nt g W P H a = nt g W P H t → (∀ v, t < v → v < u → nt g W P H v ≠ nt g W P H t) → wp S (d + 23) 11 10 [some (.ref 31), some (.int (nI t)), some (.int (nI a)), some (.int (nI u)), none] [] (wv x I1 J1) (rI x Q) := by
    intro n
    induction n with
    | zero =>
      intro u a k I1 J1 hu htu f h ha ea hv
      exact v11_31_10 ⟨fun _ => c0 I1 J1 f h.i (fun v h1 h2 => hv v h1 (by omega)), fun q => absurd (nI_lt (a := 600) (by omega) (by omega)) q⟩
    | succ n ih =>
      intro u a k I1 J1 hu htu f h ha ea hv
      refine v11_31_10 (d := d + 22) ⟨fun q => absurd q (nI_nlt (a := 600) (by omega) (by omega)), fun _ => re_31 (d := d) (by omega) (hC.fd f) h.i (fun I2 J2 m k2 f2 h2 hm hr hkk => ?_)⟩
      have hk2 := h2.2.1
      have ak : a < k2 := by
        have := hkk k h.2.1 h.2.2.1
        omega
      · refine al_31 hk2 h2.2.2.2.1 ak hm (fun y => ⟨fun w => absurd w (by decide), fun _ => ?_⟩) (fun y => ⟨fun _ => ⟨fun w => ?_, fun w => ?_⟩, fun w => absurd rfl w⟩)
        · exact c1 I2 J2 u (f.tr f2) h2.i htu (by omega) (by rw [← hr.2.1, ← y, ea]) hv
        · have w := (nI_ltI (by omega) (by omega)).mp w
          refine c0 I2 J2 (f.tr f2) h2.i (fun v h1 h6 => ?_)
          by_cases z : v < u
          · exact hv v h1 z
          · rcases hr.2.2 with z2 | z2
            · omega
            · rw [z2 v (by have := hr.1; omega) h6, ← ea]
              exact fun q => y q.symm
        · have w : ¬ m < u := fun z => w (nI_lt z (by omega))
          rw [← nI_succ]
          refine ih (u + 1) a k2 I2 J2 (by omega) (by omega) (f.tr f2) h2 ak ea (fun v h1 h2v => ?_)
          by_cases z : v < u
          · exact hv v h1 z
          · rw [show v = u by omega, ← hr.2.1, ← ea]
            exact fun q => y q.symm
  refine c11_31 (re_31 (d := d) ht hC hD (fun I1 J1 m k f h hm hr _ => ?_))
  rw [← nI_succ]
  exact lp (600 - t) (t + 1) m k I1 J1 (by omega) (by omega) f h hm hr.2.1 (fun v h1 h2 => absurd h1 (by omega))
end DY0
