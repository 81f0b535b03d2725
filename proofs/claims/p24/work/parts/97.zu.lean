/-! trials: parts of the reference -/
section TR9
variable {S : Nat × (Nat → Int32)} {d : Nat} {x : mX} {I I1 I2 : rI0} {J J1 J2 : rJ0} {g b : Nat → Int32} {W : Nat → lV} {P H : Nat → Bool}
/-- what parts of the reference leaves as it was -/
def FP (I : rI0) (J : rJ0) (I' : rI0) (J' : rJ0) : Prop := (∀ b, b ≠ 43 → b ≠ 50 → I' b = I b) ∧ (∀ q, q ≠ 0 → q ≠ 30 → ¬ (42 ≤ q ∧ q ≤ 45) → I' 43 q = I 43 q) ∧ (∀ b, b ≠ 43 → ¬ (51 ≤ b ∧ b ≤ 55) → ¬ (61 ≤ b ∧ b ≤ 62) → J' b = J b) ∧ ∀ q, ¬ (36 ≤ q ∧ q ≤ 41) → J' 43 q = J 43 q
theorem FG.p (f : FG I J I1 J1) : FP I J I1 J1 := ⟨f.1, f.2.1, fun b h1 h2 _ => f.2.2.1 b h1 h2, f.2.2.2⟩
theorem FP.tr (f : FP I J I1 J1) (h : FP I1 J1 I2 J2) : FP I J I2 J2 := ⟨fun b h1 h2 => (h.1 b h1 h2).trans (f.1 b h1 h2), fun q h1 h2 h3 => (h.2.1 q h1 h2 h3).trans (f.2.1 q h1 h2 h3), fun b h1 h2 h3 => (h.2.2.1 b h1 h2 h3).trans (f.2.2.1 b h1 h2 h3), fun q h1 => (h.2.2.2 q h1).trans (f.2.2.2 q h1)⟩
theorem FP.j (h : ∀ b, ¬ (61 ≤ b ∧ b ≤ 62) → J1 b = J b) : FP I J I J1 := ⟨fun _ _ _ => rfl, fun _ _ _ _ => rfl, fun b _ _ h3 => h b h3, fun q _ => by rw [h 43 (by omega)]⟩
theorem RH.j (h : RH g W I J) (e : J1 51 = J 51) : RH g W I J1 := ⟨h.1, h.2.1, h.2.2.1, h.2.2.2.1, h.2.2.2.2.1, fun z => by
  have a := h.2.2.2.2.2 z
  unfold AR at a ⊢
  rw [e]
  exact a⟩
theorem yParts {p1 p2 : Int32} {Q : Int32 → rI0 → rJ0 → Prop} (hR : RH g W I J) (h3 : gN g 3 ≤ 64) (e17 : ∀ s, s < 64 → bits5 (J 43 17) s = H s) (k : ∀ I' J', FP I J I' J' → RH g W I' J' → Q (partsV g W H p1 p2) I' J') : wcI S (d + 6) 231 [.ref 43, .int p1, .int p2] x I J Q := by
  have hR1 : RH g W (mSet I 43 0 0) J := hR.t
  have no : (seI g p1 && seI g p2) = false → Q (-1) (mSet I 43 0 0) J := by
    intro h
    have kk := k _ _ (FG.t (v := 0)).p hR1
    unfold partsV at kk
    rw [h] at kk
    exact kk
  refine c231_43 (d := d + 5) (rIs (d := d + 4) hR1.1 hR1.2.1 hR1.2.2.2.2.1 (fun s1 hs1 es1 hse1 hsi1 => ⟨fun z => absurd z (by decide), fun _ => rIs (d := d + 4) hR1.1 hR1.2.1 hR1.2.2.2.2.1 (fun s2 hs2 es2 hse2 hsi2 => ⟨fun z => absurd z (by decide), fun _ => ?_⟩) (fun hsi => ⟨fun _ => no (by rw [hsi, Bool.and_false]), fun z => absurd rfl z⟩)⟩) (fun hsi => ⟨fun _ => no (by rw [hsi, Bool.false_and]), fun z => absurd rfl z⟩))
  subst es1
  subst es2
  have kk : ∀ I' J', FP I J I' J' → RH g W I' J' → Q (fnI (dfB g W H s1 s2) 61 0) I' J' := by
    intro I' J' h1 h2
    have kk := k I' J' h1 h2
    unfold partsV at kk
    rw [hsi1, hsi2, if_pos (show (true && true) = true from rfl), nI_tn (by omega), nI_tn (by omega)] at kk
    exact kk
  refine rht (d := d) (P := fun u => decide (u = s1)) (H := H) hR1 h3 (fun u hu => b5_1 hs1) e17 (fun I1 J1 f1 r1 _ _ => ?_)
  have lq : ∀ (I3 : rI0) (J3 : rJ0), FP I J I3 J3 → RN g W (fun u => decide (u = s2)) H 61 I3 J3 → (∀ u, u < 61 → J3 61 u = J1 52 u ∧ J3 62 u = J1 53 u) → ∀ (j t : Nat), t + j = 61 → Q (fnI (dfB g W H s1 s2) j t) I3 J3 → wp S (d + 6) 231 87 [some (.ref 43), some (.int (nI s1)), some (.int (nI s2)), some (.int (nI t))] [] (wv x I3 J3) (rI x Q) := by
    intro I3 J3 f3 r3 hc j
    induction j with
    | zero =>
      intro t ht c
      exact v231_43_87 ⟨fun _ => c, fun q => absurd (nI_lt (a := 60) (by omega) (by omega)) q⟩
    | succ j ih =>
      intro t ht c
      have c : Q (if dfB g W H s1 s2 t = true then nI t else fnI (dfB g W H s1 s2) j (t + 1)) I3 J3 := c
      have a1 := r1.2.2.2.2.2.2.2.2 t (by omega)
      have a3 := r3.2.2.2.2.2.2.2.2 t (by omega)
      refine v231_43_87 ⟨fun q => absurd q (nI_nlt (a := 60) (by omega) (by omega)), fun _ => ⟨nI_in (by omega) (by omega), nI_in (by omega) (by omega), ?_⟩⟩
      rw [nI_clamp (by omega), (hc t (by omega)).1, (hc t (by omega)).2]
      have l8 := lg_p (fun s hs => (a3 s hs).1) (fun s hs => (a1 s hs).1)
      have l9 := lg_p (fun s hs => (a3 s hs).2.1) (fun s hs => (a1 s hs).2.1)
      rw [l8, l9, ← nI_succ]
      have df : ∀ x y, eq6 (fun s => decide (1 ≤ (nt g W (fun u => decide (u = s1)) H t).1 s)) (fun s => decide (1 ≤ (nt g W (fun u => decide (u = s2)) H t).1 s)) = x → eq6 (fun s => decide (2 ≤ (nt g W (fun u => decide (u = s1)) H t).1 s)) (fun s => decide (2 ≤ (nt g W (fun u => decide (u = s2)) H t).1 s)) = y → dfB g W H s1 s2 t = !(x && y) := by
        intro x y hx hy
        unfold dfB
        rw [hx, hy]
      refine ⟨fun z => ⟨nI_in (by omega) (by omega), nI_in (by omega) (by omega), fun z2 => ?_, fun z2 => ?_⟩, fun z => ?_⟩
      · rw [df true true (eq6_t (fun s hs => (z s hs).symm)) (eq6_t (fun s hs => (z2 s hs).symm))] at c
        exact ih (t + 1) (by omega) c
      · rw [df true false (eq6_t (fun s hs => (z s hs).symm)) (eq6_f (fun w => z2 (fun s hs => (w s hs).symm)))] at c
        exact c
      · rw [df false _ (eq6_f (fun w => z (fun s hs => (w s hs).symm))) rfl] at c
        exact c
  have lp : ∀ (j t : Nat) (J2 : rJ0), t + j = 61 → (∀ b, ¬ (61 ≤ b ∧ b ≤ 62) → J2 b = J1 b) → (∀ u, u < t → J2 61 u = J1 52 u ∧ J2 62 u = J1 53 u) → wp S (d + 6) 231 37 [some (.ref 43), some (.int (nI s1)), some (.int (nI s2)), some (.int (nI t))] [] (wv x I1 J2) (rI x Q) := by
    intro j
    induction j with
    | zero =>
      intro t J2 ht f2 hc
      have ht : t = 61 := by omega
      subst ht
      have f3 : FP I J I1 J2 := ((FG.t (v := 0)).tr f1.fg).p.tr (FP.j f2)
      refine v231_43_37 (d := d + 5) ⟨fun _ => rht (d := d) (P := fun u => decide (u = s2)) (H := H) (r1.h.j (f2 51 (by omega))) h3 (fun u hu => b5_1 hs2) (fun s hs => by rw [f3.2.2.2 17 (by omega)]; exact e17 s hs) (fun I3 J3 f4 r3 _ _ => ?_), fun q => absurd (nI_lt (a := 60) (by omega) (by omega)) q⟩
      refine lq I3 J3 (f3.tr f4.fg.p) r3 (fun u hu => ?_) 61 0 (by omega) (kk I3 J3 (f3.tr f4.fg.p) r3.h)
      rw [f4.2.2.1 61 (by decide) (by omega), f4.2.2.1 62 (by decide) (by omega)]
      exact hc u hu
    | succ j ih =>
      intro t J2 ht f2 hc
      refine v231_43_37 (d := d + 5) ⟨fun q => absurd q (nI_nlt (a := 60) (by omega) (by omega)), fun _ => ⟨nI_in (by omega) (by omega), nI_in (by omega) (by omega), nI_in (by omega) (by omega), nI_in (by omega) (by omega), ?_⟩⟩
      rw [nI_clamp (by omega), ← nI_succ]
      refine ih (t + 1) _ (by omega) (fun b hb => by rw [mSet_ne (by omega), mSet_ne (by omega)]; exact f2 b hb) (fun u hu => ?_)
      have e61 : ∀ v w, mSet (mSet J2 61 t v) 62 t w 61 u = if u = t then v else J2 61 u := fun v w => by
        rw [mSet_ne (by decide)]
        unfold mSet va_up
        rw [if_pos rfl]
      have e62 : ∀ v w, mSet (mSet J2 61 t v) 62 t w 62 u = if u = t then w else J2 62 u := fun v w => by
        unfold mSet va_up
        rw [if_pos rfl]
        split
        · rfl
        · rw [if_neg (by decide)]
      rw [e61, e62, f2 52 (by omega), f2 53 (by omega)]
      by_cases z : u = t
      · rw [if_pos z, if_pos z, z]
        exact ⟨rfl, rfl⟩
      · rw [if_neg z, if_neg z]
        exact hc u (by omega)
  exact lp 61 0 J1 (by omega) (fun _ _ => rfl) (fun u hu => absurd hu (Nat.not_lt_zero _))
end TR9
