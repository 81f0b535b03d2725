/-! trials: worth of the reference; worthOf -/
section TR5
def worthV (g : Nat → Int32) (W : Nat → lV) (H : Nat → Bool) (b : Nat → Int32) (n : Nat) : Int32 := if hdB g b n = true then nI (hhN g W H b n (2 ^ n - 1)) else -1
variable {S : Nat × (Nat → Int32)} {d : Nat} {x : mX} {I I1 I2 : rI0} {J J1 J2 : rJ0} {g b : Nat → Int32} {W : Nat → lV} {P H : Nat → Bool}
theorem pw_m1 {n : Nat} (hn : n ≤ 8) : nI (2 ^ n) - 1 = nI (2 ^ n - 1) := by
  have hp0 : 0 < 2 ^ n := Nat.pow_pos (by decide)
  rw [show 2 ^ n = 2 ^ n - 1 + 1 by omega, nI_pr]
  congr 1
theorem r224x {n : Nat} {Q : Int32 → rI0 → rJ0 → Prop} (hR : RH g W I J) (h3 : gN g 3 ≤ 64) (e17 : ∀ s, s < 64 → bits5 (J 43 17) s = H s) (hb : ∀ i, i < 940 → I 44 i &&& 255 = b i) (e2 : I 43 2 = nI n) (hn : n ≤ 940) (k0 : hdB g b n = false → ∀ I', FU I J I' J → RH g W I' J → Q (-1) I' J) (k1 : hdB g b n = true → ∀ I1 J1 J2, FU I J I1 J1 → RH g W I1 J1 → (∀ b, b ≠ 59 → J2 b = J1 b) → (∀ i, i < n → J2 59 i = Int64.ofInt (adI (hhN g W H b n) n i (2 ^ n))) → Q (nI (hhN g W H b n (2 ^ n - 1))) (mSet I1 43 52 (nI n)) (mSet J2 43 53 (Int64.ofNat (faN n)))) : wcI S (d + 6) 224 [.ref 43] x I J Q := by
  refine c224_43 (d := d + 5) (rHd (d := d + 2) (n := n) (b := b) hR hb e2 hn (fun h I1 f r => ⟨fun _ => k0 h I1 f r, fun z => absurd rfl z⟩) (fun h I1 f r e47 h56 => ⟨fun z => absurd z (by decide), fun _ => ?_⟩))
  have k := k1 h
  obtain ⟨n1, n8, hu⟩ := hdB_t h
  have h8 := pw_8 n8
  have hp0 : 0 < 2 ^ n := Nat.pow_pos (by decide)
  have hhl : ∀ Y, hhN g W H b n Y ≤ 64 := fun _ => hh_l
  have lq : ∀ (I2 : rI0) (J2 : rJ0), FU I J I2 J2 → RH g W I2 J2 → I2 43 47 = nI n → (∀ Y, Y < 2 ^ n → I2 58 Y = nI (hhN g W H b n Y)) → ∀ (j i : Nat) (J3 : rJ0), i + j = n → (∀ b, b ≠ 59 → J3 b = J2 b) → (∀ q, q < i → J3 59 q = Int64.ofInt (adI (hhN g W H b n) n q (2 ^ n))) → wp S (d + 6) 224 53 [some (.ref 43), some (.int (nI i)), none, none] [] (wv x I2 J3) (rI x Q) := by
    intro I2 J2 f2 r2 e47b h58
    revert k
    generalize hhN g W H b n = hh at *
    intro k j
    induction j with
    | zero =>
      intro i J3 hi f3 h59
      have hi : i = n := by omega
      subst hi
      refine v224_43_53 (d := d + 5) ⟨fun q => absurd q (by rw [e47b]; exact nI_nlt (Nat.le_refl _) (by omega)), fun _ => ?_⟩
      rw [e47b]
      refine r223x (m := i) n8 (nI_toInt (by omega)) ?_
      rw [show mSet I2 43 52 (nI i) 43 47 = nI i from e47b, sh_1 i (by omega), pw_m1 n8, nI_clamp (by omega), mSet_ne (by decide), h58 _ (by omega)]
      exact ⟨nI_in (by omega) (by omega), k I2 J2 J3 f2 r2 f3 h59⟩
    | succ j ih =>
      intro i J3 hi f3 h59
      have inn : ∀ (q X : Nat) (J4 : rJ0), X + q = 2 ^ n → (∀ b, b ≠ 59 → J4 b = J2 b) → (∀ q, q < i → J4 59 q = Int64.ofInt (adI hh n q (2 ^ n))) → J4 59 i = Int64.ofInt (adI hh n i X) → wp S (d + 6) 224 70 [some (.ref 43), some (.int (nI i)), some (.int (nI X)), none] [] (wv x I2 J4) (rI x Q) := by
        intro q
        induction q with
        | zero =>
          intro X J4 hX f4 h59a hi4
          have hX : X = 2 ^ n := by omega
          subst hX
          refine v224_43_70 (d := d + 5) ⟨fun w => absurd w (by rw [e47b, sh_1 n (by omega)]; exact nI_nlt (Nat.le_refl _) (by omega)), fun _ => ?_⟩
          rw [← nI_succ]
          refine ih (i + 1) J4 (by omega) f4 (fun q hq => ?_)
          by_cases z : q = i
          · rw [z]
            exact hi4
          · exact h59a q (by omega)
        | succ q ihq =>
          intro X J4 hX f4 h59a hi4
          refine v224_43_70 (d := d + 5) ⟨fun _ => c152 ⟨fun w => ⟨fun z => absurd z (by decide), fun _ => ?_⟩, fun w => ⟨fun _ => ?_, fun z => absurd rfl z⟩⟩, fun w => absurd (by rw [e47b, sh_1 n (by omega)]; exact nI_lt (by omega) (by omega)) w⟩
          · have w := (hbt_n (by omega) (by omega)).mp w
            rw [← nI_succ]
            refine ihq (X + 1) J4 (by omega) f4 h59a ?_
            rw [show adI hh n i (X + 1) = adI hh n i X + tmI hh n i X from rfl, show tmI hh n i X = 0 from if_pos w, Int.add_zero]
            exact hi4
          · have w := mt (hbt_n (by omega) (by omega)).mpr w
            have bn := bc_n n8 (show X < 2 ^ n by omega) (show i < n by omega) w
            have ol := or_l (show X < 2 ^ n by omega) (show i < n by omega)
            refine c154x (by omega) ⟨nI_in (by omega) (by omega), r223x (m := bcN X) (by omega) (nI_toInt (by omega)) ?_⟩
            rw [e47b]
            refine r223x (m := n - 1 - bcN X) (by omega) (n1_b n8 bn) ?_
            rw [sh_1 i (by omega), nI_or, nI_clamp (show X ||| 2 ^ i < 2 ^ 31 by omega), nI_clamp (show X < 2 ^ 31 by omega), nI_clamp (show i < 2 ^ 31 by omega), h58 _ ol, h58 X (by omega), d64 _ (by have := hhl (X ||| 2 ^ i); omega) _ (by have := hhl X; omega), ← Int64.ofNat_mul, ← Int64.ofInt_eq_ofNat, ← Int64.ofInt_mul, hi4, ← Int64.ofInt_add, ← nI_succ]
            refine ⟨nI_in (by omega) (by omega), nI_in (by omega) (by omega), nI_in (by omega) (by omega), ?_⟩
            refine ihq (X + 1) _ (by omega) (fun b hb => (mSet_ne hb).trans (f4 b hb)) (fun q hq => ?_) ?_
            · unfold mSet va_up
              rw [if_pos rfl, if_neg (by omega)]
              exact h59a q hq
            · unfold mSet va_up
              rw [if_pos rfl, if_pos rfl, show adI hh n i (X + 1) = adI hh n i X + tmI hh n i X from rfl, show tmI hh n i X = ((faN (bcN X) * faN (n - 1 - bcN X) : Nat) : Int) * ((hh (X ||| 2 ^ i) : Int) - (hh X : Int)) from if_neg w]
      refine v224_43_53 (d := d + 5) ⟨fun _ => ⟨nI_in (by omega) (by omega), ?_⟩, fun q => absurd (by rw [e47b]; exact nI_lt (by omega) (by omega)) q⟩
      rw [nI_clamp (by omega)]
      refine inn (2 ^ n) 0 _ (by omega) (fun b hb => (mSet_ne hb).trans (f3 b hb)) (fun q hq => ?_) ?_
      · unfold mSet va_up
        rw [if_pos rfl, if_neg (by omega)]
        exact h59 q hq
      · unfold mSet va_up
        rw [if_pos rfl, if_pos rfl]
        rfl
  have lp : ∀ (j X : Nat) (I2 : rI0) (J2 : rJ0), X + j = 2 ^ n → FU I J I2 J2 → RH g W I2 J2 → I2 43 47 = nI n → (∀ j, j < n → I2 56 j = b j) → (∀ Y, Y < X → I2 58 Y = nI (hhN g W H b n Y)) → wp S (d + 6) 224 16 [some (.ref 43), some (.int (nI X)), none, none] [] (wv x I2 J2) (rI x Q) := by
    intro j
    induction j with
    | zero =>
      intro X I2 J2 hX f2 r2 e47b h56b h58
      have hX : X = 2 ^ n := by omega
      subst hX
      exact v224_43_16 ⟨fun q => absurd q (by rw [e47b, sh_1 n (by omega)]; exact nI_nlt (Nat.le_refl _) (by omega)), fun _ => lq I2 J2 f2 r2 e47b h58 n 0 J2 (by omega) (fun _ _ => rfl) (fun q hq => absurd hq (Nat.not_lt_zero _))⟩
    | succ j ih =>
      intro X I2 J2 hX f2 r2 e47b h56b h58
      refine v224_43_16 (d := d + 5) ⟨fun _ => r218x (d := d + 4) (b := b) (n := n) (g := g) e47b h56b n8 (by omega) hu (fun v hv => rht (d := d) (P := paB (fun _ => false) b n X) (H := H) r2 h3 (pa0_e hv) (fun s hs => by rw [f2.2.2.2.1 17 (by omega)]; exact e17 s hs) (fun I3 J3 f3 h4 h44 h45 => ⟨nI_in (by omega) (by omega), ?_⟩)), fun q => absurd (by rw [e47b, sh_1 n (by omega)]; exact nI_lt (by omega) (by omega)) q⟩
      rw [nI_clamp (by omega), ← nI_succ]
      refine ih (X + 1) _ J3 (by omega) ((f2.h f3).s (Or.inr rfl)) (h4.h.s (Or.inr rfl)) ((f3.2.1 47 (by decide) (by omega)).trans e47b) (fun j hj => by rw [mSet_ne (by decide), f3.1 56 (by decide) (by decide)]; exact h56b j hj) (fun Y hY => ?_)
      unfold mSet va_up
      rw [if_pos rfl]
      by_cases z : Y = X
      · rw [z, if_pos rfl]
        rfl
      · rw [if_neg z, f3.1 58 (by decide) (by decide)]
        exact h58 Y (by omega)
  exact lp (2 ^ n) 0 I1 J (by omega) f r e47 h56 (fun Y hY => absurd hY (Nat.not_lt_zero _))
/-- the class: worth -/
theorem xWorth {n : Nat} {Q : Int32 → rI0 → rJ0 → Prop} (hC : CE g W P H I J) (e1 : I 1 1 = nI n) (hn : n ≤ 940) (k0 : hdB g (I 2) n = false → Q (-1) (mSet I 1 1 0) J) (k1 : hdB g (I 2) n = true → ∀ I1 J1 I2, FC I J I1 J1 → (∀ b, b ≠ 40 → I2 b = I1 b) → (∀ i, i < n → I2 40 i = Int32.ofInt (adI (hhN g W H (I 2) n) n i (2 ^ n))) → Q (nI (hhN g W H (I 2) n (2 ^ n - 1))) (mSet I2 37 7 (nI n)) J1) : wcI S (d + 24) 123 [.ref 0] x I J Q := by
  refine c123_0 (d := d + 23) (c67_1 ?_)
  rw [e1]
  refine xHd (d := d + 21) hC hn (fun h => ⟨fun _ => k0 h, fun z => absurd rfl z⟩) (fun h => ⟨fun z => absurd z (by decide), fun _ => ?_⟩)
  obtain ⟨n1, n8, hu⟩ := hdB_t h
  exact c88x (d := d) (b := I 2) hC.tk rfl n1 n8 hu (fun I1 J1 I2 f h2 h3 => k1 h I1 J1 I2 f.c h2 h3)
end TR5
