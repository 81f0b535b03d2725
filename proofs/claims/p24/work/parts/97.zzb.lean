/-! exchanged: the class -/
section TRG
variable {S : Nat × (Nat → Int32)} {d : Nat} {x : mX} {I I1 I2 : rI0} {J J1 J2 : rJ0} {g b : Nat → Int32} {W : Nat → lV} {P H : Nat → Bool} {u v : Nat}
/-- what exchanged of the class leaves as it was -/
def FX (g : Nat → Int32) (W : Nat → lV) (P H : Nat → Bool) (I : rI0) (J : rJ0) (I' : rI0) (J' : rJ0) : Prop := (∀ b, ¬ ((31 ≤ b ∧ b ≤ 36) ∨ b = 41) → I' b = I b) ∧ (∀ b, ¬ ((31 ≤ b ∧ b ≤ 36) ∨ b = 41) → b ≠ 6 → J' b = J b) ∧ HM g W I' J' ∧ DI g W P H I' J'
theorem pc_se (h : ∀ s, s < 64 → bits5 (J 4 5) s = seB g s) : pc (J 4 5) = nb (seB g) 64 := nb_cg 64 h
theorem xExch {Q : Int32 → rI0 → rJ0 → Prop} (hC : CE g W P H I J) (hD : DI g W P H I J) (hk : ∀ s, seB g s = true → kdN g s < 6 ∧ I 5 s = nI (kdN g s)) (k1 : ∀ u v I' J', u < 64 → v < 64 → nb (seB g) 64 ≤ 24 → hgt g W P H 60 < gN g 3 → exF g W P H u v → FX g W P H I J I' J' → Q (nI (100 * u + v)) I' J') (k0 : 24 < nb (seB g) 64 ∨ gN g 3 ≤ hgt g W P H 60 ∨ (∀ u v, ¬ exB g W P H u v) → ∀ I' J', FX g W P H I J I' J' → Q (-1) I' J') : wcI S (d + 25) 130 [.ref 0] x I J Q := by
  have h3 := hC.2.2.2.2.2.2
  have a64 := hgt_l (g := g) (W := W) (P := P) (H := H) (t := 60)
  have n64 := nb_le (p := seB g) 64
  refine c130_0 (d := d + 24) (c140_0 (d := d + 23) (bcX ?_))
  rw [pc_se hC.2.1.2.2.2.2.1]
  refine ⟨fun q => ⟨fun z => absurd z (by decide), fun _ => ?_⟩, fun q => ⟨fun _ => hg_31 (d := d + 1) hC hD (fun I2 J2 f2 hD2 => ?_), fun z => absurd rfl z⟩⟩
  · have q := (nI_ltI (a := 24) (by omega) (by omega)).mp q
    exact k0 (Or.inl q) I J ⟨fun _ _ => rfl, fun _ _ _ => rfl, hC.2.1, hD⟩
  · have q : ¬ 24 < nb (seB g) 64 := fun w => q (nI_lt (a := 24) w (by omega))
    have hC2 := hC.fd f2
    have fx2 : FX g W P H I J I2 J2 := ⟨fun b hb => f2.1 b (fun w => hb (Or.inl w)), fun b hb _ => f2.2 b (fun w => hb (Or.inl w)), hC2.2.1, hD2⟩
    rw [hC2.2.2.2.2.2.1]
    refine ⟨fun w => ?_, fun w => k0 (Or.inr (Or.inl ?_)) I2 J2 fx2⟩
    · have w := (nI_ltI (by omega) (by omega)).mp w
      have mv : ∀ I3 J3, FE g W I2 J2 I3 J3 → FX g W P H I J I3 J3 := fun I3 J3 f3 => ⟨fun b hb => (f3.1 b (fun y => hb (Or.inr y))).trans (fx2.1 b hb), fun b hb h6 => (f3.2.1 b (fun y => hb (Or.inr y)) h6).trans (fx2.2.1 b hb h6), f3.2.2, hD2.mv (fun b hb => f3.1 b (by omega)) (fun b hb => f3.2.1 b (by omega) (by omega))⟩
      refine c97x (d := d) hC2 (fun s hs => by rw [f2.1 5 (by omega)]; exact hk s hs) (fun u v I3 J3 hu hv hx f3 => ?_) (fun hn I3 J3 f3 => ?_)
      · refine ⟨fun z => absurd z (nI_n1 (by omega)), fun _ => ⟨by decide, by decide, ?_⟩⟩
        rw [show (64 : Int32) = nI 64 from rfl, md32 (by omega) (by omega), dn32 (by omega) (by omega), show (64 * u + v) / 64 = u by omega, show (64 * u + v) % 64 = v by omega, show (100 : Int32) = nI 100 from rfl, nI_mu, nI_add, Nat.mul_comm u 100]
        exact k1 u v I3 J3 hu hv (by omega) w hx (mv I3 J3 f3)
      · exact ⟨fun _ => k0 (Or.inr (Or.inr hn)) I3 J3 (mv I3 J3 f3), fun z => absurd rfl z⟩
    · have : ¬ hgt g W P H 60 < gN g 3 := fun y => w (nI_lt y (by omega))
      omega
end TRG
