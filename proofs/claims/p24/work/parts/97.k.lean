section AN0
variable {S : Nat × (Nat → Int32)} {d : Nat} {x : mX} {I I' : rI0} {J J' : rJ0} {A p q : Int32}
theorem lawC (h1 : 0 ≤ p.toInt ∧ p.toInt < 6 ∧ 0 ≤ q.toInt ∧ q.toInt ≤ 1 → A = I 9 ((2 : Int32) * p + q).toNatClampNeg) (h0 : ¬ (0 ≤ p.toInt ∧ p.toInt < 6 ∧ 0 ≤ q.toInt ∧ q.toInt ≤ 1) → A = -1) : wcI S d 104 [.ref 0, .int p, .int q] x I J (fun v _ _ => v = A) := by
  have l0 : (0 : Int32).toInt = 0 := by decide
  have l1 : (1 : Int32).toInt = 1 := by decide
  have l2 : (2 : Int32).toInt = 2 := by decide
  have l6 : (6 : Int32).toInt = 6 := by decide
  refine c104_0 ⟨fun z => (h0 (fun c => by have := i_lt z; omega)).symm, fun z0 => ⟨fun z1 => ⟨fun y => (h0 (fun c => by have := i_lt y; omega)).symm, fun y0 => ⟨fun y => (h0 (fun c => by have := i_lt y; omega)).symm, fun y1 => ?_⟩⟩, fun z => (h0 (fun c => by have := i_nlt z; omega)).symm⟩⟩
  have z0 := i_nlt z0
  have z1 := i_lt z1
  have y0 := i_nlt y0
  have y1 := i_nlt y1
  have m := i_mul (a := 2) (b := p) l2 rfl (by omega)
  have s := i_add (b := q) m rfl (by omega)
  exact ⟨i_in s (by omega), (h1 ⟨by omega, by omega, by omega, by omega⟩).symm⟩
theorem lawR (h : NRw 3 I J (I' 45)) (h1 : 0 ≤ p.toInt ∧ p.toInt < 6 ∧ 0 ≤ q.toInt ∧ q.toInt ≤ 1 → A = I 9 ((2 : Int32) * p + q).toNatClampNeg) (h0 : ¬ (0 ≤ p.toInt ∧ p.toInt < 6 ∧ 0 ≤ q.toInt ∧ q.toInt ≤ 1) → A = -1) : wcI S (d + 1) 189 [.ref 43, .int p, .int q] x I' J' (fun v _ _ => v = A) := by
  have l0 : (0 : Int32).toInt = 0 := by decide
  have l1 : (1 : Int32).toInt = 1 := by decide
  have l2 : (2 : Int32).toInt = 2 := by decide
  have l5 : (5 : Int32).toInt = 5 := by decide
  have l42 : (42 : Int32).toInt = 42 := by decide
  have l86 : (86 : Int32).toInt = 86 := by decide
  refine c189_43 (c151 ⟨fun z => ⟨fun _ => (h0 (fun c => by have := i_lt z; omega)).symm, fun z => absurd rfl z⟩, fun z0 => ⟨fun z => ⟨fun _ => (h0 (fun c => by have := i_lt z; omega)).symm, fun z => absurd rfl z⟩, fun z1 => ⟨fun z => absurd z (by decide), fun _ => c151 ⟨fun z => ⟨fun _ => (h0 (fun c => by have := i_lt z; omega)).symm, fun z => absurd rfl z⟩, fun y0 => ⟨fun z => ⟨fun _ => (h0 (fun c => by have := i_lt z; omega)).symm, fun z => absurd rfl z⟩, fun y1 => ⟨fun z => absurd z (by decide), fun _ => ?_⟩⟩⟩⟩⟩⟩)
  have z0 := i_nlt z0
  have z1 := i_nlt z1
  have y0 := i_nlt y0
  have y1 := i_nlt y1
  have m := i_mul (a := 2) (b := p) l2 rfl (by omega)
  have s := i_add (b := q) m rfl (by omega)
  have m2 := i_mul (a := 42) l42 s (by omega)
  have s2 := i_add (a := 86) l86 m2 (by omega)
  have c1 := i_cl ((2 : Int32) * p + q) (by omega)
  have c2 := i_cl ((86 : Int32) + (42 : Int32) * ((2 : Int32) * p + q)) (by omega)
  have a := h1 ⟨by omega, by omega, by omega, by omega⟩
  generalize ((2 : Int32) * p + q).toNatClampNeg = l at a c1
  have ix : ((86 : Int32) + (42 : Int32) * ((2 : Int32) * p + q)).toNatClampNeg = 86 + 42 * l := by omega
  refine ⟨i_in s2 (by omega), ?_⟩
  rw [ix, mSet_ne (by decide)]
  rcases h.2.2.2.2.2 l (by omega) with ⟨b1, b2⟩ | ⟨sz, b1, b2, b3⟩
  · refine ⟨fun _ => ?_, fun z => absurd b2 z⟩
    rw [a]
    exact b1.symm
  · refine ⟨fun z => ?_, fun _ => ?_⟩
    · have e : nI sz = nI 0 := b2.symm.trans z
      have := nI_ij (by have := b3.2.1; omega) (by omega) e
      have := b3.1
      omega
    · rw [a, b2]
      exact b1.symm
def StK (J : rJ0) (p : Int32) : Prop := ∃ s, s < 64 ∧ p = nI s ∧ SB (J 4 5) s
theorem payC (h1 : StK J p ∧ 0 ≤ q.toInt ∧ q.toInt ≤ 1 → A = 1) (h0 : ¬ (StK J p ∧ 0 ≤ q.toInt ∧ q.toInt ≤ 1) → A = 0) : wcI S (d + 1) 105 [.ref 0, .int p, .int q] x I J (fun v _ _ => v = A) := by
  have l0 : (0 : Int32).toInt = 0 := by decide
  have l1 : (1 : Int32).toInt = 1 := by decide
  refine c105_0 (isSeatE_4 (fun f => ⟨fun _ => (h0 (fun c => ?_)).symm, fun z => absurd rfl z⟩) (fun s hs e hb => ⟨fun z => absurd z (by decide), fun _ => ⟨fun q0 => (h0 (fun c => by have := i_lt q0; omega)).symm, fun q0 => ⟨fun q1 => (h0 (fun c => by have := i_lt q1; omega)).symm, fun q1 => wbA (fun v => c6_31 (h1 ⟨⟨s, hs, e, hb⟩, by have := i_nlt q0; omega, by have := i_nlt q1; omega⟩).symm)⟩⟩⟩))
  obtain ⟨⟨s, hs, e, hb⟩, -⟩ := c
  exact f s hs e hb
theorem payR (h : NRw 3 I J (I' 45)) (h1 : StK J p ∧ 0 ≤ q.toInt ∧ q.toInt ≤ 1 → A = 1) (h0 : ¬ (StK J p ∧ 0 ≤ q.toInt ∧ q.toInt ≤ 1) → A = 0) : wcI S (d + 2) 190 [.ref 43, .int p, .int q] x I' J' (fun v _ _ => v = A) := by
  have l0 : (0 : Int32).toInt = 0 := by decide
  have l1 : (1 : Int32).toInt = 1 := by decide
  have h' : NRw 3 I J ((mSet I' 43 0 0) 45) := h
  by_cases c : StK J p
  · have c' := c
    obtain ⟨s, hs, e, hb⟩ := c
    exact c190_43 (h'.s1 hs e hb (fun _ => ⟨fun z => absurd z (by decide), fun _ => c151 ⟨fun z => ⟨fun _ => (h0 (fun c => by have := i_lt z; omega)).symm, fun z => absurd rfl z⟩, fun z0 => ⟨fun z => ⟨fun _ => (h0 (fun c => by have := i_lt z; omega)).symm, fun z => absurd rfl z⟩, fun z1 => ⟨fun z => absurd z (by decide), fun _ => ⟨fun _ => (h1 ⟨c', by have := i_nlt z0; omega, by have := i_nlt z1; omega⟩).symm, fun _ => (h1 ⟨c', by have := i_nlt z0; omega, by have := i_nlt z1; omega⟩).symm⟩⟩⟩⟩⟩))
  · exact c190_43 (h'.s0 (fun t ht e2 hb2 => c ⟨t, ht, e2, hb2⟩) ⟨fun _ => (h0 (fun z => c z.1)).symm, fun z => absurd rfl z⟩)
theorem hissC (h1 : StK J p ∧ 0 ≤ q.toInt ∧ q.toInt ≤ 1 → A = 1) (h0 : ¬ (StK J p ∧ 0 ≤ q.toInt ∧ q.toInt ≤ 1) → A = 0) : wcI S (d + 1) 106 [.ref 0, .int p, .int q] x I J (fun v _ _ => v = A) := by
  have l0 : (0 : Int32).toInt = 0 := by decide
  have l1 : (1 : Int32).toInt = 1 := by decide
  refine c106_0 (isSeatE_4 (fun f => ⟨fun _ => (h0 (fun c => ?_)).symm, fun z => absurd rfl z⟩) (fun s hs e hb => ⟨fun z => absurd z (by decide), fun _ => ⟨fun q0 => (h0 (fun c => by have := i_lt q0; omega)).symm, fun q0 => ⟨fun q1 => (h0 (fun c => by have := i_lt q1; omega)).symm, fun q1 => wbA (fun v => c6_31 (h1 ⟨⟨s, hs, e, hb⟩, by have := i_nlt q0; omega, by have := i_nlt q1; omega⟩).symm)⟩⟩⟩))
  obtain ⟨⟨s, hs, e, hb⟩, -⟩ := c
  exact f s hs e hb
theorem hissR (h : NRw 3 I J (I' 45)) (h1 : StK J p ∧ 0 ≤ q.toInt ∧ q.toInt ≤ 1 → A = 1) (h0 : ¬ (StK J p ∧ 0 ≤ q.toInt ∧ q.toInt ≤ 1) → A = 0) : wcI S (d + 2) 191 [.ref 43, .int p, .int q] x I' J' (fun v _ _ => v = A) := by
  have l0 : (0 : Int32).toInt = 0 := by decide
  have l1 : (1 : Int32).toInt = 1 := by decide
  have h' : NRw 3 I J ((mSet I' 43 0 0) 45) := h
  by_cases c : StK J p
  · have c' := c
    obtain ⟨s, hs, e, hb⟩ := c
    exact c191_43 (h'.s1 hs e hb (fun _ => ⟨fun z => absurd z (by decide), fun _ => c151 ⟨fun z => ⟨fun _ => (h0 (fun c => by have := i_lt z; omega)).symm, fun z => absurd rfl z⟩, fun z0 => ⟨fun z => ⟨fun _ => (h0 (fun c => by have := i_lt z; omega)).symm, fun z => absurd rfl z⟩, fun z1 => ⟨fun z => absurd z (by decide), fun _ => ⟨fun _ => (h1 ⟨c', by have := i_nlt z0; omega, by have := i_nlt z1; omega⟩).symm, fun _ => (h1 ⟨c', by have := i_nlt z0; omega, by have := i_nlt z1; omega⟩).symm⟩⟩⟩⟩⟩))
  · exact c191_43 (h'.s0 (fun t ht e2 hb2 => c ⟨t, ht, e2, hb2⟩) ⟨fun _ => (h0 (fun z => c z.1)).symm, fun z => absurd rfl z⟩)
theorem exgC (h1 : StK J p ∧ StK J q ∧ ¬ p = q → A = 1) (h0 : ¬ (StK J p ∧ StK J q ∧ ¬ p = q) → A = 0) : wcI S (d + 3) 131 [.ref 0, .int p, .int q] x I J (fun v _ _ => v = A) := by
  refine c131_0 (isSeatE_4 (fun f => ⟨fun _ => (h0 (fun c => ?_)).symm, fun z => absurd rfl z⟩) (fun s hs e hb => ⟨fun z => absurd z (by decide), fun _ => isSeatE_4 (fun f => ⟨fun _ => (h0 (fun c => ?_)).symm, fun z => absurd rfl z⟩) (fun t ht e2 hb2 => ⟨fun z => absurd z (by decide), fun _ => ⟨fun z => (h0 (fun c => c.2.2 z)).symm, fun z => exchangeA hs ht e e2 (fun J' o => c6_31 (h1 ⟨⟨s, hs, e, hb⟩, ⟨t, ht, e2, hb2⟩, z⟩).symm)⟩⟩)⟩))
  · obtain ⟨⟨s, hs, e, hb⟩, -⟩ := c
    exact f s hs e hb
  · obtain ⟨-, ⟨s, hs, e, hb⟩, -⟩ := c
    exact f s hs e hb
theorem exgR (h : NRw 3 I J (I' 45)) (h1 : StK J p ∧ StK J q ∧ ¬ p = q → A = 1) (h0 : ¬ (StK J p ∧ StK J q ∧ ¬ p = q) → A = 0) : wcI S (d + 2) 235 [.ref 43, .int p, .int q] x I' J' (fun v _ _ => v = A) := by
  have h' : NRw 3 I J ((mSet I' 43 0 0) 45) := h
  by_cases c : StK J p
  · obtain ⟨s, hs, e, hb⟩ := c
    refine c235_43 (h'.s1 hs e hb (fun _ => ⟨fun z => absurd z (by decide), fun _ => ?_⟩))
    by_cases c2 : StK J q
    · obtain ⟨t, ht, e2, hb2⟩ := c2
      refine h'.s1 ht e2 hb2 (fun _ => ⟨fun z => absurd z (by decide), fun _ => ⟨fun z => (h0 (fun c => c.2.2 z)).symm, fun z => ?_⟩⟩)
      have a := (h1 ⟨⟨s, hs, e, hb⟩, ⟨t, ht, e2, hb2⟩, z⟩).symm
      have i1 : ¬ mOut ((6 : Int32) + p) 681 := by
        rw [e, show (6 : Int32) + nI s = nI (6 + s) from nI_add 6 s]
        exact nI_in (by omega) (by omega)
      have i2 : ¬ mOut ((6 : Int32) + q) 681 := by
        rw [e2, show (6 : Int32) + nI t = nI (6 + t) from nI_add 6 t]
        exact nI_in (by omega) (by omega)
      exact c232_43 ⟨i1, i2, i1, i2, a⟩
    · exact h'.s0 (fun t ht e2 hb2 => c2 ⟨t, ht, e2, hb2⟩) ⟨fun _ => (h0 (fun c => c2 c.2.1)).symm, fun z => absurd rfl z⟩
  · exact c235_43 (h'.s0 (fun t ht e2 hb2 => c ⟨t, ht, e2, hb2⟩) ⟨fun _ => (h0 (fun z => c z.1)).symm, fun z => absurd rfl z⟩)
end AN0
