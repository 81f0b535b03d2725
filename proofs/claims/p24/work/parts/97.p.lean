section CQ0
variable {S : Nat × (Nat → Int32)} {d : Nat} {x : mX} {I I' : rI0} {J J' : rJ0} {p1 p2 : Int32} {n : Nat} {g : Nat → Int32}
theorem lg_r (v : Int64) : lg_cmp v v = 0 := by
  unfold lg_cmp
  rw [if_neg (fun z => absurd (Int64.lt_iff_toInt_lt.mp z) (by omega)), if_pos rfl]
def okC (n : Nat) (p1 p2 : Int32) : Prop := 0 ≤ p1.toInt ∧ p1.toInt < (n : Int) ∧ 0 ≤ p2.toInt ∧ p2.toInt ≤ 2
theorem cueX {T : mX → rI0 → rJ0 → Prop} {Q : Int32 → rI0 → rJ0 → Prop} (hn : n ≤ 30) (e : I 3 4 = nI n) (m4 : ∀ i, i < n → I 12 i = g (591 + 3 * i) ∧ I 13 i = g (592 + 3 * i) ∧ I 14 i = g (593 + 3 * i)) (kt : ¬ okC n p1 p2 → 68 + x.1.length < 1000000 ∧ T (xA x (0, 11) 6) (va_up I (68 + x.1.length) (fun _ => 0)) (va_up J (68 + x.1.length) (fun _ => 0))) (k : okC n p1 p2 → Q (g ((591 : Int32) + (3 : Int32) * p1 + p2).toNatClampNeg) I J) : wcT S (d + 1) 108 [.ref 0, .int p1, .int p2] x I J T Q := by
  have l0 : (0 : Int32).toInt = 0 := by decide
  have l1 : (1 : Int32).toInt = 1 := by decide
  have l2 : (2 : Int32).toInt = 2 := by decide
  have l3 : (3 : Int32).toInt = 3 := by decide
  have l591 : (591 : Int32).toInt = 591 := by decide
  have tn : (I 3 4).toInt = (n : Int) := by
    rw [e]
    exact nI_toInt (by omega)
  refine c108_0 ⟨fun z => kt (fun c => by have := i_lt z; have := c.1; omega), fun a => ⟨fun b => ⟨fun z => kt (fun c => by have := i_lt z; have := c.2.2.1; omega), fun c0 => ⟨fun z => kt (fun c => by have := i_lt z; have := c.2.2.2; omega), fun c2 => ?_⟩⟩, fun z => kt (fun c => by have := i_nlt z; have := c.2.1; omega)⟩⟩
  have a := i_nlt a
  have b := i_lt b
  have c0 := i_nlt c0
  have c2 := i_nlt c2
  have q := k ⟨by omega, by omega, by omega, by omega⟩
  have hi : ¬ mOut p1 30 := i_in (e := p1) (A := p1.toInt) rfl (by omega)
  have ci := i_cl p1 (by omega)
  have t1 := i_mul (a := 3) (b := p1) l3 rfl (by omega)
  have t2 := i_add (a := 591) l591 t1 (by omega)
  have t3 := i_add (b := p2) t2 rfl (by omega)
  have cj := i_cl ((591 : Int32) + (3 : Int32) * p1 + p2) (by omega)
  obtain ⟨w1, w2, w3⟩ := m4 p1.toNatClampNeg (by omega)
  refine ⟨fun z => ⟨hi, ?_⟩, fun z => ⟨fun y => ⟨hi, ?_⟩, fun y => ⟨hi, ?_⟩⟩⟩
  · have zt := congrArg Int32.toInt z
    rw [w1]
    rw [show ((591 : Int32) + (3 : Int32) * p1 + p2).toNatClampNeg = 591 + 3 * p1.toNatClampNeg by omega] at q
    exact q
  · have zt := congrArg Int32.toInt y
    rw [w2]
    rw [show ((591 : Int32) + (3 : Int32) * p1 + p2).toNatClampNeg = 592 + 3 * p1.toNatClampNeg by omega] at q
    exact q
  · have zt := i_ne z
    have yt := i_ne y
    rw [w3]
    rw [show ((591 : Int32) + (3 : Int32) * p1 + p2).toNatClampNeg = 593 + 3 * p1.toNatClampNeg by omega] at q
    exact q
theorem cueY {Q : Int32 → rI0 → rJ0 → Prop} (hn : n ≤ 30) (e : I' 45 590 = nI n) (k0 : ¬ okC n p1 p2 → Q 0 (mSet I' 43 0 1) J') (k1 : okC n p1 p2 → Q (I' 45 ((591 : Int32) + (3 : Int32) * p1 + p2).toNatClampNeg) (mSet I' 43 0 0) J') : wcI S (d + 1) 194 [.ref 43, .int p1, .int p2] x I' J' Q := by
  have l0 : (0 : Int32).toInt = 0 := by decide
  have l1 : (1 : Int32).toInt = 1 := by decide
  have l2 : (2 : Int32).toInt = 2 := by decide
  have l3 : (3 : Int32).toInt = 3 := by decide
  have l591 : (591 : Int32).toInt = 591 := by decide
  have tn : ((I' 45 ((590 : Int32).toNatClampNeg)) - (1 : Int32)).toInt = (n : Int) - 1 := by
    rw [show I' 45 ((590 : Int32).toNatClampNeg) = nI n from e]
    exact i_sub (nI_toInt (by omega)) l1 (by omega)
  have s1 : ¬ okC n p1 p2 → wp S (d + 1) 194 33 [some (.ref 43), some (.int p1), some (.int p2)] [.int (1 : Int32), .ref 43] (wv x I' J') (rI x Q) := fun z => v194_43_33 (c146_43 ⟨fun z => absurd z (by decide), fun _ => ⟨Or.inr rfl, ⟨fun z => absurd z (by decide), fun _ => k0 z⟩⟩⟩)
  refine c194_43 ⟨by decide, c151 ⟨fun z => ⟨fun _ => s1 (fun c => by have := i_lt z; have := c.1; omega), fun z => absurd rfl z⟩, fun z0 => ⟨fun z => ⟨fun _ => s1 (fun c => by have := i_lt z; have := c.2.1; omega), fun z => absurd rfl z⟩, fun z1 => ⟨fun z => absurd z (by decide), fun _ => c151 ⟨fun z => ⟨fun _ => s1 (fun c => by have := i_lt z; have := c.2.2.1; omega), fun z => absurd rfl z⟩, fun y0 => ⟨fun z => ⟨fun _ => s1 (fun c => by have := i_lt z; have := c.2.2.2; omega), fun z => absurd rfl z⟩, fun y1 => ⟨fun z => absurd z (by decide), fun _ => ?_⟩⟩⟩⟩⟩⟩⟩
  have z0 := i_nlt z0
  have z1 := i_nlt z1
  have y0 := i_nlt y0
  have y1 := i_nlt y1
  have t1 := i_mul (a := 3) (b := p1) l3 rfl (by omega)
  have t2 := i_add (a := 591) l591 t1 (by omega)
  have t3 := i_add (b := p2) t2 rfl (by omega)
  exact v194_43_33 (c146_43 ⟨fun _ => ⟨Or.inl rfl, ⟨fun _ => ⟨i_in t3 (by omega), k1 ⟨by omega, by omega, by omega, by omega⟩⟩, fun z => absurd rfl z⟩⟩, fun z => absurd rfl z⟩)
end CQ0
