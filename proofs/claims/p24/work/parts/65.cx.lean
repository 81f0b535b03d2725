section CX
variable {S : Nat × (Nat → Int32)} {d : Nat} {x : mX} {I : rI0} {J : rJ0}
/-- a sign of the token, as a number -/
def sg (I : rI0) (p : Int32) : Int32 := if p < 0 then 32 else if (I 28 4 + p) < I 28 5 then (if (I 28 4 + p) < 940 then I 2 ((I 28 4 + p).toNatClampNeg) else 32) else 32
theorem signF {c : Nat} {Q : Int32 → rI0 → rJ0 → Prop} (hc : c ≤ 100) (h : TV I) (k : Q (sg I (nI c)) I J) : wcI S d 72 [.ref 28, .int (nI c)] x I J Q := by
  obtain ⟨ln, ed, st, pl, h1, h2, h3, h4, e1, e2, e5, e4⟩ := h
  unfold sg at k
  refine c72_28 ⟨fun z => absurd z (nI_pos (by omega)), fun h0 => ⟨fun z => ⟨fun w => ⟨?_, ?_⟩, fun w => ?_⟩, fun z => ?_⟩⟩
  · rw [e4, nI_add] at w ⊢
    rcases Nat.lt_or_ge (pl + c) 940 with y | y
    · exact nI_in y (by omega)
    · exact absurd w (nI_nlt (b := 940) y (by omega))
  · rw [if_neg h0, if_pos z, if_pos w] at k
    exact k
  · rw [if_neg h0, if_pos z, if_neg w] at k
    exact k
  · rw [if_neg h0, if_neg z] at k
    exact k
def KB (v : Int32) : Prop := v = -1 ∨ RB v 5
/-- what the reading of a house touches -/
def OX (I I' : rI0) : Prop := ∀ b, ¬ (b = 16 ∨ b = 17 ∨ (19 ≤ b ∧ b ≤ 22) ∨ b = 28 ∨ b = 29) → I' b = I b
theorem OX.rf : OX I I := fun _ _ => rfl
theorem OX.tr {I1 I2 : rI0} (h : OX I I1) (h2 : OX I1 I2) : OX I I2 := fun b hb => (h2 b hb).trans (h b hb)
theorem OX.o {I1 : rI0} (h : O28 I I1) : OX I I1 := fun b hb => h b (by omega)
theorem OX.s {n k : Nat} {v : Int32} (hn : n = 16 ∨ n = 17 ∨ (19 ≤ n ∧ n ≤ 22) ∨ n = 28 ∨ n = 29) : OX I (mSet I n k v) := fun b hb => mSet_ne (by omega)
def HI (I : rI0) : Prop := TV I ∧ RB (I 16 0) 8 ∧ RB (I 16 1) 8 ∧ (I 16 4 = 0 ∨ I 16 4 = 1) ∧ (∀ s, s < 64 → KB (I 17 s)) ∧ RB (I 29 2) 20
theorem HI.o {I1 : rI0} (h : HI I) (h1 : O28 I I1) (t : TV I1) : HI I1 := by
  obtain ⟨-, a1, a2, a3, a4, a5⟩ := h
  refine ⟨t, ?_⟩
  rw [h1 16 (by decide), h1 17 (by decide), h1 29 (by decide)]
  exact ⟨a1, a2, a3, a4, a5⟩
theorem failX {p : Int32} {Q : Int32 → rI0 → rJ0 → Prop} (h : HI I) (k : ∀ r I', (r = 0 ∨ r = 1) → OX I I' → HI I' → Q r I' J) : wcI S d 75 [.ref 28, .int p] x I J (fun r I' J' => (r = 0 ∨ r = 1) ∧ Q r I' J') :=
  failA h.1 (fun I' o1 t1 => ⟨Or.inl rfl, k 0 I' (Or.inl rfl) (OX.o o1) (h.o o1 t1)⟩)
theorem row138 {c t R : Nat} {l3 : Int32} {Q : Int32 → rI0 → rJ0 → Prop} (h : HI I) (hR : I 16 0 = nI R) (hR7 : R ≤ 7) (hc : c ≤ 8) (ht : t < c) (h3 : l3 = 120 ∨ (¬ l3 < 97 ∧ l3 < 103)) (k : ∀ I', OX I I' → HI I' → I' 16 0 = nI R → wp S (d + 1) 38 102 [some (.ref 29), some (.int (nI c)), some (.int (nI t + 1)), none] [] (wv x I' J) (rI x Q)) : wp S (d + 1) 38 138 [some (.ref 29), some (.int (nI c)), some (.int (nI t)), some (.int l3)] [] (wv x I J) (rI x Q) := by
  have hb : R * c + t < 64 := by
    have : R * c ≤ 7 * 8 := Nat.mul_le_mul hR7 hc
    rcases Nat.lt_or_ge (R * c + t) 64 with y | y
    · exact y
    · omega
  have hin : ¬ mOut (I 16 0 * nI c + nI t) 64 := by rw [hR, nI_mu, nI_add]; exact nI_in hb (by omega)
  have g : ∀ v, KB v → wp S (d + 1) 38 102 [some (.ref 29), some (.int (nI c)), some (.int (nI t + 1)), none] [] (wv x (mSet I 17 ((I 16 0 * nI c + nI t).toNatClampNeg) v) J) (rI x Q) := by
    intro v hv
    refine k _ (OX.s (by omega)) ?_ hR
    obtain ⟨a0, a1, a2, a3, a4, a5⟩ := h
    refine ⟨a0, a1, a2, a3, fun s hs => ?_, a5⟩
    show KB (mSet I 17 _ v 17 s)
    unfold mSet va_up
    rw [if_pos rfl]
    split
    · exact hv
    · exact a4 s hs
  refine v38_29_138 ⟨fun _ => ⟨hin, g _ (Or.inl rfl)⟩, fun z => ⟨hin, g _ (Or.inr ?_)⟩⟩
  rcases h3 with h3 | ⟨h3, h4⟩
  · exact absurd h3 z
  · rw [Int32.lt_iff_toInt_lt] at h3 h4
    have e1 : (97 : Int32).toInt = 97 := by decide
    have e2 : (103 : Int32).toInt = 103 := by decide
    have es : (l3 - 97).toInt = l3.toInt - 97 := by
      rw [Int32.toInt_sub, e1]
      exact Int.bmod_eq_of_le (by omega) (by omega)
    obtain ⟨u, hu, eu⟩ := i_nat (l := l3 - 97) (n := 5) (by omega) (by rw [Int32.lt_iff_toInt_lt, es]; have e0 : (0 : Int32).toInt = 0 := by decide
                                                                       omega) (by rw [Int32.lt_iff_toInt_lt, es]; have e0 : (nI 5).toInt = 5 := by decide
                                                                                  omega)
    exact ⟨u, hu, eu⟩
theorem row102 {c R : Nat} {Q : Int32 → rI0 → rJ0 → Prop} (hR7 : R ≤ 7) (hc : c ≤ 8) : ∀ (m t : Nat) (I : rI0), t + m = c → HI I → I 16 0 = nI R → (∀ r I', (r = 0 ∨ r = 1) → OX I I' → HI I' → Q r I' J) → wp S (d + 1) 38 102 [some (.ref 29), some (.int (nI c)), some (.int (nI t)), none] [] (wv x I J) (rI x Q) := by
  intro m
  induction m with
  | zero =>
    intro t I hm h hR k
    refine v38_29_102 ⟨fun q => absurd q (nI_nlt (by omega) (by omega)), fun _ => readA h.1 (fun I1 o1 t1 _ => ?_)⟩
    have h' : HI (mSet I 16 0 (I 16 0 + 1)) := by
      obtain ⟨a0, a1, a2, a3, a4, a5⟩ := h
      exact ⟨a0, ⟨R + 1, by omega, by show I 16 0 + 1 = _; rw [hR, nI_succ]⟩, a2, a3, a4, a5⟩
    exact k 1 I1 (Or.inr rfl) ((OX.s (by omega)).tr (OX.o o1)) (h'.o o1 t1)
  | succ m ih =>
    intro t I hm h hR k
    have g : ∀ l3 : Int32, (l3 = 120 ∨ (¬ l3 < 97 ∧ l3 < 103)) → wp S (d + 1) 38 138 [some (.ref 29), some (.int (nI c)), some (.int (nI t)), some (.int l3)] [] (wv x I J) (rI x Q) := fun l3 h3 => row138 h hR hR7 hc (by omega) h3 (fun I1 o1 h1 r1 => by
      rw [← nI_succ]
      exact ih (t + 1) I1 (by omega) h1 r1 (fun r I' hr o2 h2 => k r I' hr (o1.tr o2) h2))
    exact v38_29_102 ⟨fun _ => signF (by omega) h.1 ⟨fun e => g _ (Or.inl e), fun _ => c39 ⟨fun _ => ⟨fun _ => failX h k, fun z => absurd rfl z⟩, fun z1 => ⟨fun z2 => ⟨fun z => absurd z (by decide), fun _ => g _ (Or.inr ⟨z1, z2⟩)⟩, fun _ => ⟨fun _ => failX h k, fun z => absurd rfl z⟩⟩⟩⟩, fun q => absurd (nI_lt (by omega) (by omega)) q⟩
end CX
