/-! the cues: the class's draft rows 24 to 26 against the reference's row 47 -/
section CU0
variable {S S' : Nat × (Nat → Int32)} {d d' : Nat} {x x' : mX} {I I' : rI0} {J J' : rJ0} {b : Nat → Int32} {n lim p c : Nat}
def CRl (c : Nat) (I I' : rI0) : Prop := ∀ i, i < c → RB (I 24 i) 600 ∧ I 24 i = I' 47 (3 * i) ∧ I 25 i = I' 47 (3 * i + 1) ∧ I 26 i = I' 47 (3 * i + 2)
/-- what the class's readCue may change -/
def ccF (I I1 : rI0) : Prop := ∀ a, ¬ (a = 15 ∨ (24 ≤ a ∧ a ≤ 26) ∨ a = 28) → I1 a = I a
theorem ccF.rf : ccF I I := fun _ _ => rfl
theorem ccF.tr {I1 I2 : rI0} (h : ccF I I1) (h2 : ccF I1 I2) : ccF I I2 := fun a ha => (h2 a ha).trans (h a ha)
theorem ccF.s {a k : Nat} {v : Int32} (ha : a = 15 ∨ (24 ≤ a ∧ a ≤ 26) ∨ a = 28) : ccF I (mSet I a k v) := fun c hc => mSet_ne (by omega)
theorem ccF.o {I1 : rI0} (h : ∀ a, a ≠ 28 → I1 a = I a) : ccF I I1 := fun a ha => h a (by omega)
/-- what the reference's may change -/
def crF (I : rI0) (J : rJ0) (I2 : rI0) (J2 : rJ0) : Prop := (∀ a, ¬ (a = 43 ∨ a = 47) → I2 a = I a) ∧ (∀ k, ¬ (k = 4 ∨ (9 ≤ k ∧ k ≤ 14) ∨ k = 18 ∨ k = 31) → I2 43 k = I 43 k) ∧ (∀ a, a ≠ 43 → J2 a = J a) ∧ ∀ k, k ≠ 15 → J2 43 k = J 43 k
theorem crF.rf : crF I J I J := ⟨fun _ _ => rfl, fun _ _ => rfl, fun _ _ => rfl, fun _ _ => rfl⟩
theorem crF.tr {I1 I2 : rI0} {J1 J2 : rJ0} (h : crF I J I1 J1) (h2 : crF I1 J1 I2 J2) : crF I J I2 J2 := ⟨fun a ha => (h2.1 a ha).trans (h.1 a ha), fun k hk => (h2.2.1 k hk).trans (h.2.1 k hk), fun a ha => (h2.2.2.1 a ha).trans (h.2.2.1 a ha), fun k hk => (h2.2.2.2 k hk).trans (h.2.2.2 k hk)⟩
theorem crF.s {k : Nat} {v : Int32} (hk : k = 4 ∨ (9 ≤ k ∧ k ≤ 14) ∨ k = 18 ∨ k = 31) : crF I J (mSet I 43 k v) J := ⟨fun a ha => mSet_ne (by omega), fun j hj => mSet_x (by omega), fun _ _ => rfl, fun _ _ => rfl⟩
theorem crF.h {k : Nat} {v : Int32} : crF I J (mSet I 47 k v) J := ⟨fun a ha => mSet_ne (by omega), fun j hj => by rw [mSet_ne (by decide)], fun _ _ => rfl, fun _ _ => rfl⟩
theorem crF.nx {I2 : rI0} {J2 : rJ0} (h : Nf5 I J I2 J2) : crF I J I2 J2 := ⟨fun a ha => h.1 a (by omega), fun k hk => h.2.1 k (by omega), h.2.2.1, h.2.2.2⟩
theorem crF.bd {v : Int32} : crF I J (bdI I v) J := (crF.s (by omega)).tr (crF.s (by omega))
/-- a cue and its sign, on the reference's side -/
def refQ (S : Nat × (Nat → Int32)) (d : Nat) (x : mX) (Q' : Int32 → rI0 → rJ0 → Prop) (r1 : Int32) (I1 : rI0) (J1 : rJ0) : Prop := (r1 = 0 → Q' 0 I1 J1) ∧ (¬ r1 = 0 → wcI S (d + 5) 165 [.ref 43, .int (59 : Int32)] x I1 J1 (fun r2 I2 J2 => (r2 = 0 → Q' 0 I2 J2) ∧ (¬ r2 = 0 → Q' 1 (mSet I2 43 31 (I2 43 31 + 1)) J2)))
def COut (b : Nat → Int32) (n lim p c : Nat) (I' : rI0) (v : Int32) (I1 I2 : rI0) (J2 : rJ0) : Prop := (v = 0 ∧ ∃ f, ¬ f = 0 ∧ I1 28 8 = f ∧ I2 43 13 = f ∧ I1 28 4 = I2 43 14) ∨ (v = 1 ∧ I2 43 13 = I' 43 13 ∧ c < 30 ∧ I1 15 4 = nI (c + 1) ∧ I2 43 31 = nI (c + 1) ∧ CRl (c + 1) I1 I2 ∧ ∃ p1, p < p1 ∧ p1 ≤ n ∧ Tck b n lim p1 I1 ∧ I1 28 8 = 0 ∧ Nck b n lim p1 I2 J2)
/-- the reference, from where it stands (K: its run to the end of the cue), comes out alike -/
def RefC (K : (Int32 → rI0 → rJ0 → Prop) → Prop) (S : Nat × (Nat → Int32)) (d : Nat) (x : mX) (b : Nat → Int32) (n lim p c : Nat) (I' : rI0) (J' : rJ0) (v : Int32) (I1 : rI0) : Prop := ∃ I2 J2, crF I' J' I2 J2 ∧ COut b n lim p c I' v I1 I2 J2 ∧ ∀ Q' : Int32 → rI0 → rJ0 → Prop, Q' v I2 J2 → K (refQ S d x Q')
/-- a fault at the token both look at -/
theorem RefC.bad {K : (Int32 → rI0 → rJ0 → Prop) → Prop} {p0 : Nat} {I0 : rI0} {J0 : rJ0} {f : Int32} (hf : ¬ f = 0) (t : Tck b n lim p I) (u : Nck b n lim p I' J') (fr : crF I0 J0 I' J') (ev : ∀ Q, Q 0 (bdI I' f) J' → K Q) : RefC K S d x b n lim p0 c I0 J0 0 (mSet I 28 8 f) := by
  refine ⟨bdI I' f, J', fr.tr crF.bd, Or.inl ⟨rfl, f, hf, rfl, rfl, ?_⟩, fun Q' q => ev _ ⟨fun _ => q, fun z => absurd rfl z⟩⟩
  show I 28 4 = I' 43 10
  rw [t.2.2.2.1, u.2.2.2.1]
/-- the cue is read: its sign -/
theorem cuEnd {K : (Int32 → rI0 → rJ0 → Prop) → Prop} {p0 : Nat} {I0 B : rI0} {J0 : rJ0} {Q : Int32 → rI0 → rJ0 → Prop} (hc : c < 30) (hp : p0 < p) (t : Tck b n lim p I) (h8 : I 28 8 = 0) (u : Nck b n lim p I' J') (r : CRl (c + 1) I I') (e31 : I' 43 31 = nI c) (e13 : I' 43 13 = I0 43 13) (fc : ccF B I) (fr : crF I0 J0 I' J') (ev : ∀ Q, Q 1 I' J' → K Q) (k : ∀ v I1, ccF B I1 → RefC K S' d' x' b n lim p0 c I0 J0 v I1 → Q v I1 J) : wcI S (d + 1) 78 [.ref 28, .int (59 : Int32)] x (mSet I 15 4 (nI c + (1 : Int32))) J (fun r5 I5 J5 => (r5 = 0 ∨ r5 = 1) ∧ Q r5 I5 J5) := by
  have t' : Tck b n lim p (mSet I 15 4 (nI c + (1 : Int32))) := ⟨t.1, ⟨t.2.1.1, t.2.1.2.1, by rw [mSet_ne (by decide)]; exact t.2.1.2.2.1, by rw [mSet_ne (by decide)]; exact t.2.1.2.2.2⟩, by rw [mSet_ne (by decide)]; exact t.2.2⟩
  have fc' : ccF B (mSet I 15 4 (nI c + (1 : Int32))) := fc.tr (ccF.s (by omega))
  refine passS t' (by rw [mSet_ne (by decide)]; exact h8) (fun z => ⟨Or.inl rfl, k 0 _ (fc'.tr (ccF.s (by omega))) ?_⟩) (fun z I5 o5 _ e85 t5 => ⟨Or.inr rfl, k 1 I5 (fc'.tr (ccF.o o5)) ?_⟩)
  · refine ⟨bdI I' 1, J', fr.tr crF.bd, Or.inl ⟨rfl, 1, by decide, rfl, rfl, ?_⟩, fun Q' q => ev _ ⟨fun z => absurd z (by decide), fun _ => semiR (by decide) u (fun _ => ⟨fun _ => q, fun z => absurd rfl z⟩) (fun y => absurd y z)⟩⟩
    show I 28 4 = I' 43 10
    rw [t.2.2.2.1, u.2.2.2.1]
  · have sm : wcI S' (d' + 5) 165 [.ref 43, .int (59 : Int32)] x' I' J' (fun r I3 J3 => r = 1 ∧ Nf5 I' J' I3 J3 ∧ Nck b n lim (uE b n lim p) I3 J3) := semiR (by decide) u (fun y => absurd z y) (fun _ I3 J3 f3 t3 => ⟨rfl, f3, t3⟩)
    obtain ⟨r', I3, J3, ⟨rfl, f3, t3⟩, ev3⟩ := ev_of sm
    have g := uE_le (b := b) (lim := lim) t.1
    have e3 : I3 43 31 = nI c := (f3.2.1 31 (by omega)).trans e31
    refine ⟨mSet I3 43 31 (nI (c + 1)), J3, (fr.tr (crF.nx f3)).tr (crF.s (by omega)), Or.inr ⟨rfl, ?_, hc, ?_, ?_, fun i hi => ?_, uE b n lim p, by omega, g.2, t5, e85, t3.cg (mSet_ne (by decide)) (fun k hk => mSet_x (by omega))⟩, fun Q' q => ev _ ⟨fun z => absurd z (by decide), fun _ => ev3 _ ⟨fun z => absurd z (by decide), fun _ => ?_⟩⟩⟩
    · rw [mSet_x (by omega), f3.2.1 13 (by omega)]
      exact e13
    · rw [o5 15 (by decide)]
      exact (nI_succ c).symm
    · rfl
    · rw [o5 24 (by decide), o5 25 (by decide), o5 26 (by decide), mSet_ne (show 24 ≠ 15 by decide), mSet_ne (show 25 ≠ 15 by decide), mSet_ne (show 26 ≠ 15 by decide), mSet_ne (show 47 ≠ 43 by decide), f3.1 47 (by decide)]
      exact r i hi
    · rw [e3, ← nI_succ]
      exact q
/-- one more row is written on both sides, the rows before stay -/
theorem CRl.up {I1 I2 : rI0} (r : CRl c I I') (c1 : ∀ a, 24 ≤ a → a ≤ 26 → ∀ i, i ≠ c → I1 a i = I a i) (c2 : ∀ j, j < 3 * c → I2 47 j = I' 47 j) (w : RB (I1 24 c) 600 ∧ I1 24 c = I2 47 (3 * c) ∧ I1 25 c = I2 47 (3 * c + 1) ∧ I1 26 c = I2 47 (3 * c + 2)) : CRl (c + 1) I1 I2 := by
  intro i hi
  rcases (show i < c ∨ i = c by omega) with z | z
  · rw [c1 24 (by omega) (by omega) i (by omega), c1 25 (by omega) (by omega) i (by omega), c1 26 (by omega) (by omega) i (by omega), c2 (3 * i) (by omega), c2 (3 * i + 1) (by omega), c2 (3 * i + 2) (by omega)]
    exact r i z
  · subst z
    exact w
end CU0
