/-! ONES and COND: both readers alike -/
section PA0
variable {S : Nat × (Nat → Int32)} {d : Nat} {x : mX} {I : rI0} {J : rJ0} {b : Nat → Int32} {n lim p : Nat}
theorem tw2z : ∀ w, w < 9 → ¬ (0 : Int64) = TW2.getD w 0 := by decide
theorem tw2_i : ∀ w, w < 9 → ∀ v, v < 9 → TW2.getD w 0 = TW2.getD v 0 → w = v := by decide
theorem amS_2 {Q : Int32 → rI0 → rJ0 → Prop} (h : Tck b n lim p I) (k1 : ∀ w, w < 9 → uW b n lim p = TW2.getD w 0 → Q (nI w) I J) (k0 : (∀ w, w < 9 → ¬ uW b n lim p = TW2.getD w 0) → Q (-1) I J) : wcI S (d + 8) 73 [.ref 28, .ref 1000002] x I J Q := by
  refine c73_28_1000002 ⟨fun z => amgS_2 h (h.2.2.1.symm.trans z) k1 9 0 rfl (fun g => k0 (fun w hw => g w (by omega) hw)), fun z => k0 (fun w hw => ?_)⟩
  rw [uW_n (fun q => z (h.2.2.1.trans q))]
  exact tw2z w hw
theorem atomR {Q : Int32 → rI0 → rJ0 → Prop} (h : Nck b n lim p I J) (k1 : ∀ w, w < 8 → uW b n lim p = TW2.getD w 0 → Q (nI w) I J) (k0 : (∀ w, w < 8 → ¬ uW b n lim p = TW2.getD w 0) → Q (-1) I J) : wcI S (d + 1) 178 [.ref 43] x I J Q := by
  refine c178_43 (wordR (by decide) h (fun z => ⟨fun q => absurd q (by decide), fun _ => k1 0 (by omega) z⟩) (fun z0 => ⟨fun _ => ?_, fun q => absurd rfl q⟩))
  refine wordR (by decide) h (fun z => ⟨fun q => absurd q (by decide), fun _ => k1 1 (by omega) z⟩) (fun z1 => ⟨fun _ => ?_, fun q => absurd rfl q⟩)
  refine wordR (by decide) h (fun z => ⟨fun q => absurd q (by decide), fun _ => k1 2 (by omega) z⟩) (fun z2 => ⟨fun _ => ?_, fun q => absurd rfl q⟩)
  refine wordR (by decide) h (fun z => ⟨fun q => absurd q (by decide), fun _ => k1 3 (by omega) z⟩) (fun z3 => ⟨fun _ => ?_, fun q => absurd rfl q⟩)
  refine wordR (by decide) h (fun z => ⟨fun q => absurd q (by decide), fun _ => k1 4 (by omega) z⟩) (fun z4 => ⟨fun _ => ?_, fun q => absurd rfl q⟩)
  refine wordR (by decide) h (fun z => ⟨fun q => absurd q (by decide), fun _ => k1 5 (by omega) z⟩) (fun z5 => ⟨fun _ => ?_, fun q => absurd rfl q⟩)
  refine wordR (by decide) h (fun z => ⟨fun q => absurd q (by decide), fun _ => k1 6 (by omega) z⟩) (fun z6 => ⟨fun _ => ?_, fun q => absurd rfl q⟩)
  refine wordR (by decide) h (fun z => ⟨fun q => absurd q (by decide), fun _ => k1 7 (by omega) z⟩) (fun z7 => ⟨fun _ => k0 (fun w hw => ?_), fun q => absurd rfl q⟩)
  match w, hw with
  | 0, _ => exact z0
  | 1, _ => exact z1
  | 2, _ => exact z2
  | 3, _ => exact z3
  | 4, _ => exact z4
  | 5, _ => exact z5
  | 6, _ => exact z6
  | 7, _ => exact z7
  | w + 8, hw => exact absurd hw (by omega)
def cFr (first o : Nat) (I I' : rI0) : Prop := (∀ a, a ≠ 22 → a ≠ 28 → a ≠ 29 → I' a = I a) ∧ (∀ k, k ≠ 2 → k ≠ 6 → I' 29 k = I 29 k) ∧ ∀ i, ¬ (first + o ≤ i ∧ i < first + 20) → I' 22 i = I 22 i
theorem cFr.tr {first o o1 : Nat} {I1 I2 : rI0} (h : cFr first o I I1) (ho : o ≤ o1) (h2 : cFr first o1 I1 I2) : cFr first o I I2 := ⟨fun a h3 h4 h5 => (h2.1 a h3 h4 h5).trans (h.1 a h3 h4 h5), fun k h3 h4 => (h2.2.1 k h3 h4).trans (h.2.1 k h3 h4), fun i hi => (h2.2.2 i (by omega)).trans (h.2.2 i hi)⟩
theorem cFr.rf {first o : Nat} : cFr first o I I := ⟨fun _ _ _ _ => rfl, fun _ _ _ => rfl, fun _ _ => rfl⟩
theorem cFr.o {first o : Nat} {I' : rI0} (h : ∀ a, a ≠ 28 → I' a = I a) : cFr first o I I' := ⟨fun a _ h4 _ => h a h4, fun k _ _ => by rw [h 29 (by decide)], fun i _ => by rw [h 22 (by decide)]⟩
theorem cFr.s {first o : Nat} {v : Int32} : cFr first o I (mSet I 29 2 v) := ⟨fun a _ _ h5 => mSet_ne h5, fun k h3 _ => mSet_x (by omega), fun i _ => by rw [mSet_ne (by decide)]⟩
theorem cFr.c {first o : Nat} {I' : rI0} (h : cF1 I I') : cFr first o I I' := ⟨fun a _ h4 h5 => h.1 a h4 h5, fun k _ h6 => h.2 k h6, fun i _ => by rw [h.1 22 (by decide) (by decide)]⟩
theorem cFr.w {first o : Nat} {v : Int32} (ho : o < 20) : cFr first o I (mSet I 22 (first + o) v) := ⟨fun a h3 _ _ => mSet_ne h3, fun k _ _ => by rw [mSet_ne (by decide)], fun i hi => mSet_x (by omega)⟩
def C1 (b : Nat → Int32) (n lim : Nat) (m p o : Nat) (f : Int32) (p' o' : Nat) (V : lV) : Prop := ∀ (S : Nat × (Nat → Int32)) (d : Nat) (x : mX) (I : rI0) (J : rJ0) (first j : Nat) (Q : Int32 → rI0 → rJ0 → Prop), first ≤ 220 → j ≤ 1 → Tck b n lim p I → I 28 8 = 0 → I 29 2 = nI o → (¬ f = 0 → ∀ I', cFr first o I I' → I' 28 8 = f → I' 28 4 = nI (uA b n lim p') → Q 0 I' J) → (f = 0 → ∀ I', cFr first o I I' → Tck b n lim p' I' → I' 28 8 = 0 → I' 29 2 = nI o' → lO (I' 22) m (first + o) (o' - o) j V → Q 1 I' J) → wcI S (d + 2 * m + 10) 42 [.ref 29, .int (nI first), .int (nI j), .int (nI (9 - m))] x I J Q
def R1 (b : Nat → Int32) (n lim : Nat) (m p o : Nat) (f : Int32) (p' o' : Nat) (R : List Int32) : Prop := ∀ (S : Nat × (Nat → Int32)) (d : Nat) (x : mX) (I : rI0) (J : rJ0) (C P : List Int32) (Q : Int32 → rI0 → rJ0 → Prop), RS b n lim p o C P I J → opn P + m = 8 → P.length ≤ 3 * opn P + 2 → C.length + P.length ≤ 2 * o + 1 → (¬ f = 0 → ∀ I' J', pFr I J I' J' → I' 43 10 = nI (uA b n lim p') → Q 0 (bdI I' f) J') → (f = 0 → ∀ I' J', pFr I J I' J' → RS b n lim p' o' (wdC 3 P ++ (R ++ C)) (wdP 3 P) I' J' → wp S (d + 6) 177 9 [some (.ref 43), none] [] (wv x I' J') (rI x Q)) → wp S (d + 5) 179 0 [some (.ref 43), none, none] [] (wv x I J) (rI x (fun r I1 J1 => (r = 0 → Q 0 I1 J1) ∧ (¬ r = 0 → wp S (d + 6) 177 9 [some (.ref 43), none] [] (wv x I1 J1) (rI x Q))))
def PO1 (b : Nat → Int32) (n lim : Nat) (m p o : Nat) : Prop := ∃ f p' o' R V, (f = 0 → o < o' ∧ o' ≤ 20 ∧ p < p' ∧ p' ≤ n ∧ rOk R V ∧ R.length + 1 ≤ 2 * (o' - o)) ∧ C1 b n lim m p o f p' o' V ∧ R1 b n lim m p o f p' o' R
def CLp (b : Nat → Int32) (n lim : Nat) (m c p o : Nat) (f : Int32) (p' o' : Nat) (l : lS) : Prop := ∀ (S : Nat × (Nat → Int32)) (d : Nat) (x : mX) (I : rI0) (J : rJ0) (first : Nat) (Q : Int32 → rI0 → rJ0 → Prop), first ≤ 220 → Tck b n lim p I → I 28 8 = 0 → I 29 2 = nI o → (¬ f = 0 → ∀ I', cFr first o I I' → I' 28 8 = f → I' 28 4 = nI (uA b n lim p') → Q 0 I' J) → (f = 0 → ∀ I', cFr first o I I' → Tck b n lim p' I' → I' 28 8 = 0 → I' 29 2 = nI o' → (∀ any all, lL (lO (I' 22) m) (c + 1) (first + o) (first + o') any all (vF l any all)) → Q 1 I' J) → wp S (d + 2 * m + 11) 41 14 [some (.ref 29), some (.int (nI first)), some (.int (nI (9 - m))), some (.int (nI (20 - c))), none] [] (wv x I J) (rI x Q)
def RLp (b : Nat → Int32) (n lim : Nat) (m p o : Nat) (f : Int32) (p' o' : Nat) (l : lS) : Prop := ∀ (S : Nat × (Nat → Int32)) (d : Nat) (x : mX) (I : rI0) (J : rJ0) (C B : List Int32) (s : Bool × Bool × List Int32) (Q : Int32 → rI0 → rJ0 → Prop), RS b n lim p o (s.2.2 ++ C) (aF s.2.1 ++ (oF s.1 ++ B)) I J → opn B + m = 8 → B.length ≤ 3 * opn B → (eF s).length + C.length + B.length ≤ 2 * o → (B = [] ∨ ∃ P, B = 6 :: P) → (¬ f = 0 → ∀ I' J', pFr I J I' J' → I' 43 10 = nI (uA b n lim p') → Q 0 (bdI I' f) J') → (f = 0 → ∀ I' J', pFr I J I' J' → RS b n lim p' o' ((sF l s).2.2 ++ C) (aF (sF l s).2.1 ++ (oF (sF l s).1 ++ B)) I' J' → wp S (d + 6) 177 9 [some (.ref 43), none] [] (wv x I' J') (rI x Q)) → wp S (d + 6) 177 9 [some (.ref 43), none] [] (wv x I J) (rI x Q)
/-! the pile's ends -/
theorem wd2 {a o : Bool} {B : List Int32} (hB : B = [] ∨ ∃ P, B = 6 :: P) : wdC 2 (aF a ++ (oF o ++ B)) = aF a ∧ wdP 2 (aF a ++ (oF o ++ B)) = oF o ++ B := by
  rcases hB with h | ⟨P, h⟩ <;> subst h <;> cases a <;> cases o <;> exact ⟨rfl, rfl⟩
theorem wd1 {a o : Bool} {B : List Int32} (hB : B = [] ∨ ∃ P, B = 6 :: P) : wdC 1 (aF a ++ (oF o ++ B)) = oF o ++ aF a ∧ wdP 1 (aF a ++ (oF o ++ B)) = B := by
  rcases hB with h | ⟨P, h⟩ <;> subst h <;> cases a <;> cases o <;> exact ⟨rfl, rfl⟩
theorem opn_s {a o : Bool} {B : List Int32} : opn (aF a ++ (oF o ++ B)) = opn B := by
  cases a <;> cases o <;> rfl
theorem eF_len {s : Bool × Bool × List Int32} {C B : List Int32} : (s.2.2 ++ C).length + (aF s.2.1 ++ (oF s.1 ++ B)).length = (eF s).length + C.length + B.length := by
  unfold eF
  simp only [List.length_append]
  omega
theorem af_len {a : Bool} : (aF a).length ≤ 1 := by cases a <;> decide
theorem of_len {o : Bool} : (oF o).length ≤ 1 := by cases o <;> decide
theorem mem6 {a o : Bool} {B : List Int32} : (6 : Int32) ∈ (aF a ++ (oF o ++ B)) ↔ (6 : Int32) ∈ B := by
  cases a <;> cases o <;> simp [aF, oF]
end PA0
