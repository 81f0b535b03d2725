/-! pure tokens: positions over bytes b (0..255) of a text of n bytes; Bool predicates -/
def tBlk (c : Int32) : Bool := decide (c = 32) || decide (c = 10)
def tAlp (c : Int32) : Bool := decide (¬ c < 97) && decide (¬ 122 < c)
def tDgt (c : Int32) : Bool := decide (¬ c < 48) && decide (¬ 57 < c)
def tAln (c : Int32) : Bool := tAlp c || tDgt c
def tGo (P : Int32 → Bool) (b : Nat → Int32) : Nat → Nat → Nat
  | 0, p => p
  | f + 1, p => if P (b p) = true then tGo P b f (p + 1) else p
/-- behind the blanks; behind the letters and digits -/
def tSk (b : Nat → Int32) (n p : Nat) : Nat := tGo tBlk b (n - p) p
def tRn (b : Nat → Int32) (n p : Nat) : Nat := tGo tAln b (n - p) p
section TK0
variable {P : Int32 → Bool} {b : Nat → Int32} {n p : Nat}
theorem tGo_s (h : p < n) (hp : P (b p) = true) : tGo P b (n - p) p = tGo P b (n - (p + 1)) (p + 1) := by
  rw [show n - p = (n - (p + 1)) + 1 by omega]
  show (if P (b p) = true then _ else _) = _
  rw [if_pos hp]
theorem tGo_e (h : ¬ (p < n ∧ P (b p) = true)) : tGo P b (n - p) p = p := by
  by_cases z : p < n
  · rw [show n - p = (n - (p + 1)) + 1 by omega]
    show (if P (b p) = true then _ else _) = _
    rw [if_neg (fun y => h ⟨z, y⟩)]
  · rw [show n - p = 0 by omega]
    rfl
theorem tGo_le : ∀ f p, p ≤ tGo P b f p ∧ tGo P b f p ≤ p + f := by
  intro f
  induction f with
  | zero => intro p; exact ⟨Nat.le_refl _, Nat.le_refl _⟩
  | succ f ih =>
    intro p
    show p ≤ (if P (b p) = true then tGo P b f (p + 1) else p) ∧ (if P (b p) = true then tGo P b f (p + 1) else p) ≤ _
    split
    · have := ih (p + 1)
      omega
    · omega
theorem tGo_in : ∀ f p i, p ≤ i → i < tGo P b f p → P (b i) = true := by
  intro f
  induction f with
  | zero =>
    intro p i h1 h2
    have : i < p := h2
    omega
  | succ f ih =>
    intro p i h1 h2
    have h2 : i < (if P (b p) = true then tGo P b f (p + 1) else p) := h2
    split at h2
    · rcases (show i = p ∨ p + 1 ≤ i by omega) with z | z
      · subst z; assumption
      · exact ih (p + 1) i z h2
    · omega
/-- how many of the bytes p .. e - 1 are such; the number that digits spell -/
def tCn (P : Int32 → Bool) (b : Nat → Int32) (p : Nat) : Nat → Nat
  | 0 => 0
  | k + 1 => tCn P b p k + (if P (b (p + k)) = true then 1 else 0)
def tVl (b : Nat → Int32) (p : Nat) : Nat → Int32
  | 0 => 0
  | k + 1 => tVl b p k * 10 + b (p + k) - 48
/-- the kind of the token at p (blanks behind us), as the program names it: 0 none, 1 end, 2 word, 3 number, else the sign -/
def tkK (b : Nat → Int32) (n lim p : Nat) : Int32 :=
  if min n lim ≤ p then (if lim < n then 0 else 1)
  else if tRn b n p = p then (if b p = 59 ∨ b p = 40 ∨ b p = 41 ∨ (¬ b p < 60 ∧ ¬ 62 < b p) then b p else 0)
  else if tCn tDgt b p (tRn b n p - p) = 0 then (if tRn b n p - p ≤ 8 then 2 else 0)
  else if tCn tAlp b p (tRn b n p - p) = 0 ∧ tRn b n p - p ≤ 3 then 3 else 0
/-- where it stands, and where the next is looked for -/
def tkA (n lim p : Nat) : Nat := if min n lim ≤ p then min n lim else p
def tkE (b : Nat → Int32) (n lim p : Nat) : Nat := if min n lim ≤ p then p else if tRn b n p = p then p + 1 else tRn b n p
end TK0
section TK1
variable {P : Int32 → Bool} {b : Nat → Int32} {n p : Nat}
theorem tCn_0 : ∀ k, tCn P b p k = 0 ↔ ∀ i, i < k → P (b (p + i)) = false := by
  intro k
  induction k with
  | zero => exact ⟨fun _ i hi => absurd hi (by omega), fun _ => rfl⟩
  | succ k ih =>
    show tCn P b p k + _ = 0 ↔ _
    constructor
    · intro h i hi
      by_cases z : P (b (p + k)) = true
      · rw [if_pos z] at h
        omega
      · rw [if_neg z] at h
        rcases (show i = k ∨ i < k by omega) with y | y
        · subst y
          cases hh : P (b (p + i))
          · rfl
          · exact absurd hh z
        · exact ih.mp (by omega) i y
    · intro h
      rw [ih.mpr (fun i hi => h i (by omega)), h k (by omega)]
      rfl
theorem tAlp_t {c : Int32} : tAlp c = true ↔ 97 ≤ c.toInt ∧ c.toInt ≤ 122 := by
  have a : (97 : Int32).toInt = 97 := by decide
  have z : (122 : Int32).toInt = 122 := by decide
  unfold tAlp
  rw [Bool.and_eq_true, decide_eq_true_iff, decide_eq_true_iff, Int32.lt_iff_toInt_lt, Int32.lt_iff_toInt_lt, a, z]
  omega
theorem tDgt_t {c : Int32} : tDgt c = true ↔ 48 ≤ c.toInt ∧ c.toInt ≤ 57 := by
  have a : (48 : Int32).toInt = 48 := by decide
  have z : (57 : Int32).toInt = 57 := by decide
  unfold tDgt
  rw [Bool.and_eq_true, decide_eq_true_iff, decide_eq_true_iff, Int32.lt_iff_toInt_lt, Int32.lt_iff_toInt_lt, a, z]
  omega
theorem tAln_x {c : Int32} (h : tAln c = true) : tDgt c = !tAlp c := by
  unfold tAln at h
  cases h1 : tAlp c
  · rw [h1, Bool.false_or] at h
    exact h
  · cases h2 : tDgt c
    · rfl
    · have := tAlp_t.mp h1
      have := tDgt_t.mp h2
      omega
theorem tRn_in {i : Nat} (h1 : p ≤ i) (h2 : i < tRn b n p) : tAln (b i) = true := tGo_in _ _ i h1 h2
theorem tRn_le : p ≤ tRn b n p ∧ (p ≤ n → tRn b n p ≤ n) := by
  have := tGo_le (P := tAln) (b := b) (n - p) p
  exact ⟨this.1, fun h => by have := this.2; show tGo tAln b (n - p) p ≤ n; omega⟩
/-- all signs of the run are letters as the first is, or none is: the reference's 'all' -/
def tSame (b : Nat → Int32) (p : Nat) (k : Nat) : Prop := ∀ i, i < k → tAlp (b (p + i)) = tAlp (b p)
theorem tSame_w {k : Nat} (h : ∀ i, i < k → tAln (b (p + i)) = true) (hk : 0 < k) (ha : tAlp (b p) = true) : tSame b p k ↔ tCn tDgt b p k = 0 := by
  rw [tCn_0]
  constructor
  · intro s i hi
    rw [tAln_x (h i hi), s i hi, ha]
    rfl
  · intro s i hi
    have e := s i hi
    rw [tAln_x (h i hi)] at e
    rw [ha]
    cases z : tAlp (b (p + i))
    · rw [z] at e
      cases e
    · rfl
theorem tSame_n {k : Nat} (h : ∀ i, i < k → tAln (b (p + i)) = true) (hk : 0 < k) (ha : tAlp (b p) = false) : tSame b p k ↔ tCn tAlp b p k = 0 := by
  rw [tCn_0]
  constructor
  · intro s i hi
    rw [s i hi, ha]
  · intro s i hi
    rw [s i hi, ha]
end TK1
/-! words: eight letters packed into a long against the letters themselves -/
section WD0
variable {b c : Nat → Int32} {p : Nat}
def tPk (b : Nat → Int32) (p : Nat) : Nat → Int64
  | 0 => 0
  | k + 1 => (tPk b p k <<< ((8 : Int32).toInt64 &&& 63)) ||| (b (p + k)).toInt64
def tPkN (b : Nat → Int32) (p : Nat) : Nat → Nat
  | 0 => 0
  | k + 1 => tPkN b p k * 256 + (b (p + k)).toInt.toNat
theorem tPkN_lt : ∀ k, (∀ i, i < k → (b (p + i)).toInt ≤ 255) → tPkN b p k < 256 ^ k := by
  intro k
  induction k with
  | zero => intro _; exact Nat.one_pos
  | succ k ih =>
    intro h
    have h1 := ih (fun i hi => h i (by omega))
    have h2 := h k (by omega)
    show tPkN b p k * 256 + _ < 256 ^ k * 256
    omega
theorem tPkN_inj : ∀ k m q, (∀ i, i < k → 1 ≤ (b (p + i)).toInt ∧ (b (p + i)).toInt ≤ 255) → (∀ i, i < m → 1 ≤ (c (q + i)).toInt ∧ (c (q + i)).toInt ≤ 255) → tPkN b p k = tPkN c q m → k = m ∧ ∀ i, i < m → b (p + i) = c (q + i) := by
  intro k
  induction k with
  | zero =>
    intro m q _ hc e
    cases m with
    | zero => exact ⟨rfl, fun i hi => absurd hi (by omega)⟩
    | succ m =>
      have := hc m (by omega)
      have e : 0 = tPkN c q m * 256 + (c (q + m)).toInt.toNat := e
      omega
  | succ k ih =>
    intro m q hb hc e
    have h1 := hb k (by omega)
    cases m with
    | zero =>
      have e : tPkN b p k * 256 + (b (p + k)).toInt.toNat = 0 := e
      omega
    | succ m =>
      have h2 := hc m (by omega)
      have e : tPkN b p k * 256 + (b (p + k)).toInt.toNat = tPkN c q m * 256 + (c (q + m)).toInt.toNat := e
      have e1 : (b (p + k)).toInt = (c (q + m)).toInt := by omega
      obtain ⟨e2, e3⟩ := ih m q (fun i hi => hb i (by omega)) (fun i hi => hc i (by omega)) (by omega)
      subst e2
      refine ⟨rfl, fun i hi => ?_⟩
      rcases (show i = k ∨ i < k by omega) with z | z
      · subst z; exact Int32.toInt_inj.mp e1
      · exact e3 i z
theorem tBvn {v : Int32} (h : 0 ≤ v.toInt) : v.toInt64.toBitVec.toNat = v.toInt.toNat := by
  have e : v.toInt64.toInt = v.toInt := Int32.toInt_toInt64 v
  have e2 : v.toInt64.toBitVec.toInt = v.toInt := e
  rw [BitVec.toInt_eq_toNat_cond] at e2
  have := v.toInt64.toBitVec.isLt
  split at e2 <;> omega
theorem tPk_n : ∀ k, k ≤ 8 → (∀ i, i < k → 0 ≤ (b (p + i)).toInt ∧ (b (p + i)).toInt ≤ 255) → (tPk b p k).toBitVec.toNat = tPkN b p k := by
  intro k
  induction k with
  | zero => intro _ _; rfl
  | succ k ih =>
    intro hk h
    have e := ih (by omega) (fun i hi => h i (by omega))
    have l := tPkN_lt (b := b) (p := p) k (fun i hi => (h i (by omega)).2)
    have hb := h k (by omega)
    show ((tPk b p k <<< ((8 : Int32).toInt64 &&& 63)) ||| (b (p + k)).toInt64).toBitVec.toNat = tPkN b p k * 256 + (b (p + k)).toInt.toNat
    have l2 : tPkN b p k < 256 ^ 7 := Nat.lt_of_lt_of_le l (Nat.pow_le_pow_right (by decide) (by omega))
    have sh : (((8 : Int32).toInt64 &&& 63).toBitVec.smod 64) = 8#64 := by decide
    rw [Int64.toBitVec_or, Int64.toBitVec_shiftLeft, sh, BitVec.toNat_or, BitVec.shiftLeft_eq', BitVec.toNat_shiftLeft, e, tBvn hb.1]
    have s8 : (8#64).toNat = 8 := rfl
    rw [s8, Nat.mod_eq_of_lt (by rw [Nat.shiftLeft_eq]; omega), ← Nat.shiftLeft_add_eq_or_of_lt (by omega), Nat.shiftLeft_eq]
/-- the word is that one: as long, and letter by letter -/
theorem tPk_is {k m : Nat} (hk : k ≤ 8) (hm : m ≤ 8) (hb : ∀ i, i < k → 1 ≤ (b (p + i)).toInt ∧ (b (p + i)).toInt ≤ 255) (hc : ∀ i, i < m → 1 ≤ (c (0 + i)).toInt ∧ (c (0 + i)).toInt ≤ 255) : tPk b p k = tPk c 0 m ↔ k = m ∧ ∀ i, i < m → b (p + i) = c i := by
  have e1 := tPk_n (b := b) (p := p) k hk (fun i hi => by have := hb i hi; omega)
  have e2 := tPk_n (b := c) (p := 0) m hm (fun i hi => by have := hc i hi; omega)
  constructor
  · intro h
    have h3 : tPkN b p k = tPkN c 0 m := by rw [← e1, ← e2, h]
    obtain ⟨a1, a2⟩ := tPkN_inj k m 0 hb hc h3
    exact ⟨a1, fun i hi => by rw [a2 i hi, Nat.zero_add]⟩
  · rintro ⟨rfl, h⟩
    have : ∀ j, j ≤ k → tPk b p j = tPk c 0 j := by
      intro j
      induction j with
      | zero => intro _; rfl
      | succ j ih =>
        intro hj
        show (tPk b p j <<< _) ||| _ = (tPk c 0 j <<< _) ||| _
        rw [ih (by omega), h j (by omega), Nat.zero_add]
    exact this k (Nat.le_refl _)
end WD0
section WD1
variable {b c : Nat → Int32} {p : Nat}
/-- the same of a table's word, blanks behind it, against the token's letters, blanks behind them -/
theorem tPad_is {k m : Nat} (hk : k ≤ 8) (hm : m ≤ 8) (hb : ∀ i, i < k → ¬ b (p + i) = 32) (hc : ∀ i, i < m → ¬ c i = 32) : (∀ i, i < 8 → (if i < m then c i else 32) = (if i < k then b (p + i) else 32)) ↔ k = m ∧ ∀ i, i < m → b (p + i) = c i := by
  constructor
  · intro h
    have e : k = m := by
      rcases (show k = m ∨ k < m ∨ m < k by omega) with z | z | z
      · exact z
      · have := h k (by omega)
        rw [if_pos z, if_neg (by omega)] at this
        exact absurd this (hc k z)
      · have := h m (by omega)
        rw [if_neg (by omega), if_pos z] at this
        exact absurd this.symm (hb m z)
    subst e
    refine ⟨rfl, fun i hi => ?_⟩
    have := h i (by omega)
    rw [if_pos hi, if_pos hi] at this
    exact this.symm
  · rintro ⟨rfl, h⟩ i _
    by_cases z : i < k
    · rw [if_pos z, if_pos z, h i z]
    · rw [if_neg z, if_neg z]
end WD1
section TK2
variable {P : Int32 → Bool} {b : Nat → Int32} {n lim p : Nat}
/-- the token that is found from p on: its kind, place, end, length, packed word (0: no word), number -/
def uK (b : Nat → Int32) (n lim p : Nat) : Int32 := tkK b n lim (tSk b n p)
def uA (b : Nat → Int32) (n lim p : Nat) : Nat := tkA n lim (tSk b n p)
def uE (b : Nat → Int32) (n lim p : Nat) : Nat := tkE b n lim (tSk b n p)
def uL (b : Nat → Int32) (n p : Nat) : Nat := tRn b n (tSk b n p) - tSk b n p
def uW (b : Nat → Int32) (n lim p : Nat) : Int64 := if uK b n lim p = 2 then tPk b (tSk b n p) (uL b n p) else 0
def uV (b : Nat → Int32) (n p : Nat) : Int32 := tVl b (tSk b n p) (uL b n p)
theorem tSk_le : p ≤ tSk b n p ∧ (p ≤ n → tSk b n p ≤ n) := by
  have := tGo_le (P := tBlk) (b := b) (n - p) p
  exact ⟨this.1, fun h => by have := this.2; show tGo tBlk b (n - p) p ≤ n; omega⟩
theorem tGo_end : ∀ f p, ¬ (tGo P b f p < p + f ∧ P (b (tGo P b f p)) = true) := by
  intro f
  induction f with
  | zero =>
    intro p h
    exact absurd h.1 (Nat.lt_irrefl _)
  | succ f ih =>
    intro p
    show ¬ ((if P (b p) = true then tGo P b f (p + 1) else p) < p + (f + 1) ∧ P (b (if P (b p) = true then tGo P b f (p + 1) else p)) = true)
    by_cases z : P (b p) = true
    · rw [if_pos z]
      have := ih (p + 1)
      rw [show p + 1 + f = p + (f + 1) by omega] at this
      exact this
    · rw [if_neg z]
      exact fun h => z h.2
theorem tkE_le (h : p ≤ n) : p ≤ tkE b n lim p ∧ tkE b n lim p ≤ n := by
  have r := tRn_le (b := b) (n := n) (p := p)
  have r2 := r.2 h
  unfold tkE
  split
  · omega
  · split <;> omega
theorem uE_le (h : p ≤ n) : p ≤ uE b n lim p ∧ uE b n lim p ≤ n := by
  have s := tSk_le (b := b) (n := n) (p := p)
  have e := tkE_le (b := b) (lim := lim) (s.2 h)
  unfold uE
  omega
theorem uE_gt (h0 : ¬ uK b n lim p = 0) (h1 : ¬ uK b n lim p = 1) : p < uE b n lim p ∧ uA b n lim p = tSk b n p ∧ tSk b n p < min n lim := by
  have s := tSk_le (b := b) (n := n) (p := p)
  have r := tRn_le (b := b) (n := n) (p := tSk b n p)
  have a : ¬ min n lim ≤ tSk b n p := by
    intro a
    unfold uK tkK at h0 h1
    rw [if_pos a] at h0 h1
    split at h0
    · exact h0 rfl
    · rename_i y
      rw [if_neg y] at h1
      exact h1 rfl
  unfold uE uA tkE tkA
  rw [if_neg a, if_neg a]
  refine ⟨?_, rfl, by omega⟩
  split <;> omega
theorem uK_2 (h : uK b n lim p = 2) : tSk b n p < min n lim ∧ 1 ≤ uL b n p ∧ uL b n p ≤ 8 ∧ uE b n lim p = tSk b n p + uL b n p ∧ uA b n lim p = tSk b n p ∧ ∀ i, i < uL b n p → tAlp (b (tSk b n p + i)) = true := by
  have g := uE_gt (b := b) (n := n) (lim := lim) (p := p) (by rw [h]; decide) (by rw [h]; decide)
  have r := tRn_le (b := b) (n := n) (p := tSk b n p)
  unfold uK tkK at h
  rw [if_neg (by omega)] at h
  by_cases z : tRn b n (tSk b n p) = tSk b n p
  · rw [if_pos z] at h
    split at h
    · rename_i y
      rcases y with y | y | y | y
      · rw [y] at h; exact absurd h (by decide)
      · rw [y] at h; exact absurd h (by decide)
      · rw [y] at h; exact absurd h (by decide)
      · rw [h] at y; exact absurd y (by decide)
    · exact absurd h (by decide)
  · rw [if_neg z] at h
    split at h
    · rename_i y
      split at h
      · rename_i l
        refine ⟨g.2.2, ?_, l, ?_, g.2.1, ?_⟩
        · unfold uL; omega
        · unfold uE tkE uL
          rw [if_neg (by omega), if_neg z]
          omega
        · intro i hi
          have e := tCn_0 (P := tDgt) (b := b) (p := tSk b n p) (tRn b n (tSk b n p) - tSk b n p)
          have e := e.mp y i hi
          unfold uL at hi
          have a := tRn_in (b := b) (n := n) (p := tSk b n p) (i := tSk b n p + i) (by omega) (by omega)
          rw [tAln_x a] at e
          cases q : tAlp (b (tSk b n p + i))
          · rw [q] at e; cases e
          · rfl
      · exact absurd h (by decide)
    · split at h <;> exact absurd h (by decide)
theorem uK_3 (h : uK b n lim p = 3) : tSk b n p < min n lim ∧ 1 ≤ uL b n p ∧ uL b n p ≤ 3 ∧ uE b n lim p = tSk b n p + uL b n p ∧ uA b n lim p = tSk b n p ∧ ∀ i, i < uL b n p → tDgt (b (tSk b n p + i)) = true := by
  have g := uE_gt (b := b) (n := n) (lim := lim) (p := p) (by rw [h]; decide) (by rw [h]; decide)
  have r := tRn_le (b := b) (n := n) (p := tSk b n p)
  unfold uK tkK at h
  rw [if_neg (by omega)] at h
  by_cases z : tRn b n (tSk b n p) = tSk b n p
  · rw [if_pos z] at h
    split at h
    · rename_i y
      rcases y with y | y | y | y
      · rw [y] at h; exact absurd h (by decide)
      · rw [y] at h; exact absurd h (by decide)
      · rw [y] at h; exact absurd h (by decide)
      · rw [h] at y; exact absurd y (by decide)
    · exact absurd h (by decide)
  · rw [if_neg z] at h
    split at h
    · split at h <;> exact absurd h (by decide)
    · split at h
      · rename_i y
        refine ⟨g.2.2, ?_, y.2, ?_, g.2.1, ?_⟩
        · unfold uL; omega
        · unfold uE tkE uL
          rw [if_neg (by omega), if_neg z]
          omega
        · intro i hi
          have e := tCn_0 (P := tAlp) (b := b) (p := tSk b n p) (tRn b n (tSk b n p) - tSk b n p)
          have e := e.mp y.1 i hi
          unfold uL at hi
          have a := tRn_in (b := b) (n := n) (p := tSk b n p) (i := tSk b n p + i) (by omega) (by omega)
          rw [tAln_x a, e]
          rfl
      · exact absurd h (by decide)
/-- a sign's kind is the sign itself -/
theorem uK_s (h0 : ¬ uK b n lim p = 0) (h1 : ¬ uK b n lim p = 1) (h2 : ¬ uK b n lim p = 2) (h3 : ¬ uK b n lim p = 3) : uK b n lim p = b (tSk b n p) ∧ tRn b n (tSk b n p) = tSk b n p ∧ (b (tSk b n p) = 59 ∨ b (tSk b n p) = 40 ∨ b (tSk b n p) = 41 ∨ (¬ b (tSk b n p) < 60 ∧ ¬ 62 < b (tSk b n p))) := by
  have g := uE_gt (b := b) (n := n) (lim := lim) (p := p) h0 h1
  have e : uK b n lim p = (if tRn b n (tSk b n p) = tSk b n p then (if b (tSk b n p) = 59 ∨ b (tSk b n p) = 40 ∨ b (tSk b n p) = 41 ∨ (¬ b (tSk b n p) < 60 ∧ ¬ 62 < b (tSk b n p)) then b (tSk b n p) else 0)
    else if tCn tDgt b (tSk b n p) (tRn b n (tSk b n p) - tSk b n p) = 0 then (if tRn b n (tSk b n p) - tSk b n p ≤ 8 then 2 else 0)
    else if tCn tAlp b (tSk b n p) (tRn b n (tSk b n p) - tSk b n p) = 0 ∧ tRn b n (tSk b n p) - tSk b n p ≤ 3 then 3 else 0) := by
    unfold uK tkK
    rw [if_neg (by omega)]
  by_cases z : tRn b n (tSk b n p) = tSk b n p
  · rw [if_pos z] at e
    split at e
    · rename_i y
      exact ⟨e, z, y⟩
    · exact absurd e h0
  · rw [if_neg z] at e
    split at e
    · split at e
      · exact absurd e h2
      · exact absurd e h0
    · split at e
      · exact absurd e h3
      · exact absurd e h0
/-- which of a table's words stands here -/
theorem uW_2 (h : uK b n lim p = 2) : uW b n lim p = tPk b (tSk b n p) (uL b n p) := if_pos h
theorem uW_n (h : ¬ uK b n lim p = 2) : uW b n lim p = 0 := if_neg h
theorem uW_is {c : Nat → Int32} {m : Nat} (h : uK b n lim p = 2) (hm : m ≤ 8) (hc : ∀ i, i < m → 1 ≤ (c (0 + i)).toInt ∧ (c (0 + i)).toInt ≤ 255) : uW b n lim p = tPk c 0 m ↔ uL b n p = m ∧ ∀ i, i < m → b (tSk b n p + i) = c i := by
  obtain ⟨-, -, l8, -, -, al⟩ := uK_2 h
  rw [uW_2 h]
  exact tPk_is l8 hm (fun i hi => by have := tAlp_t.mp (al i hi); omega) hc
end TK2
