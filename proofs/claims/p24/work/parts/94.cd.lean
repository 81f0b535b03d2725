/-! laws: what a tree of ONES in a row, and words in the other order, are worth -/
section CD0
theorem orN {a c k : Nat} (hc : c < 2 ^ k) (h : a * 2 ^ k + c < 2 ^ 32) : nI (a * 2 ^ k) ||| nI c = nI (a * 2 ^ k + c) := by
  rw [← Int32.toBitVec_inj, Int32.toBitVec_or]
  apply BitVec.eq_of_toNat_eq
  rw [BitVec.toNat_or, pk_tn (by omega), pk_tn (by omega), pk_tn h, ← Nat.shiftLeft_eq, Nat.shiftLeft_add_eq_or_of_lt hc]
theorem orN' {a c k : Nat} (hc : c < 2 ^ k) (h : a * 2 ^ k + c < 2 ^ 32) : nI c ||| nI (a * 2 ^ k) = nI (a * 2 ^ k + c) := by rw [Int32.or_comm, orN hc h]
def pz (z j w lev sg num : Nat) : Nat := z * 524288 + (j * 262144 + w * 16384 + (lev * 4096 + sg * 1024 + num))
theorem cw_n {lev sg num : Nat} (h1 : lev ≤ 3) (h2 : sg ≤ 3) (h3 : num ≤ 1023) : ((nI lev <<< ((12 : Int32) &&& 31)) ||| (nI sg <<< ((10 : Int32) &&& 31))) ||| nI num = nI (lev * 4096 + sg * 1024 + num) := by
  rw [pk_shlN (n := lev) _ 12 (by decide) (by omega), pk_shlN (n := sg) _ 10 (by decide) (by omega), orN (by omega) (by omega), show lev * 2 ^ 12 + sg * 2 ^ 10 = (lev * 4 + sg) * 2 ^ 10 by omega, orN (by omega) (by omega)]
  try exact congrArg nI (by omega)
theorem tw_n {z j w c : Nat} (hz : z ≤ 20) (hj : j ≤ 1) (hw : w ≤ 15) (hc : c < 16384) : ((((nI j <<< ((18 : Int32) &&& 31)) ||| (nI w <<< ((14 : Int32) &&& 31))) ||| nI c) ||| (nI z <<< ((19 : Int32) &&& 31))) = nI (z * 524288 + (j * 262144 + w * 16384 + c)) := by
  rw [pk_shlN (n := j) _ 18 (by decide) (by omega), pk_shlN (n := w) _ 14 (by decide) (by omega), pk_shlN (n := z) _ 19 (by decide) (by omega), orN (by omega) (by omega), show j * 2 ^ 18 + w * 2 ^ 14 = (j * 16 + w) * 2 ^ 14 by omega, orN (by omega) (by omega), orN' (by omega) (by omega)]
  try exact congrArg nI (by omega)
theorem tw_0 {z j w : Nat} (hz : z ≤ 20) (hj : j ≤ 1) (hw : w ≤ 15) : (((nI j <<< ((18 : Int32) &&& 31)) ||| (nI w <<< ((14 : Int32) &&& 31))) ||| (nI z <<< ((19 : Int32) &&& 31))) = nI (pz z j w 0 0 0) := by
  rw [pk_shlN (n := j) _ 18 (by decide) (by omega), pk_shlN (n := w) _ 14 (by decide) (by omega), pk_shlN (n := z) _ 19 (by decide) (by omega), orN (by omega) (by omega), orN' (by omega) (by omega)]
  unfold pz
  try exact congrArg nI (by omega)
/-- a word of the reference's -/
def rWd (a lev sg num : Nat) : Nat := (if a < 6 then a * 8 else a - 5) + lev * 64 + sg * 256 + num * 1024
theorem rWd_n {s1 s2 lev sg num : Nat} (h0 : s1 ≤ 2) (h4 : s2 ≤ 7) (h1 : lev ≤ 3) (h2 : sg ≤ 3) (h3 : num ≤ 1023) : ((((nI s1 ||| (nI s2 <<< ((3 : Int32) &&& 31))) ||| (nI lev <<< ((6 : Int32) &&& 31))) ||| (nI sg <<< ((8 : Int32) &&& 31))) ||| (nI num <<< ((10 : Int32) &&& 31))) = nI (s1 + s2 * 8 + lev * 64 + sg * 256 + num * 1024) := by
  rw [pk_shlN (n := s2) _ 3 (by decide) (by omega), pk_shlN (n := lev) _ 6 (by decide) (by omega), pk_shlN (n := sg) _ 8 (by decide) (by omega), pk_shlN (n := num) _ 10 (by decide) (by omega), orN' (by omega) (by omega), orN' (by omega) (by omega), orN' (by omega) (by omega), orN' (by omega) (by omega)]
  try exact congrArg nI (by omega)
/-- truth, of the atoms': area (or 6: self, 7: held), level, sign, number -/
abbrev lV : Type := (Nat → Nat → Nat → Nat → Bool) → Bool
/-- behind the first: i to e, what was held true ahead of the last 'or', and since -/
def lL (P : Nat → Nat → Nat → lV → Prop) : Nat → Nat → Nat → lV → lV → lV → Prop
  | 0, _, _, _, _, _ => False
  | c + 1, i, e, any, all, V => (i = e ∧ V = fun at_ => any at_ || all at_) ∨ ∃ len j W, 1 ≤ len ∧ P i len j W ∧ ((j = 0 ∧ lL P c (i + len) e any (fun at_ => all at_ && W at_) V) ∨ (j = 1 ∧ lL P c (i + len) e (fun at_ => any at_ || all at_) W V))
def lJ (P : Nat → Nat → Nat → lV → Prop) (i len : Nat) (V : lV) : Prop := ∃ l1 W, 1 ≤ l1 ∧ P i l1 0 W ∧ lL P 21 (i + l1) (i + len) (fun _ => false) W V
/-- a ONE at i, of len places, joined by j, at most m deep -/
def lO (A : Nat → Int32) : Nat → Nat → Nat → Nat → lV → Prop
  | 0, _, _, _, _ => False
  | m + 1, i, len, j, V => (len = 1 ∧ ∃ a lev sg num, a < 8 ∧ lev ≤ 2 ∧ sg ≤ 2 ∧ num ≤ 999 ∧ A i = nI (pz 1 j a lev sg num) ∧ V = fun at_ => at_ a lev sg num)
    ∨ (∃ W, 2 ≤ len ∧ A i = nI (pz len j 8 0 0 0) ∧ lO A m (i + 1) (len - 1) 0 W ∧ V = fun at_ => !(W at_))
    ∨ (2 ≤ len ∧ A i = nI (pz len j 9 0 0 0) ∧ lJ (lO A m) (i + 1) (len - 1) V)
/-- the list of what is joined behind the first: join, truth, words -/
abbrev lS : Type := List (Nat × lV × List Int32)
def vF : lS → lV → lV → lV
  | [], any, all => fun at_ => any at_ || all at_
  | (j, W, _) :: l, any, all => if j = 0 then vF l any (fun at_ => all at_ && W at_) else vF l (fun at_ => any at_ || all at_) W
def oF (o : Bool) : List Int32 := if o = true then [5] else []
def aF (a : Bool) : List Int32 := if a = true then [4] else []
/-- the pile's flags and the words behind these -/
def sF : lS → Bool × Bool × List Int32 → Bool × Bool × List Int32
  | [], s => s
  | (j, _, R) :: l, s => if j = 0 then sF l (s.1, true, R ++ (aF s.2.1 ++ s.2.2)) else sF l (true, false, R ++ (oF s.1 ++ (aF s.2.1 ++ s.2.2)))
def eF (s : Bool × Bool × List Int32) : List Int32 := oF s.1 ++ (aF s.2.1 ++ s.2.2)
/-- what words are worth (the last is the list's head) -/
def rSt (dec : Int32 → Bool) (w : Int32) (st : List Bool) : List Bool := if w &&& 7 = 3 then (match st with | y :: r => (!y) :: r | [] => []) else if w &&& 7 = 4 then (match st with | y :: z :: r => (z && y) :: r | r => r) else if w &&& 7 = 5 then (match st with | y :: z :: r => (z || y) :: r | r => r) else dec w :: st
def rRv (dec : Int32 → Bool) : List Int32 → List Bool → List Bool
  | [], st => st
  | w :: l, st => rSt dec w (rRv dec l st)
theorem rRv_app {dec : Int32 → Bool} {st : List Bool} : ∀ (X Y : List Int32), rRv dec (X ++ Y) st = rRv dec X (rRv dec Y st) := by
  intro X
  induction X with
  | nil => intro Y; rfl
  | cons w l ih =>
    intro Y
    show rSt dec w (rRv dec (l ++ Y) st) = rSt dec w (rRv dec l (rRv dec Y st))
    rw [ih Y]
def rDec (dec : Int32 → Bool) (at_ : Nat → Nat → Nat → Nat → Bool) : Prop := ∀ a lev sg num, a < 8 → lev ≤ 2 → sg ≤ 2 → num ≤ 999 → dec (nI (rWd a lev sg num)) = at_ a lev sg num
def rOk (R : List Int32) (V : lV) : Prop := ∀ at_ dec, rDec dec at_ → ∀ st, rRv dec R st = V at_ :: st
theorem rOk_at {a lev sg num : Nat} (ha : a < 8) (h1 : lev ≤ 2) (h2 : sg ≤ 2) (h3 : num ≤ 999) : rOk [nI (rWd a lev sg num)] (fun at_ => at_ a lev sg num) := by
  intro at_ dec hd st
  have hb : rWd a lev sg num < 2 ^ 32 := by
    unfold rWd
    split <;> omega
  have e : nI (rWd a lev sg num) &&& 7 = nI (rWd a lev sg num % 8) := pk_andN hb 3 (by decide)
  have m : rWd a lev sg num % 8 ≤ 2 := by
    unfold rWd
    split <;> omega
  have n3 : ∀ k, 3 ≤ k → k ≤ 5 → ¬ nI (rWd a lev sg num) &&& 7 = nI k := by
    intro k h3 h5 q
    rw [e] at q
    have := congrArg Int32.toInt q
    rw [nI_toInt (by omega), nI_toInt (by omega)] at this
    omega
  show rSt dec (nI (rWd a lev sg num)) st = _
  unfold rSt
  have a3 : ¬ nI (rWd a lev sg num) &&& 7 = 3 := n3 3 (by omega) (by omega)
  have a4 : ¬ nI (rWd a lev sg num) &&& 7 = 4 := n3 4 (by omega) (by omega)
  have a5 : ¬ nI (rWd a lev sg num) &&& 7 = 5 := n3 5 (by omega) (by omega)
  rw [if_neg a3, if_neg a4, if_neg a5, hd a lev sg num ha h1 h2 h3]
theorem rOk_not {R : List Int32} {V : lV} (h : rOk R V) : rOk (3 :: R) (fun at_ => !(V at_)) := by
  intro at_ dec hd st
  show rSt dec 3 (rRv dec R st) = _
  rw [h at_ dec hd st]
  rfl
theorem r4 {dec : Int32 → Bool} {y z : Bool} {r : List Bool} : rSt dec 4 (y :: z :: r) = (z && y) :: r := rfl
theorem r5 {dec : Int32 → Bool} {y z : Bool} {r : List Bool} : rSt dec 5 (y :: z :: r) = (z || y) :: r := rfl
/-- the flags and words s stand for any and all -/
def sOk (s : Bool × Bool × List Int32) (any all : lV) : Prop := ∀ at_ dec, rDec dec at_ → ∀ st, (s.1 = false → any at_ = false) ∧ rRv dec (aF s.2.1 ++ s.2.2) st = all at_ :: (if s.1 = true then any at_ :: st else st)
theorem sOk_e {s : Bool × Bool × List Int32} {any all : lV} (h : sOk s any all) : rOk (eF s) (fun at_ => any at_ || all at_) := by
  intro at_ dec hd st
  obtain ⟨h1, h2⟩ := h at_ dec hd st
  obtain ⟨o, a, X⟩ := s
  cases o
  · show rRv dec (aF a ++ X) st = (any at_ || all at_) :: st
    rw [h2, h1 rfl]
    rfl
  · show rSt dec 5 (rRv dec (aF a ++ X) st) = _
    rw [h2]
    rfl
theorem sOk_F : ∀ (l : lS) (s : Bool × Bool × List Int32) (any all : lV), (∀ q ∈ l, rOk q.2.2 q.2.1 ∧ q.1 ≤ 1) → sOk s any all → rOk (eF (sF l s)) (vF l any all) := by
  intro l
  induction l with
  | nil => intro s any all _ h; exact sOk_e h
  | cons q l ih =>
    obtain ⟨j, W, R⟩ := q
    intro s any all hl h
    have hR := (hl (j, W, R) List.mem_cons_self).1
    have hl' : ∀ q ∈ l, rOk q.2.2 q.2.1 ∧ q.1 ≤ 1 := fun q hq => hl q (List.mem_cons_of_mem _ hq)
    obtain ⟨o, a, X⟩ := s
    by_cases z : j = 0
    · subst z
      refine ih (o, true, R ++ (aF a ++ X)) any _ hl' (fun at_ dec hd st => ?_)
      obtain ⟨h1, h2⟩ := h at_ dec hd st
      refine ⟨h1, ?_⟩
      show rSt dec 4 (rRv dec (R ++ (aF a ++ X)) st) = _
      rw [rRv_app, h2, hR at_ dec hd]
      rfl
    · have e1 : vF ((j, W, R) :: l) any all = vF l (fun at_ => any at_ || all at_) W := if_neg z
      have e2 : sF ((j, W, R) :: l) (o, a, X) = sF l (true, false, R ++ (oF o ++ (aF a ++ X))) := if_neg z
      rw [e1, e2]
      refine ih _ _ _ hl' (fun at_ dec hd st => ⟨fun q => absurd (show true = false from q) (by decide), ?_⟩)
      have h3 := sOk_e h at_ dec hd st
      show rRv dec (R ++ (oF o ++ (aF a ++ X))) st = _
      rw [rRv_app]
      have h3 : rRv dec (oF o ++ (aF a ++ X)) st = _ := h3
      rw [h3, hR at_ dec hd]
      rfl
/-- only the places of the ONE itself matter -/
theorem lL_cg {P P' : Nat → Nat → Nat → lV → Prop} : ∀ (c i e : Nat) (any all V : lV), (∀ i' len j W, i ≤ i' → i' + len ≤ e → P i' len j W → P' i' len j W) → (∀ i' len j W, P i' len j W → 1 ≤ len) → lL P c i e any all V → lL P' c i e any all V := by
  intro c
  induction c with
  | zero => intro i e any all V _ _ h; exact h
  | succ c ih =>
    intro i e any all V hP h1 h
    rcases h with h | ⟨len, j, W, hl, hp, h⟩
    · exact Or.inl h
    · have key : ∀ (c i e : Nat) (any all V : lV), lL P c i e any all V → i ≤ e := by
        intro c
        induction c with
        | zero => intro i e any all V h; exact absurd h id
        | succ c ih =>
          intro i e any all V h
          rcases h with h | ⟨len, j, W, hl, hp, h⟩
          · omega
          · rcases h with h | h
            · have := ih _ _ _ _ _ h.2; omega
            · have := ih _ _ _ _ _ h.2; omega
      rcases h with ⟨hj, h⟩ | ⟨hj, h⟩
      · exact Or.inr ⟨len, j, W, hl, hP i len j W (Nat.le_refl _) (key _ _ _ _ _ _ h) hp, Or.inl ⟨hj, ih _ _ _ _ _ (fun i' len j W a b c => hP i' len j W (by omega) b c) h1 h⟩⟩
      · exact Or.inr ⟨len, j, W, hl, hP i len j W (Nat.le_refl _) (key _ _ _ _ _ _ h) hp, Or.inr ⟨hj, ih _ _ _ _ _ (fun i' len j W a b c => hP i' len j W (by omega) b c) h1 h⟩⟩
theorem lL_le {P : Nat → Nat → Nat → lV → Prop} : ∀ (c i e : Nat) (any all V : lV), lL P c i e any all V → i ≤ e := by
  intro c
  induction c with
  | zero => intro i e any all V h; exact absurd h id
  | succ c ih =>
    intro i e any all V h
    rcases h with h | ⟨len, j, W, hl, hp, h⟩
    · omega
    · rcases h with h | h
      · have := ih _ _ _ _ _ h.2; omega
      · have := ih _ _ _ _ _ h.2; omega
theorem lO_1 {A : Nat → Int32} {m i len j : Nat} {V : lV} (h : lO A m i len j V) : 1 ≤ len := by
  cases m with
  | zero => exact absurd h id
  | succ m =>
    rcases h with h | ⟨W, h, _⟩ | ⟨h, _⟩ <;> omega
theorem lO_cg {A B : Nat → Int32} : ∀ (m i len j : Nat) (V : lV), (∀ t, i ≤ t → t < i + len → B t = A t) → lO A m i len j V → lO B m i len j V := by
  intro m
  induction m with
  | zero => intro i len j V _ h; exact h
  | succ m ih =>
    intro i len j V hB h
    have h1 := lO_1 h
    have e := hB i (Nat.le_refl _) (by omega)
    rcases h with ⟨hl, a, lev, sg, num, g1, g2, g3, g4, g5, g6⟩ | ⟨W, g1, g2, g3, g4⟩ | ⟨g1, g2, g3⟩
    · exact Or.inl ⟨hl, a, lev, sg, num, g1, g2, g3, g4, e.trans g5, g6⟩
    · exact Or.inr (Or.inl ⟨W, g1, e.trans g2, ih _ _ _ _ (fun t a b => hB t (by omega) (by omega)) g3, g4⟩)
    · refine Or.inr (Or.inr ⟨g1, e.trans g2, ?_⟩)
      obtain ⟨l1, W, k1, k2, k3⟩ := g3
      have hle := lL_le _ _ _ _ _ _ k3
      refine ⟨l1, W, k1, ih _ _ _ _ (fun t a b => hB t (by omega) (by omega)) k2, lL_cg _ _ _ _ _ _ (fun i' len' j' W' a b c => ih _ _ _ _ (fun t a' b' => hB t (by omega) (by omega)) c) (fun i' len' j' W' c => lO_1 c) k3⟩
theorem lJ_cg {A B : Nat → Int32} {m i len : Nat} {V : lV} (hB : ∀ t, i ≤ t → t < i + len → B t = A t) (h : lJ (lO A m) i len V) : lJ (lO B m) i len V := by
  obtain ⟨l1, W, k1, k2, k3⟩ := h
  have hle := lL_le _ _ _ _ _ _ k3
  exact ⟨l1, W, k1, lO_cg _ _ _ _ _ (fun t a b => hB t (by omega) (by omega)) k2, lL_cg _ _ _ _ _ _ (fun i' len' j' W' a b c => lO_cg _ _ _ _ _ (fun t a' b' => hB t (by omega) (by omega)) c) (fun i' len' j' W' c => lO_1 c) k3⟩
end CD0
section CD1
variable {b : Nat → Int32} {n lim p : Nat}
theorem tVl_b {q : Nat} : ∀ k, k ≤ 3 → (∀ i, i < k → tDgt (b (q + i)) = true) → 0 ≤ (tVl b q k).toInt ∧ (tVl b q k).toInt < 10 ^ k := by
  intro k
  induction k with
  | zero =>
    intro _ _
    show 0 ≤ (0 : Int32).toInt ∧ (0 : Int32).toInt < 1
    decide
  | succ k ih =>
    intro hk h
    have e := ih (by omega) (fun i hi => h i (by omega))
    have hd := tDgt_t.mp (h k (by omega))
    have v10 : (10 : Int32).toInt = 10 := by decide
    have p3 : (10 : Int) ^ k ≤ 100 := by
      rcases (show k = 0 ∨ k = 1 ∨ k = 2 by omega) with z | z | z <;> subst z <;> decide
    have m : (tVl b q k * 10).toInt = (tVl b q k).toInt * 10 := i_mul rfl v10 (by omega)
    have s : (tVl b q k * 10 + b (q + k)).toInt = (tVl b q k).toInt * 10 + (b (q + k)).toInt := i_add m rfl (by omega)
    have t : (tVl b q k * 10 + b (q + k) - 48).toInt = (tVl b q k).toInt * 10 + (b (q + k)).toInt - 48 := i_sub s v48 (by omega)
    show 0 ≤ (tVl b q k * 10 + b (q + k) - 48).toInt ∧ (tVl b q k * 10 + b (q + k) - 48).toInt < 10 ^ k * 10
    rw [t]
    omega
theorem uV_b (h : uK b n lim p = 3) : ∃ v, v ≤ 999 ∧ uV b n p = nI v := by
  obtain ⟨-, a1, a2, -, -, a6⟩ := uK_3 h
  have e := tVl_b (b := b) (q := tSk b n p) (uL b n p) a2 a6
  have p3 : (10 : Int) ^ (uL b n p) ≤ 1000 := by
    rcases (show uL b n p = 1 ∨ uL b n p = 2 ∨ uL b n p = 3 by omega) with z | z | z <;> rw [z] <;> decide
  exact i_nI (n := 999) e.1 (by show (tVl b (tSk b n p) (uL b n p)).toInt ≤ _; omega) (by omega)
end CD1
