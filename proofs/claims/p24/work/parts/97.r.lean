/-! sets of SEATS as words: their bits, one by one -/
section NB0
theorem b5_SB {v : Int64} {s : Nat} : SB v s ↔ bits5 v s = true := Iff.rfl
theorem b5_or {v w : Int64} {s : Nat} : bits5 (v ||| w) s = (bits5 v s || bits5 w s) := by
  unfold bits5
  rw [Int64.toBitVec_or, BitVec.getLsbD_or]
theorem b5_and {v w : Int64} {s : Nat} : bits5 (v &&& w) s = (bits5 v s && bits5 w s) := by
  unfold bits5
  rw [Int64.toBitVec_and, BitVec.getLsbD_and]
theorem b5_xor {v w : Int64} {s : Nat} : bits5 (v ^^^ w) s = (bits5 v s ^^ bits5 w s) := by
  unfold bits5
  rw [Int64.toBitVec_xor, BitVec.getLsbD_xor]
theorem b5_m : ∀ s, s < 64 → bits5 (-1) s = true := by decide +kernel
theorem b5_not {v : Int64} {s : Nat} (hs : s < 64) : bits5 (v ^^^ (-1)) s = !bits5 v s := by
  rw [b5_xor, b5_m s hs, Bool.xor_true]
theorem b5_0 {s : Nat} : bits5 0 s = false := by
  cases h : bits5 0 s with
  | false => rfl
  | true => exact absurd (b5_SB.mpr h) SB_0
theorem b5_1 {c s : Nat} (hc : c < 64) : bits5 ((1 : Int64) <<< ((nI c).toInt64 &&& 63)) s = decide (s = c) := by
  cases h : bits5 ((1 : Int64) <<< ((nI c).toInt64 &&& 63)) s with
  | false =>
    refine (decide_eq_false (fun z => ?_)).symm
    rw [z] at h
    have := b5_SB.mp (SB_1I hc)
    rw [h] at this
    cases this
  | true => exact (decide_eq_true (SB_1 hc (b5_SB.mpr h))).symm
theorem b5_ext {v w : Int64} (h : ∀ s, s < 64 → bits5 v s = bits5 w s) : v = w := by
  apply Int64.toBitVec_inj.mp
  apply BitVec.eq_of_getLsbD_eq
  exact h
theorem b5_z {v : Int64} : v = 0 ↔ ∀ s, s < 64 → bits5 v s = false := ⟨fun h s _ => by rw [h, b5_0], fun h => b5_ext (fun s hs => by rw [h s hs, b5_0])⟩
theorem b5_e0 : ∀ c, c < 64 → (nI 0).toInt64 <<< ((nI c).toInt64 &&& 63) = 0 := by decide +kernel
/-- withBit -/
theorem b5_w {p : Int64} {c e : Nat} (hc : c < 64) (he : e ≤ 1) {s : Nat} (hs : s < 64) : bits5 ((p &&& (((1 : Int64) <<< ((nI c).toInt64 &&& 63)) ^^^ (-1 : Int64))) ||| ((nI e).toInt64 <<< ((nI c).toInt64 &&& 63))) s = if s = c then decide (e = 1) else bits5 p s := by
  have k : bits5 ((nI e).toInt64 <<< ((nI c).toInt64 &&& 63)) s = (decide (e = 1) && decide (s = c)) := by
    rcases (show e = 0 ∨ e = 1 by omega) with z | z <;> subst z
    · rw [b5_e0 c hc, b5_0]
      rfl
    · exact b5_1 hc
  rw [b5_or, b5_and, b5_not hs, b5_1 hc, k]
  by_cases z : s = c
  · rw [if_pos z, decide_eq_true z]
    cases bits5 p s <;> simp
  · rw [if_neg z, decide_eq_false z]
    cases bits5 p s <;> simp
/-- bitOf -/
theorem b5_o {p : Int64} {c : Nat} (hc : c < 64) : (((p.toUInt64 >>> ((nI c).toInt64.toUInt64 &&& Int64.toUInt64 63)).toInt64) &&& (1 : Int64)).toInt32 = nI (if bits5 p c = true then 1 else 0) := by
  have e : un (((p.toUInt64 >>> ((nI c).toInt64.toUInt64 &&& Int64.toUInt64 63)).toInt64) &&& (1 : Int64)) = un p / 2 ^ c % 2 := by
    rw [un_and, wb_cu c hc, un_shr c (show ((UInt64.ofNat c).toBitVec % 64).toNat = c from by
      show (UInt64.ofNat c).toNat % 64 = c
      rw [u64n hc]
      omega)]
    exact Nat.and_two_pow_sub_one_eq_mod _ 1
  have g : (un p / 2 ^ c % 2) = if bits5 p c = true then 1 else 0 := by
    show _ = if (un p).testBit c = true then 1 else 0
    by_cases z : (un p).testBit c = true
    · rw [if_pos z]
      exact (tb_i _ _).mpr z
    · rw [if_neg z]
      have := mt (tb_i (un p) c).mp z
      omega
  refine l2i ?_ ?_
  · rw [e, g]
    split <;> rfl
  · split <;> omega
/-- a row's SEATS and pillars -/
theorem rwS_b : ∀ C, C < 9 → ∀ r, r < 8 → ∀ s, s < 64 → (r + 1) * C ≤ 64 → bits5 ((((1 : Int64) <<< ((nI C).toInt64 &&& 63)) - (1 : Int64)) <<< ((nI r * nI C).toInt64 &&& 63)) s = (decide (r * C ≤ s) && decide (s < (r + 1) * C)) := by decide +kernel
end NB0
/-! the night, as the row of a house and its laws have it -/
section NT0
def gN (g : Nat → Int32) (k : Nat) : Nat := (g k).toInt.toNat
def seB (g : Nat → Int32) (s : Nat) : Bool := decide (s < 64) && decide (0 < (g (6 + s)).toInt)
def kdN (g : Nat → Int32) (s : Nat) : Nat := gN g (6 + s) - 1
def tlB (g : Nat → Int32) (l : Nat) : Bool := decide (0 < (g (86 + 42 * l)).toInt)
/-- u is in the area a of s -/
def arB (g : Nat → Int32) (a s u : Nat) : Bool := decide (u < gN g 0 * gN g 1) && (seB g u && (
  if a = 0 then decide (u ≠ s) && (decide (u / gN g 1 ≤ s / gN g 1 + 1) && (decide (s / gN g 1 ≤ u / gN g 1 + 1) && (decide (u % gN g 1 ≤ s % gN g 1 + 1) && decide (s % gN g 1 ≤ u % gN g 1 + 1))))
  else if a = 1 then decide (u / gN g 1 + 1 = s / gN g 1) && decide (u % gN g 1 = s % gN g 1)
  else if a = 2 then decide (u ≠ s) && (decide (u / gN g 1 = s / gN g 1) && (decide (u % gN g 1 ≤ s % gN g 1 + 1) && decide (s % gN g 1 ≤ u % gN g 1 + 1)))
  else if a = 3 then decide (u / gN g 1 = s / gN g 1 + 1) && decide (u % gN g 1 = s % gN g 1)
  else if a = 4 then (decide (1 ≤ s / gN g 1) && seB g (s - gN g 1)) && (decide (u / gN g 1 + 1 ≤ s / gN g 1) && (decide (s / gN g 1 ≤ u / gN g 1 + 3) && (decide (u % gN g 1 + u / gN g 1 ≤ s % gN g 1 + s / gN g 1) && decide (s % gN g 1 + u / gN g 1 ≤ u % gN g 1 + s / gN g 1))))
  else decide (u ≠ s)))
def cmpB (sg v w : Nat) : Bool := if sg = 0 then decide (v < w) else if sg = 1 then decide (v = w) else decide (w < v)
/-- what s perceives, N and hd being the LEVELS and HELD -/
def atB (g : Nat → Int32) (N hd : Nat → Nat) (s a lev sg num : Nat) : Bool := cmpB sg (if a = 6 then N s else if a = 7 then hd s else nb (fun u => arB g a s u && decide ((if lev = 1 then 1 else 2) ≤ N u)) 64) num
def lwB (g : Nat → Int32) (W : Nat → lV) (N hd : Nat → Nat) (l s : Nat) : Bool := tlB g l && W l (atB g N hd s)
/-- by the laws -/
def lwN (g : Nat → Int32) (W : Nat → lV) (N hd : Nat → Nat) (s : Nat) : Nat := if lwB g W N hd (2 * kdN g s) s = true then (if N s < 2 then N s + 1 else 2) else if lwB g W N hd (2 * kdN g s + 1) s = true then N s - 1 else N s
def thN (g : Nat → Int32) (W : Nat → lV) (P H L : Nat → Bool) (py st : Bool) (N hd : Nat → Nat) (s : Nat) : Nat := if seB g s = true then (if (L s || H s) = true then 0 else if (P s && py) = true then 2 else if st = true then 0 else lwN g W N hd s) else 0
/-- those of T come to the moment -/
def mvN (g : Nat → Int32) (W : Nat → lV) (P H L : Nat → Bool) (py st : Bool) (T : Nat → Bool) (N hd : Nat → Nat) (s : Nat) : Nat := if T s = true then thN g W P H L py st N hd s else N s
def rwB (g : Nat → Int32) (r s : Nat) : Bool := decide (r * gN g 1 ≤ s) && decide (s < (r + 1) * gN g 1)
/-- row by row -/
def rwN (g : Nat → Int32) (W : Nat → lV) (P H L : Nat → Bool) (py st : Bool) (N hd : Nat → Nat) : Nat → Nat → Nat
  | 0 => N
  | r + 1 => mvN g W P H L py st (rwB g r) (rwN g W P H L py st N hd r) hd
def nxN (g : Nat → Int32) (W : Nat → lV) (P H L : Nat → Bool) (py st : Bool) (N hd : Nat → Nat) : Nat → Nat := if gN g 5 = 0 then mvN g W P H L py st (seB g) N hd else rwN g W P H L py st N hd (gN g 0)
def hdN (g : Nat → Int32) (N N' hd : Nat → Nat) (s : Nat) : Nat := if seB g s = true then (if N' s = N s then (if hd s < 3 then hd s + 1 else 3) else 0) else 0
/-- how many CUES up to t -/
def cuN (g : Nat → Int32) (t : Nat) : Nat := nb (fun i => decide (gN g (591 + 3 * i) ≤ t)) (gN g 590)
/-- who is PAID (q = 0), who HISSES (q = 1) behind the first k CUES -/
def cuP (g : Nat → Int32) (q : Nat) (P : Nat → Bool) : Nat → Nat → Bool
  | 0 => P
  | k + 1 => fun s => if gN g (592 + 3 * k) = 3 then cuP g q P k s else if s = gN g (593 + 3 * k) then decide (gN g (592 + 3 * k) = q) else cuP g q P k s
def cuS (g : Nat → Int32) (t : Nat) : Bool := decide (0 < nb (fun i => decide (gN g (591 + 3 * i) = t) && decide (gN g (592 + 3 * i) = 3)) (gN g 590))
def lfB (g : Nat → Int32) (t s : Nat) : Bool := decide (s < gN g 0 * gN g 1) && (decide (1 ≤ gN g (78 + s / gN g 1)) && decide (gN g (78 + s / gN g 1) ≤ t + 1))
def n0N (g : Nat → Int32) (P H : Nat → Bool) (s : Nat) : Nat := if (seB g s && (cuP g 0 P (cuN g 0) s && (!cuP g 1 H (cuN g 0) s && !lfB g 0 s))) = true then 2 else 0
/-- a moment behind (N, hd) -/
def mtN (g : Nat → Int32) (W : Nat → lV) (P H : Nat → Bool) (t : Nat) (q : (Nat → Nat) × (Nat → Nat)) : (Nat → Nat) × (Nat → Nat) := (nxN g W (cuP g 0 P (cuN g t)) (cuP g 1 H (cuN g t)) (lfB g t) (decide (t ≤ gN g 4)) (cuS g t) q.1 q.2, hdN g q.1 (nxN g W (cuP g 0 P (cuN g t)) (cuP g 1 H (cuN g t)) (lfB g t) (decide (t ≤ gN g 4)) (cuS g t) q.1 q.2) q.2)
/-- the night: LEVELS and HELD at t -/
def nt (g : Nat → Int32) (W : Nat → lV) (P H : Nat → Bool) : Nat → (Nat → Nat) × (Nat → Nat)
  | 0 => (n0N g P H, fun _ => 0)
  | t + 1 => mtN g W P H (t + 1) (nt g W P H t)
variable {g : Nat → Int32} {W : Nat → lV} {P H L : Nat → Bool} {py st : Bool} {N hd : Nat → Nat}
theorem nb_all {p : Nat → Bool} : ∀ n, (∀ i, i < n → p i = true) → nb p n = n := by
  intro n
  induction n with
  | zero => intro _; rfl
  | succ n ih =>
    intro h
    rw [nb_s, ih (fun i hi => h i (by omega)), if_pos (h n (by omega))]
theorem nb_none {p : Nat → Bool} : ∀ n, (∀ i, i < n → p i = false) → nb p n = 0 := by
  intro n
  induction n with
  | zero => intro _; rfl
  | succ n ih =>
    intro h
    rw [nb_s, ih (fun i hi => h i (by omega)), h n (by omega)]
    rfl
theorem nb_pos {p : Nat → Bool} : ∀ n, 0 < nb p n ↔ ∃ i, i < n ∧ p i = true := by
  intro n
  induction n with
  | zero => exact ⟨fun h => absurd h (by show ¬ 0 < 0; omega), fun ⟨i, h, _⟩ => absurd h (by omega)⟩
  | succ n ih =>
    rw [nb_s]
    constructor
    · intro h
      by_cases z : p n = true
      · exact ⟨n, by omega, z⟩
      · rw [if_neg z] at h
        obtain ⟨i, a, b⟩ := ih.mp h
        exact ⟨i, by omega, b⟩
    · rintro ⟨i, a, b⟩
      by_cases z : i = n
      · rw [← z, if_pos b]
        omega
      · have := ih.mpr ⟨i, by omega, b⟩
        omega
/-- rising: a prefix -/
theorem nb_pre {p : Nat → Bool} : ∀ n, (∀ i j, i ≤ j → j < n → p j = true → p i = true) → ∀ i, i < n → (p i = true ↔ i < nb p n) := by
  intro n
  induction n with
  | zero => intro _ i hi; exact absurd hi (by omega)
  | succ n ih =>
    intro h i hi
    have ih := ih (fun i j a b c => h i j a (by omega) c)
    rw [nb_s]
    by_cases z : p n = true
    · have e : nb p n = n := nb_all n (fun i hi => h i n (by omega) (by omega) z)
      rw [if_pos z, e]
      exact iff_of_true (h i n (by omega) (by omega) z) (by omega)
    · rw [if_neg z]
      by_cases y : i = n
      · rw [y]
        have := nb_le (p := p) n
        exact iff_of_false z (by omega)
      · exact ih i (by omega)
/-- nothing happens from t on -/
def evB (g : Nat → Int32) (t : Nat) : Prop := (∀ i, i < gN g 590 → gN g (591 + 3 * i) < t) ∧ (∀ r, r < gN g 0 → gN g (78 + r) ≤ t) ∧ (gN g 4 < 600 → gN g 4 < t)
theorem ev_cn {t u : Nat} (h : evB g t) (hu : t ≤ u) : cuN g u = gN g 590 := nb_all _ (fun i hi => decide_eq_true (by have := h.1 i hi; omega))
theorem ev_cs {t u : Nat} (h : evB g t) (hu : t ≤ u) : cuS g u = false := by
  unfold cuS
  rw [nb_none _ (fun i hi => ?_)]
  · rfl
  · have := h.1 i hi
    rw [decide_eq_false (by omega)]
    rfl
theorem ev_lf {t u : Nat} (h : evB g t) (hu : t ≤ u) : lfB g u = lfB g t := by
  funext s
  unfold lfB
  by_cases z : s < gN g 0 * gN g 1
  · have hr : s / gN g 1 < gN g 0 := Nat.div_lt_of_lt_mul (by rw [Nat.mul_comm]; exact z)
    have := h.2.1 _ hr
    rw [decide_eq_true z, decide_eq_true (show gN g (78 + s / gN g 1) ≤ u + 1 by omega), decide_eq_true (show gN g (78 + s / gN g 1) ≤ t + 1 by omega)]
  · rw [decide_eq_false z]
    rfl
theorem ev_st {t u : Nat} {q : (Nat → Nat) × (Nat → Nat)} (h : evB g t) (hu : t ≤ u) (h6 : u ≤ 600) (h4 : gN g 4 ≤ 600) : mtN g W P H u q = mtN g W P H t q := by
  have e4 : decide (u ≤ gN g 4) = decide (t ≤ gN g 4) := by
    by_cases z : gN g 4 < 600
    · have := h.2.2 z
      rw [decide_eq_false (by omega), decide_eq_false (by omega)]
    · rw [decide_eq_true (by omega), decide_eq_true (by omega)]
  unfold mtN
  rw [ev_cn h hu, ev_cn h (Nat.le_refl t), ev_cs h hu, ev_cs h (Nat.le_refl t), ev_lf h hu, e4]
/-- a moment like the last, and nothing to come: it stays so -/
theorem nt_calm {t : Nat} (h : evB g (t + 1)) (h4 : gN g 4 ≤ 600) (e : nt g W P H (t + 1) = nt g W P H t) : ∀ u, t ≤ u → u ≤ 600 → nt g W P H u = nt g W P H t := by
  intro u hu
  induction u with
  | zero =>
    intro _
    rw [show t = 0 by omega]
  | succ u ih =>
    intro h6
    by_cases z : t = u + 1
    · rw [z]
    · have e1 := ih (by omega) (by omega)
      show mtN g W P H (u + 1) (nt g W P H u) = _
      rw [e1, ev_st h (by omega) h6 h4]
      exact e
theorem seB_l {s : Nat} (h : seB g s = true) : s < 64 := by
  unfold seB at h
  rw [Bool.and_eq_true] at h
  exact of_decide_eq_true h.1
theorem thN_f {s : Nat} (h : seB g s = false) : thN g W P H L py st N hd s = 0 := by
  unfold thN
  rw [h]
  rfl
theorem lwN_l {s : Nat} (h : N s ≤ 2) : lwN g W N hd s ≤ 2 := by
  unfold lwN
  split
  · split <;> omega
  · split <;> omega
theorem thN_l {s : Nat} (h : N s ≤ 2) : thN g W P H L py st N hd s ≤ 2 := by
  unfold thN
  have := lwN_l (g := g) (W := W) (hd := hd) h
  split
  · split
    · omega
    · split
      · omega
      · split
        · omega
        · exact this
  · omega
/-- LEVELS 0 to 2, at SEATS alone -/
def okN (g : Nat → Int32) (N : Nat → Nat) : Prop := ∀ s, N s ≤ 2 ∧ (seB g s = false → N s = 0)
def okH (g : Nat → Int32) (hd : Nat → Nat) : Prop := ∀ s, hd s ≤ 3 ∧ (seB g s = false → hd s = 0)
theorem mvN_o {T : Nat → Bool} (h : okN g N) : okN g (mvN g W P H L py st T N hd) := by
  intro s
  unfold mvN
  split
  · exact ⟨thN_l (h s).1, fun z => thN_f z⟩
  · exact h s
theorem rwN_o (h : okN g N) : ∀ r, okN g (rwN g W P H L py st N hd r) := by
  intro r
  induction r with
  | zero => exact h
  | succ r ih => exact mvN_o ih
theorem nxN_o (h : okN g N) : okN g (nxN g W P H L py st N hd) := by
  unfold nxN
  split
  · exact mvN_o h
  · exact rwN_o h _
theorem hdN_o {N' : Nat → Nat} : okH g (hdN g N N' hd) := by
  intro s
  unfold hdN
  constructor
  · split
    · split
      · split <;> omega
      · omega
    · omega
  · intro z
    rw [z]
    rfl
theorem nt_o : ∀ t, okN g (nt g W P H t).1 ∧ okH g (nt g W P H t).2 := by
  intro t
  induction t with
  | zero =>
    refine ⟨fun s => ?_, fun s => ⟨Nat.zero_le _, fun _ => rfl⟩⟩
    show n0N g P H s ≤ 2 ∧ (_ → n0N g P H s = 0)
    unfold n0N
    constructor
    · split <;> omega
    · intro z
      rw [z]
      rfl
  | succ t ih => exact ⟨nxN_o ih.1, hdN_o⟩
end NT0
