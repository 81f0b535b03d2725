section
/-! the words of the tables: among() answers by the packed word -/
section TW0
variable {S : Nat × (Nat → Int32)} {d : Nat} {x : mX} {I : rI0} {J : rJ0} {b : Nat → Int32} {n lim p : Nat}
theorem wIs {c : Nat → Int32} {m : Nat} {W : Int64} (h2 : uK b n lim p = 2) (hm : m ≤ 8) (hc : ∀ i, i < m → 97 ≤ (c i).toInt ∧ (c i).toInt ≤ 122) (hz : ∀ i, i < 8 → ¬ i < m → c i = 32) (hW : tPk c 0 m = W) : (∀ i, i < 8 → c i = (if i < uL b n p then b (tSk b n p + i) else 32)) ↔ uW b n lim p = W := by
  obtain ⟨-, -, l8, -, -, al⟩ := uK_2 h2
  have e := uW_is (c := c) (m := m) h2 hm (fun i hi => by rw [Nat.zero_add]; have := hc i hi; omega)
  have v32 : (32 : Int32).toInt = 32 := by decide
  have pd := tPad_is (b := b) (c := c) (p := tSk b n p) (k := uL b n p) (m := m) l8 hm (fun i hi q => by have := tAlp_t.mp (al i hi); rw [q, v32] at this; omega) (fun i hi q => by have := hc i hi; rw [q, v32] at this; omega)
  rw [← hW, e, ← pd]
  constructor
  · intro h i hi
    rw [← h i hi]
    split
    · rfl
    · rename_i z
      exact (hz i hi z).symm
  · intro h i hi
    rw [← h i hi]
    split
    · rfl
    · rename_i z
      exact hz i hi z
theorem signS {c : Nat} {Q : Int32 → rI0 → rJ0 → Prop} (hc : c ≤ 100) (h : Tck b n lim p I) (h2 : uK b n lim p = 2) (k : Q (if c < uL b n p then b (tSk b n p + c) else 32) I J) : wcI S d 72 [.ref 28, .int (nI c)] x I J Q := by
  obtain ⟨hp, ⟨hn, hE, e2, e1, ee, e5⟩, e3, e4, -⟩ := h
  obtain ⟨a1, a2, a3, a4, a5, a6⟩ := uK_2 h2
  rw [a4] at e5 hE
  rw [a5] at e4
  refine c72_28 ⟨fun z => absurd z (nI_nlt (a := c) (b := 0) (by omega) (by omega)), fun _ => ⟨fun z => ⟨fun w => ⟨?_, ?_⟩, fun w => ?_⟩, fun z => ?_⟩⟩
  · rw [e4, nI_add]
    exact nI_in (by rw [e4, e5, nI_add] at z; rcases Nat.lt_or_ge (tSk b n p + c) (tSk b n p + uL b n p) with y | y; omega; exact absurd z (nI_nlt y (by omega))) (by omega)
  · rw [e4, e5, nI_add] at z
    have y : c < uL b n p := by
      rcases Nat.lt_or_ge (tSk b n p + c) (tSk b n p + uL b n p) with y | y
      · omega
      · exact absurd z (nI_nlt y (by omega))
    rw [if_pos y] at k
    rw [e4, nI_add, nI_clamp (by omega), e2]
    exact k
  · rw [e4, e5, nI_add] at z
    rw [e4, nI_add] at w
    have y : c < uL b n p := by
      rcases Nat.lt_or_ge (tSk b n p + c) (tSk b n p + uL b n p) with y | y
      · omega
      · exact absurd z (nI_nlt y (by omega))
    exact absurd (nI_lt (a := tSk b n p + c) (b := 940) (by omega) (by omega)) w
  · rw [e4, e5, nI_add] at z
    have y : ¬ c < uL b n p := fun y => z (nI_lt (by omega) (by omega))
    rw [if_neg y] at k
    exact k
theorem sizeS {Q : Int32 → rI0 → rJ0 → Prop} (h : Tck b n lim p I) (h2 : uK b n lim p = 2) (k : Q (nI (uL b n p)) I J) : wcI S d 71 [.ref 28] x I J Q := by
  obtain ⟨hp, ⟨hn, hE, e2, e1, ee, e5⟩, e3, e4, -⟩ := h
  obtain ⟨a1, a2, a3, a4, a5, a6⟩ := uK_2 h2
  rw [a4] at e5 hE
  rw [a5] at e4
  refine c71_28 ?_
  have e : I 28 5 - I 28 4 = nI (uL b n p) := by
    rw [e5, e4, ← Int32.toInt_inj, i_sub (nI_toInt (by omega)) (nI_toInt (by omega)) (by omega), nI_toInt (by omega)]
    omega
  rw [e]
  exact k
def TB1 : List Int32 := [114, 111, 119, 32, 32, 32, 32, 32, 117, 112, 32, 32, 32, 32, 32, 32, 100, 111, 119, 110, 32, 32, 32, 32, 112, 114, 105, 99, 101, 32, 32, 32, 108, 101, 97, 118, 101, 115, 32, 32, 99, 97, 114, 114, 121, 32, 32, 32, 112, 97, 105, 100, 32, 32, 32, 32, 114, 111, 119, 115, 32, 32, 32, 32]
theorem gs1 : gSb.getD 0 [] = TB1 := by decide +kernel
def TW1 : List Int64 := [7499639, 30064, 1685026670, 482955846501, 119182682645875, 426836652665, 1885432164, 1919907699]
theorem tw1_0 (h2 : uK b n lim p = 2) : (∀ i, i < 8 → TB1.getD (8 * 0 + i) 0 = (if i < uL b n p then b (tSk b n p + i) else 32)) ↔ uW b n lim p = TW1.getD 0 0 := wIs (c := fun i => TB1.getD (8 * 0 + i) 0) (m := 3) h2 (by omega) (by decide) (by decide) (by decide)
theorem tw1_1 (h2 : uK b n lim p = 2) : (∀ i, i < 8 → TB1.getD (8 * 1 + i) 0 = (if i < uL b n p then b (tSk b n p + i) else 32)) ↔ uW b n lim p = TW1.getD 1 0 := wIs (c := fun i => TB1.getD (8 * 1 + i) 0) (m := 2) h2 (by omega) (by decide) (by decide) (by decide)
theorem tw1_2 (h2 : uK b n lim p = 2) : (∀ i, i < 8 → TB1.getD (8 * 2 + i) 0 = (if i < uL b n p then b (tSk b n p + i) else 32)) ↔ uW b n lim p = TW1.getD 2 0 := wIs (c := fun i => TB1.getD (8 * 2 + i) 0) (m := 4) h2 (by omega) (by decide) (by decide) (by decide)
theorem tw1_3 (h2 : uK b n lim p = 2) : (∀ i, i < 8 → TB1.getD (8 * 3 + i) 0 = (if i < uL b n p then b (tSk b n p + i) else 32)) ↔ uW b n lim p = TW1.getD 3 0 := wIs (c := fun i => TB1.getD (8 * 3 + i) 0) (m := 5) h2 (by omega) (by decide) (by decide) (by decide)
theorem tw1_4 (h2 : uK b n lim p = 2) : (∀ i, i < 8 → TB1.getD (8 * 4 + i) 0 = (if i < uL b n p then b (tSk b n p + i) else 32)) ↔ uW b n lim p = TW1.getD 4 0 := wIs (c := fun i => TB1.getD (8 * 4 + i) 0) (m := 6) h2 (by omega) (by decide) (by decide) (by decide)
theorem tw1_5 (h2 : uK b n lim p = 2) : (∀ i, i < 8 → TB1.getD (8 * 5 + i) 0 = (if i < uL b n p then b (tSk b n p + i) else 32)) ↔ uW b n lim p = TW1.getD 5 0 := wIs (c := fun i => TB1.getD (8 * 5 + i) 0) (m := 5) h2 (by omega) (by decide) (by decide) (by decide)
theorem tw1_6 (h2 : uK b n lim p = 2) : (∀ i, i < 8 → TB1.getD (8 * 6 + i) 0 = (if i < uL b n p then b (tSk b n p + i) else 32)) ↔ uW b n lim p = TW1.getD 6 0 := wIs (c := fun i => TB1.getD (8 * 6 + i) 0) (m := 4) h2 (by omega) (by decide) (by decide) (by decide)
theorem tw1_7 (h2 : uK b n lim p = 2) : (∀ i, i < 8 → TB1.getD (8 * 7 + i) 0 = (if i < uL b n p then b (tSk b n p + i) else 32)) ↔ uW b n lim p = TW1.getD 7 0 := wIs (c := fun i => TB1.getD (8 * 7 + i) 0) (m := 4) h2 (by omega) (by decide) (by decide) (by decide)
theorem tw1 {w : Nat} (hw : w < 8) (h2 : uK b n lim p = 2) : (∀ i, i < 8 → TB1.getD (8 * w + i) 0 = (if i < uL b n p then b (tSk b n p + i) else 32)) ↔ uW b n lim p = TW1.getD w 0 := match w, hw with
  | 0, _ => tw1_0 h2
  | 1, _ => tw1_1 h2
  | 2, _ => tw1_2 h2
  | 3, _ => tw1_3 h2
  | 4, _ => tw1_4 h2
  | 5, _ => tw1_5 h2
  | 6, _ => tw1_6 h2
  | 7, _ => tw1_7 h2
  | w + 8, hw => absurd hw (by omega)
theorem sameS_1 {w : Nat} {Q : Int32 → rI0 → rJ0 → Prop} (hw : w < 8) (h : Tck b n lim p I) (h2 : uK b n lim p = 2) (k1 : uW b n lim p = TW1.getD w 0 → Q 1 I J) (k0 : ¬ uW b n lim p = TW1.getD w 0 → Q 0 I J) : ∀ m c : Nat, c + m = 8 → (∀ i, i < c → TB1.getD (8 * w + i) 0 = (if i < uL b n p then b (tSk b n p + i) else 32)) → wp S (d + 7) 74 2 [some (.ref 28), some (.ref 1000001), some (.int (nI (8 * w))), some (.int (nI c))] [] (wv x I J) (rI x Q) := by
  intro m
  induction m with
  | zero =>
    intro c hc hh
    have hc : c = 8 := by omega
    subst hc
    exact v74_28_1000001_2 ⟨fun q => absurd q (by decide), fun _ => k1 ((tw1 hw h2).mp hh)⟩
  | succ m ih =>
    intro c hc hh
    refine v74_28_1000001_2 ⟨fun _ => ⟨fun _ => ⟨?_, signS (by omega) h h2 ⟨fun q => ?_, fun q => k0 (fun y => q ?_)⟩⟩, fun q => absurd (by rw [nI_add]; exact nI_lt (b := 64) (by omega) (by omega)) q⟩, fun q => absurd (nI_lt (b := 8) (by omega) (by omega)) q⟩
    · rw [nI_add]
      exact nI_in (by omega) (by omega)
    · rw [← nI_succ]
      refine ih (c + 1) (by omega) (fun i hi => ?_)
      rcases (show i = c ∨ i < c by omega) with y | y
      · subst y
        rw [← q, nI_add, nI_clamp (by omega), gs1]
      · exact hh i y
    · rw [nI_add, nI_clamp (by omega), gs1]
      exact (tw1 hw h2).mpr y c (by omega)
theorem amgS_1 {Q : Int32 → rI0 → rJ0 → Prop} (h : Tck b n lim p I) (h2 : uK b n lim p = 2) (k1 : ∀ w, w < 8 → uW b n lim p = TW1.getD w 0 → Q (nI w) I J) : ∀ m c : Nat, c + m = 8 → ((∀ w, c ≤ w → w < 8 → ¬ uW b n lim p = TW1.getD w 0) → Q (-1) I J) → wp S (d + 8) 73 12 [some (.ref 28), some (.ref 1000001), some (.int (nI (8 * c)))] [] (wv x I J) (rI x Q) := by
  intro m
  induction m with
  | zero =>
    intro c hc k0
    have hc : c = 8 := by omega
    subst hc
    exact v73_28_1000001_12 ⟨fun _ => k0 (fun w h1 h2 => absurd h1 (by omega)), fun q => absurd (by decide) q⟩
  | succ m ih =>
    intro c hc k0
    refine v73_28_1000001_12 ⟨fun q => absurd q ?_, fun _ => c74_28_1000001 (sameS_1 (w := c) (by omega) h h2 (fun y => ⟨fun q => absurd q (by decide), fun _ => ⟨by decide, ?_⟩⟩) (fun y => ⟨fun _ => ?_, fun q => absurd rfl q⟩) 8 0 rfl (fun i hi => absurd hi (by omega)))⟩
    · show ¬ nI 64 < nI (8 * c) + nI 8
      rw [nI_add]
      exact nI_nlt (by omega) (by omega)
    · show Q (nI (8 * c) / nI 8) I J
      rw [pk_div (by omega) (by omega) (by omega), show 8 * c / 8 = c by omega]
      exact k1 c (by omega) y
    · show wp S (d + 8) 73 12 [some (.ref 28), some (.ref 1000001), some (.int (nI (8 * c) + nI 8))] [] (wv x I J) (rI x Q)
      rw [nI_add]
      refine ih (c + 1) (by omega) (fun g => k0 (fun w h1 h3 => ?_))
      rcases (show w = c ∨ c + 1 ≤ w by omega) with z | z
      · subst z
        exact y
      · exact g w z h3
theorem amongS_1 {Q : Int32 → rI0 → rJ0 → Prop} (h : Tck b n lim p I) (k0 : uW b n lim p = 7499639 → Q 0 I J) (k1 : uW b n lim p = 30064 → Q 1 I J) (k2 : uW b n lim p = 1685026670 → Q 2 I J) (k3 : uW b n lim p = 482955846501 → Q 3 I J) (k4 : uW b n lim p = 119182682645875 → Q 4 I J) (k5 : uW b n lim p = 426836652665 → Q 5 I J) (k6 : uW b n lim p = 1885432164 → Q 6 I J) (k7 : uW b n lim p = 1919907699 → Q 7 I J) (kn : ¬ uW b n lim p = 7499639 → ¬ uW b n lim p = 30064 → ¬ uW b n lim p = 1685026670 → ¬ uW b n lim p = 482955846501 → ¬ uW b n lim p = 119182682645875 → ¬ uW b n lim p = 426836652665 → ¬ uW b n lim p = 1885432164 → ¬ uW b n lim p = 1919907699 → Q (-1) I J) : wcI S (d + 8) 73 [.ref 28, .ref 1000001] x I J Q := by
  refine c73_28_1000001 ⟨fun z => amgS_1 h (h.2.2.1.symm.trans z) (fun w hw y => ?_) 8 0 rfl (fun g => kn (g 0 (by omega) (by omega)) (g 1 (by omega) (by omega)) (g 2 (by omega) (by omega)) (g 3 (by omega) (by omega)) (g 4 (by omega) (by omega)) (g 5 (by omega) (by omega)) (g 6 (by omega) (by omega)) (g 7 (by omega) (by omega))), fun z => ?_⟩
  · match w, hw, y with
    | 0, _, y => exact k0 y
    | 1, _, y => exact k1 y
    | 2, _, y => exact k2 y
    | 3, _, y => exact k3 y
    | 4, _, y => exact k4 y
    | 5, _, y => exact k5 y
    | 6, _, y => exact k6 y
    | 7, _, y => exact k7 y
    | w + 8, hw, _ => exact absurd hw (by omega)
  · have e := uW_n (b := b) (n := n) (lim := lim) (p := p) (fun q => z (h.2.2.1.trans q))
    exact kn (by rw [e]; decide) (by rw [e]; decide) (by rw [e]; decide) (by rw [e]; decide) (by rw [e]; decide) (by rw [e]; decide) (by rw [e]; decide) (by rw [e]; decide)
def TB2 : List Int32 := [110, 101, 97, 114, 32, 32, 32, 32, 97, 104, 101, 97, 100, 32, 32, 32, 98, 101, 115, 105, 100, 101, 32, 32, 98, 101, 104, 105, 110, 100, 32, 32, 115, 101, 101, 110, 32, 32, 32, 32, 104, 111, 117, 115, 101, 32, 32, 32, 115, 101, 108, 102, 32, 32, 32, 32, 104, 101, 108, 100, 32, 32, 32, 32, 110, 111, 116, 32, 32, 32, 32, 32]
theorem gs2 : gSb.getD 1 [] = TB2 := by decide +kernel
def TW2 : List Int64 := [1852137842, 418363302244, 108187867505765, 108187682958948, 1936024942, 448546567013, 1936026726, 1751477348, 7237492]
theorem tw2_0 (h2 : uK b n lim p = 2) : (∀ i, i < 8 → TB2.getD (8 * 0 + i) 0 = (if i < uL b n p then b (tSk b n p + i) else 32)) ↔ uW b n lim p = TW2.getD 0 0 := wIs (c := fun i => TB2.getD (8 * 0 + i) 0) (m := 4) h2 (by omega) (by decide) (by decide) (by decide)
theorem tw2_1 (h2 : uK b n lim p = 2) : (∀ i, i < 8 → TB2.getD (8 * 1 + i) 0 = (if i < uL b n p then b (tSk b n p + i) else 32)) ↔ uW b n lim p = TW2.getD 1 0 := wIs (c := fun i => TB2.getD (8 * 1 + i) 0) (m := 5) h2 (by omega) (by decide) (by decide) (by decide)
theorem tw2_2 (h2 : uK b n lim p = 2) : (∀ i, i < 8 → TB2.getD (8 * 2 + i) 0 = (if i < uL b n p then b (tSk b n p + i) else 32)) ↔ uW b n lim p = TW2.getD 2 0 := wIs (c := fun i => TB2.getD (8 * 2 + i) 0) (m := 6) h2 (by omega) (by decide) (by decide) (by decide)
theorem tw2_3 (h2 : uK b n lim p = 2) : (∀ i, i < 8 → TB2.getD (8 * 3 + i) 0 = (if i < uL b n p then b (tSk b n p + i) else 32)) ↔ uW b n lim p = TW2.getD 3 0 := wIs (c := fun i => TB2.getD (8 * 3 + i) 0) (m := 6) h2 (by omega) (by decide) (by decide) (by decide)
theorem tw2_4 (h2 : uK b n lim p = 2) : (∀ i, i < 8 → TB2.getD (8 * 4 + i) 0 = (if i < uL b n p then b (tSk b n p + i) else 32)) ↔ uW b n lim p = TW2.getD 4 0 := wIs (c := fun i => TB2.getD (8 * 4 + i) 0) (m := 4) h2 (by omega) (by decide) (by decide) (by decide)
theorem tw2_5 (h2 : uK b n lim p = 2) : (∀ i, i < 8 → TB2.getD (8 * 5 + i) 0 = (if i < uL b n p then b (tSk b n p + i) else 32)) ↔ uW b n lim p = TW2.getD 5 0 := wIs (c := fun i => TB2.getD (8 * 5 + i) 0) (m := 5) h2 (by omega) (by decide) (by decide) (by decide)
theorem tw2_6 (h2 : uK b n lim p = 2) : (∀ i, i < 8 → TB2.getD (8 * 6 + i) 0 = (if i < uL b n p then b (tSk b n p + i) else 32)) ↔ uW b n lim p = TW2.getD 6 0 := wIs (c := fun i => TB2.getD (8 * 6 + i) 0) (m := 4) h2 (by omega) (by decide) (by decide) (by decide)
theorem tw2_7 (h2 : uK b n lim p = 2) : (∀ i, i < 8 → TB2.getD (8 * 7 + i) 0 = (if i < uL b n p then b (tSk b n p + i) else 32)) ↔ uW b n lim p = TW2.getD 7 0 := wIs (c := fun i => TB2.getD (8 * 7 + i) 0) (m := 4) h2 (by omega) (by decide) (by decide) (by decide)
theorem tw2_8 (h2 : uK b n lim p = 2) : (∀ i, i < 8 → TB2.getD (8 * 8 + i) 0 = (if i < uL b n p then b (tSk b n p + i) else 32)) ↔ uW b n lim p = TW2.getD 8 0 := wIs (c := fun i => TB2.getD (8 * 8 + i) 0) (m := 3) h2 (by omega) (by decide) (by decide) (by decide)
theorem tw2 {w : Nat} (hw : w < 9) (h2 : uK b n lim p = 2) : (∀ i, i < 8 → TB2.getD (8 * w + i) 0 = (if i < uL b n p then b (tSk b n p + i) else 32)) ↔ uW b n lim p = TW2.getD w 0 := match w, hw with
  | 0, _ => tw2_0 h2
  | 1, _ => tw2_1 h2
  | 2, _ => tw2_2 h2
  | 3, _ => tw2_3 h2
  | 4, _ => tw2_4 h2
  | 5, _ => tw2_5 h2
  | 6, _ => tw2_6 h2
  | 7, _ => tw2_7 h2
  | 8, _ => tw2_8 h2
  | w + 9, hw => absurd hw (by omega)
theorem sameS_2 {w : Nat} {Q : Int32 → rI0 → rJ0 → Prop} (hw : w < 9) (h : Tck b n lim p I) (h2 : uK b n lim p = 2) (k1 : uW b n lim p = TW2.getD w 0 → Q 1 I J) (k0 : ¬ uW b n lim p = TW2.getD w 0 → Q 0 I J) : ∀ m c : Nat, c + m = 8 → (∀ i, i < c → TB2.getD (8 * w + i) 0 = (if i < uL b n p then b (tSk b n p + i) else 32)) → wp S (d + 7) 74 2 [some (.ref 28), some (.ref 1000002), some (.int (nI (8 * w))), some (.int (nI c))] [] (wv x I J) (rI x Q) := by
  intro m
  induction m with
  | zero =>
    intro c hc hh
    have hc : c = 8 := by omega
    subst hc
    exact v74_28_1000002_2 ⟨fun q => absurd q (by decide), fun _ => k1 ((tw2 hw h2).mp hh)⟩
  | succ m ih =>
    intro c hc hh
    refine v74_28_1000002_2 ⟨fun _ => ⟨fun _ => ⟨?_, signS (by omega) h h2 ⟨fun q => ?_, fun q => k0 (fun y => q ?_)⟩⟩, fun q => absurd (by rw [nI_add]; exact nI_lt (b := 72) (by omega) (by omega)) q⟩, fun q => absurd (nI_lt (b := 8) (by omega) (by omega)) q⟩
    · rw [nI_add]
      exact nI_in (by omega) (by omega)
    · rw [← nI_succ]
      refine ih (c + 1) (by omega) (fun i hi => ?_)
      rcases (show i = c ∨ i < c by omega) with y | y
      · subst y
        rw [← q, nI_add, nI_clamp (by omega), gs2]
      · exact hh i y
    · rw [nI_add, nI_clamp (by omega), gs2]
      exact (tw2 hw h2).mpr y c (by omega)
theorem amgS_2 {Q : Int32 → rI0 → rJ0 → Prop} (h : Tck b n lim p I) (h2 : uK b n lim p = 2) (k1 : ∀ w, w < 9 → uW b n lim p = TW2.getD w 0 → Q (nI w) I J) : ∀ m c : Nat, c + m = 9 → ((∀ w, c ≤ w → w < 9 → ¬ uW b n lim p = TW2.getD w 0) → Q (-1) I J) → wp S (d + 8) 73 12 [some (.ref 28), some (.ref 1000002), some (.int (nI (8 * c)))] [] (wv x I J) (rI x Q) := by
  intro m
  induction m with
  | zero =>
    intro c hc k0
    have hc : c = 9 := by omega
    subst hc
    exact v73_28_1000002_12 ⟨fun _ => k0 (fun w h1 h2 => absurd h1 (by omega)), fun q => absurd (by decide) q⟩
  | succ m ih =>
    intro c hc k0
    refine v73_28_1000002_12 ⟨fun q => absurd q ?_, fun _ => c74_28_1000002 (sameS_2 (w := c) (by omega) h h2 (fun y => ⟨fun q => absurd q (by decide), fun _ => ⟨by decide, ?_⟩⟩) (fun y => ⟨fun _ => ?_, fun q => absurd rfl q⟩) 8 0 rfl (fun i hi => absurd hi (by omega)))⟩
    · show ¬ nI 72 < nI (8 * c) + nI 8
      rw [nI_add]
      exact nI_nlt (by omega) (by omega)
    · show Q (nI (8 * c) / nI 8) I J
      rw [pk_div (by omega) (by omega) (by omega), show 8 * c / 8 = c by omega]
      exact k1 c (by omega) y
    · show wp S (d + 8) 73 12 [some (.ref 28), some (.ref 1000002), some (.int (nI (8 * c) + nI 8))] [] (wv x I J) (rI x Q)
      rw [nI_add]
      refine ih (c + 1) (by omega) (fun g => k0 (fun w h1 h3 => ?_))
      rcases (show w = c ∨ c + 1 ≤ w by omega) with z | z
      · subst z
        exact y
      · exact g w z h3
theorem amongS_2 {Q : Int32 → rI0 → rJ0 → Prop} (h : Tck b n lim p I) (k0 : uW b n lim p = 1852137842 → Q 0 I J) (k1 : uW b n lim p = 418363302244 → Q 1 I J) (k2 : uW b n lim p = 108187867505765 → Q 2 I J) (k3 : uW b n lim p = 108187682958948 → Q 3 I J) (k4 : uW b n lim p = 1936024942 → Q 4 I J) (k5 : uW b n lim p = 448546567013 → Q 5 I J) (k6 : uW b n lim p = 1936026726 → Q 6 I J) (k7 : uW b n lim p = 1751477348 → Q 7 I J) (k8 : uW b n lim p = 7237492 → Q 8 I J) (kn : ¬ uW b n lim p = 1852137842 → ¬ uW b n lim p = 418363302244 → ¬ uW b n lim p = 108187867505765 → ¬ uW b n lim p = 108187682958948 → ¬ uW b n lim p = 1936024942 → ¬ uW b n lim p = 448546567013 → ¬ uW b n lim p = 1936026726 → ¬ uW b n lim p = 1751477348 → ¬ uW b n lim p = 7237492 → Q (-1) I J) : wcI S (d + 8) 73 [.ref 28, .ref 1000002] x I J Q := by
  refine c73_28_1000002 ⟨fun z => amgS_2 h (h.2.2.1.symm.trans z) (fun w hw y => ?_) 9 0 rfl (fun g => kn (g 0 (by omega) (by omega)) (g 1 (by omega) (by omega)) (g 2 (by omega) (by omega)) (g 3 (by omega) (by omega)) (g 4 (by omega) (by omega)) (g 5 (by omega) (by omega)) (g 6 (by omega) (by omega)) (g 7 (by omega) (by omega)) (g 8 (by omega) (by omega))), fun z => ?_⟩
  · match w, hw, y with
    | 0, _, y => exact k0 y
    | 1, _, y => exact k1 y
    | 2, _, y => exact k2 y
    | 3, _, y => exact k3 y
    | 4, _, y => exact k4 y
    | 5, _, y => exact k5 y
    | 6, _, y => exact k6 y
    | 7, _, y => exact k7 y
    | 8, _, y => exact k8 y
    | w + 9, hw, _ => exact absurd hw (by omega)
  · have e := uW_n (b := b) (n := n) (lim := lim) (p := p) (fun q => z (h.2.2.1.trans q))
    exact kn (by rw [e]; decide) (by rw [e]; decide) (by rw [e]; decide) (by rw [e]; decide) (by rw [e]; decide) (by rw [e]; decide) (by rw [e]; decide) (by rw [e]; decide) (by rw [e]; decide)
def TB3 : List Int32 := [97, 110, 100, 32, 32, 32, 32, 32, 111, 114, 32, 32, 32, 32, 32, 32]
theorem gs3 : gSb.getD 2 [] = TB3 := by decide +kernel
def TW3 : List Int64 := [6385252, 28530]
theorem tw3_0 (h2 : uK b n lim p = 2) : (∀ i, i < 8 → TB3.getD (8 * 0 + i) 0 = (if i < uL b n p then b (tSk b n p + i) else 32)) ↔ uW b n lim p = TW3.getD 0 0 := wIs (c := fun i => TB3.getD (8 * 0 + i) 0) (m := 3) h2 (by omega) (by decide) (by decide) (by decide)
theorem tw3_1 (h2 : uK b n lim p = 2) : (∀ i, i < 8 → TB3.getD (8 * 1 + i) 0 = (if i < uL b n p then b (tSk b n p + i) else 32)) ↔ uW b n lim p = TW3.getD 1 0 := wIs (c := fun i => TB3.getD (8 * 1 + i) 0) (m := 2) h2 (by omega) (by decide) (by decide) (by decide)
theorem tw3 {w : Nat} (hw : w < 2) (h2 : uK b n lim p = 2) : (∀ i, i < 8 → TB3.getD (8 * w + i) 0 = (if i < uL b n p then b (tSk b n p + i) else 32)) ↔ uW b n lim p = TW3.getD w 0 := match w, hw with
  | 0, _ => tw3_0 h2
  | 1, _ => tw3_1 h2
  | w + 2, hw => absurd hw (by omega)
theorem sameS_3 {w : Nat} {Q : Int32 → rI0 → rJ0 → Prop} (hw : w < 2) (h : Tck b n lim p I) (h2 : uK b n lim p = 2) (k1 : uW b n lim p = TW3.getD w 0 → Q 1 I J) (k0 : ¬ uW b n lim p = TW3.getD w 0 → Q 0 I J) : ∀ m c : Nat, c + m = 8 → (∀ i, i < c → TB3.getD (8 * w + i) 0 = (if i < uL b n p then b (tSk b n p + i) else 32)) → wp S (d + 7) 74 2 [some (.ref 28), some (.ref 1000003), some (.int (nI (8 * w))), some (.int (nI c))] [] (wv x I J) (rI x Q) := by
  intro m
  induction m with
  | zero =>
    intro c hc hh
    have hc : c = 8 := by omega
    subst hc
    exact v74_28_1000003_2 ⟨fun q => absurd q (by decide), fun _ => k1 ((tw3 hw h2).mp hh)⟩
  | succ m ih =>
    intro c hc hh
    refine v74_28_1000003_2 ⟨fun _ => ⟨fun _ => ⟨?_, signS (by omega) h h2 ⟨fun q => ?_, fun q => k0 (fun y => q ?_)⟩⟩, fun q => absurd (by rw [nI_add]; exact nI_lt (b := 16) (by omega) (by omega)) q⟩, fun q => absurd (nI_lt (b := 8) (by omega) (by omega)) q⟩
    · rw [nI_add]
      exact nI_in (by omega) (by omega)
    · rw [← nI_succ]
      refine ih (c + 1) (by omega) (fun i hi => ?_)
      rcases (show i = c ∨ i < c by omega) with y | y
      · subst y
        rw [← q, nI_add, nI_clamp (by omega), gs3]
      · exact hh i y
    · rw [nI_add, nI_clamp (by omega), gs3]
      exact (tw3 hw h2).mpr y c (by omega)
theorem amgS_3 {Q : Int32 → rI0 → rJ0 → Prop} (h : Tck b n lim p I) (h2 : uK b n lim p = 2) (k1 : ∀ w, w < 2 → uW b n lim p = TW3.getD w 0 → Q (nI w) I J) : ∀ m c : Nat, c + m = 2 → ((∀ w, c ≤ w → w < 2 → ¬ uW b n lim p = TW3.getD w 0) → Q (-1) I J) → wp S (d + 8) 73 12 [some (.ref 28), some (.ref 1000003), some (.int (nI (8 * c)))] [] (wv x I J) (rI x Q) := by
  intro m
  induction m with
  | zero =>
    intro c hc k0
    have hc : c = 2 := by omega
    subst hc
    exact v73_28_1000003_12 ⟨fun _ => k0 (fun w h1 h2 => absurd h1 (by omega)), fun q => absurd (by decide) q⟩
  | succ m ih =>
    intro c hc k0
    refine v73_28_1000003_12 ⟨fun q => absurd q ?_, fun _ => c74_28_1000003 (sameS_3 (w := c) (by omega) h h2 (fun y => ⟨fun q => absurd q (by decide), fun _ => ⟨by decide, ?_⟩⟩) (fun y => ⟨fun _ => ?_, fun q => absurd rfl q⟩) 8 0 rfl (fun i hi => absurd hi (by omega)))⟩
    · show ¬ nI 16 < nI (8 * c) + nI 8
      rw [nI_add]
      exact nI_nlt (by omega) (by omega)
    · show Q (nI (8 * c) / nI 8) I J
      rw [pk_div (by omega) (by omega) (by omega), show 8 * c / 8 = c by omega]
      exact k1 c (by omega) y
    · show wp S (d + 8) 73 12 [some (.ref 28), some (.ref 1000003), some (.int (nI (8 * c) + nI 8))] [] (wv x I J) (rI x Q)
      rw [nI_add]
      refine ih (c + 1) (by omega) (fun g => k0 (fun w h1 h3 => ?_))
      rcases (show w = c ∨ c + 1 ≤ w by omega) with z | z
      · subst z
        exact y
      · exact g w z h3
theorem amongS_3 {Q : Int32 → rI0 → rJ0 → Prop} (h : Tck b n lim p I) (k0 : uW b n lim p = 6385252 → Q 0 I J) (k1 : uW b n lim p = 28530 → Q 1 I J) (kn : ¬ uW b n lim p = 6385252 → ¬ uW b n lim p = 28530 → Q (-1) I J) : wcI S (d + 8) 73 [.ref 28, .ref 1000003] x I J Q := by
  refine c73_28_1000003 ⟨fun z => amgS_3 h (h.2.2.1.symm.trans z) (fun w hw y => ?_) 2 0 rfl (fun g => kn (g 0 (by omega) (by omega)) (g 1 (by omega) (by omega))), fun z => ?_⟩
  · match w, hw, y with
    | 0, _, y => exact k0 y
    | 1, _, y => exact k1 y
    | w + 2, hw, _ => exact absurd hw (by omega)
  · have e := uW_n (b := b) (n := n) (lim := lim) (p := p) (fun q => z (h.2.2.1.trans q))
    exact kn (by rw [e]; decide) (by rw [e]; decide)
def TB4 : List Int32 := [97, 116, 32, 32, 32, 32, 32, 32]
theorem gs4 : gSb.getD 3 [] = TB4 := by decide +kernel
def TW4 : List Int64 := [24948]
theorem tw4_0 (h2 : uK b n lim p = 2) : (∀ i, i < 8 → TB4.getD (8 * 0 + i) 0 = (if i < uL b n p then b (tSk b n p + i) else 32)) ↔ uW b n lim p = TW4.getD 0 0 := wIs (c := fun i => TB4.getD (8 * 0 + i) 0) (m := 2) h2 (by omega) (by decide) (by decide) (by decide)
theorem tw4 {w : Nat} (hw : w < 1) (h2 : uK b n lim p = 2) : (∀ i, i < 8 → TB4.getD (8 * w + i) 0 = (if i < uL b n p then b (tSk b n p + i) else 32)) ↔ uW b n lim p = TW4.getD w 0 := match w, hw with
  | 0, _ => tw4_0 h2
  | w + 1, hw => absurd hw (by omega)
theorem sameS_4 {w : Nat} {Q : Int32 → rI0 → rJ0 → Prop} (hw : w < 1) (h : Tck b n lim p I) (h2 : uK b n lim p = 2) (k1 : uW b n lim p = TW4.getD w 0 → Q 1 I J) (k0 : ¬ uW b n lim p = TW4.getD w 0 → Q 0 I J) : ∀ m c : Nat, c + m = 8 → (∀ i, i < c → TB4.getD (8 * w + i) 0 = (if i < uL b n p then b (tSk b n p + i) else 32)) → wp S (d + 7) 74 2 [some (.ref 28), some (.ref 1000004), some (.int (nI (8 * w))), some (.int (nI c))] [] (wv x I J) (rI x Q) := by
  intro m
  induction m with
  | zero =>
    intro c hc hh
    have hc : c = 8 := by omega
    subst hc
    exact v74_28_1000004_2 ⟨fun q => absurd q (by decide), fun _ => k1 ((tw4 hw h2).mp hh)⟩
  | succ m ih =>
    intro c hc hh
    refine v74_28_1000004_2 ⟨fun _ => ⟨fun _ => ⟨?_, signS (by omega) h h2 ⟨fun q => ?_, fun q => k0 (fun y => q ?_)⟩⟩, fun q => absurd (by rw [nI_add]; exact nI_lt (b := 8) (by omega) (by omega)) q⟩, fun q => absurd (nI_lt (b := 8) (by omega) (by omega)) q⟩
    · rw [nI_add]
      exact nI_in (by omega) (by omega)
    · rw [← nI_succ]
      refine ih (c + 1) (by omega) (fun i hi => ?_)
      rcases (show i = c ∨ i < c by omega) with y | y
      · subst y
        rw [← q, nI_add, nI_clamp (by omega), gs4]
      · exact hh i y
    · rw [nI_add, nI_clamp (by omega), gs4]
      exact (tw4 hw h2).mpr y c (by omega)
theorem amgS_4 {Q : Int32 → rI0 → rJ0 → Prop} (h : Tck b n lim p I) (h2 : uK b n lim p = 2) (k1 : ∀ w, w < 1 → uW b n lim p = TW4.getD w 0 → Q (nI w) I J) : ∀ m c : Nat, c + m = 1 → ((∀ w, c ≤ w → w < 1 → ¬ uW b n lim p = TW4.getD w 0) → Q (-1) I J) → wp S (d + 8) 73 12 [some (.ref 28), some (.ref 1000004), some (.int (nI (8 * c)))] [] (wv x I J) (rI x Q) := by
  intro m
  induction m with
  | zero =>
    intro c hc k0
    have hc : c = 1 := by omega
    subst hc
    exact v73_28_1000004_12 ⟨fun _ => k0 (fun w h1 h2 => absurd h1 (by omega)), fun q => absurd (by decide) q⟩
  | succ m ih =>
    intro c hc k0
    refine v73_28_1000004_12 ⟨fun q => absurd q ?_, fun _ => c74_28_1000004 (sameS_4 (w := c) (by omega) h h2 (fun y => ⟨fun q => absurd q (by decide), fun _ => ⟨by decide, ?_⟩⟩) (fun y => ⟨fun _ => ?_, fun q => absurd rfl q⟩) 8 0 rfl (fun i hi => absurd hi (by omega)))⟩
    · show ¬ nI 8 < nI (8 * c) + nI 8
      rw [nI_add]
      exact nI_nlt (by omega) (by omega)
    · show Q (nI (8 * c) / nI 8) I J
      rw [pk_div (by omega) (by omega) (by omega), show 8 * c / 8 = c by omega]
      exact k1 c (by omega) y
    · show wp S (d + 8) 73 12 [some (.ref 28), some (.ref 1000004), some (.int (nI (8 * c) + nI 8))] [] (wv x I J) (rI x Q)
      rw [nI_add]
      refine ih (c + 1) (by omega) (fun g => k0 (fun w h1 h3 => ?_))
      rcases (show w = c ∨ c + 1 ≤ w by omega) with z | z
      · subst z
        exact y
      · exact g w z h3
theorem amongS_4 {Q : Int32 → rI0 → rJ0 → Prop} (h : Tck b n lim p I) (k0 : uW b n lim p = 24948 → Q 0 I J) (kn : ¬ uW b n lim p = 24948 → Q (-1) I J) : wcI S (d + 8) 73 [.ref 28, .ref 1000004] x I J Q := by
  refine c73_28_1000004 ⟨fun z => amgS_4 h (h.2.2.1.symm.trans z) (fun w hw y => ?_) 1 0 rfl (fun g => kn (g 0 (by omega) (by omega))), fun z => ?_⟩
  · match w, hw, y with
    | 0, _, y => exact k0 y
    | w + 1, hw, _ => exact absurd hw (by omega)
  · have e := uW_n (b := b) (n := n) (lim := lim) (p := p) (fun q => z (h.2.2.1.trans q))
    exact kn (by rw [e]; decide)
def TB5 : List Int32 := [112, 97, 121, 32, 32, 32, 32, 32, 104, 105, 115, 115, 32, 32, 32, 32, 102, 114, 101, 101, 32, 32, 32, 32, 115, 116, 105, 108, 108, 32, 32, 32]
theorem gs5 : gSb.getD 4 [] = TB5 := by decide +kernel
def TW5 : List Int64 := [7364985, 1751741299, 1718773093, 495874305132]
theorem tw5_0 (h2 : uK b n lim p = 2) : (∀ i, i < 8 → TB5.getD (8 * 0 + i) 0 = (if i < uL b n p then b (tSk b n p + i) else 32)) ↔ uW b n lim p = TW5.getD 0 0 := wIs (c := fun i => TB5.getD (8 * 0 + i) 0) (m := 3) h2 (by omega) (by decide) (by decide) (by decide)
theorem tw5_1 (h2 : uK b n lim p = 2) : (∀ i, i < 8 → TB5.getD (8 * 1 + i) 0 = (if i < uL b n p then b (tSk b n p + i) else 32)) ↔ uW b n lim p = TW5.getD 1 0 := wIs (c := fun i => TB5.getD (8 * 1 + i) 0) (m := 4) h2 (by omega) (by decide) (by decide) (by decide)
theorem tw5_2 (h2 : uK b n lim p = 2) : (∀ i, i < 8 → TB5.getD (8 * 2 + i) 0 = (if i < uL b n p then b (tSk b n p + i) else 32)) ↔ uW b n lim p = TW5.getD 2 0 := wIs (c := fun i => TB5.getD (8 * 2 + i) 0) (m := 4) h2 (by omega) (by decide) (by decide) (by decide)
theorem tw5_3 (h2 : uK b n lim p = 2) : (∀ i, i < 8 → TB5.getD (8 * 3 + i) 0 = (if i < uL b n p then b (tSk b n p + i) else 32)) ↔ uW b n lim p = TW5.getD 3 0 := wIs (c := fun i => TB5.getD (8 * 3 + i) 0) (m := 5) h2 (by omega) (by decide) (by decide) (by decide)
theorem tw5 {w : Nat} (hw : w < 4) (h2 : uK b n lim p = 2) : (∀ i, i < 8 → TB5.getD (8 * w + i) 0 = (if i < uL b n p then b (tSk b n p + i) else 32)) ↔ uW b n lim p = TW5.getD w 0 := match w, hw with
  | 0, _ => tw5_0 h2
  | 1, _ => tw5_1 h2
  | 2, _ => tw5_2 h2
  | 3, _ => tw5_3 h2
  | w + 4, hw => absurd hw (by omega)
theorem sameS_5 {w : Nat} {Q : Int32 → rI0 → rJ0 → Prop} (hw : w < 4) (h : Tck b n lim p I) (h2 : uK b n lim p = 2) (k1 : uW b n lim p = TW5.getD w 0 → Q 1 I J) (k0 : ¬ uW b n lim p = TW5.getD w 0 → Q 0 I J) : ∀ m c : Nat, c + m = 8 → (∀ i, i < c → TB5.getD (8 * w + i) 0 = (if i < uL b n p then b (tSk b n p + i) else 32)) → wp S (d + 7) 74 2 [some (.ref 28), some (.ref 1000005), some (.int (nI (8 * w))), some (.int (nI c))] [] (wv x I J) (rI x Q) := by
  intro m
  induction m with
  | zero =>
    intro c hc hh
    have hc : c = 8 := by omega
    subst hc
    exact v74_28_1000005_2 ⟨fun q => absurd q (by decide), fun _ => k1 ((tw5 hw h2).mp hh)⟩
  | succ m ih =>
    intro c hc hh
    refine v74_28_1000005_2 ⟨fun _ => ⟨fun _ => ⟨?_, signS (by omega) h h2 ⟨fun q => ?_, fun q => k0 (fun y => q ?_)⟩⟩, fun q => absurd (by rw [nI_add]; exact nI_lt (b := 32) (by omega) (by omega)) q⟩, fun q => absurd (nI_lt (b := 8) (by omega) (by omega)) q⟩
    · rw [nI_add]
      exact nI_in (by omega) (by omega)
    · rw [← nI_succ]
      refine ih (c + 1) (by omega) (fun i hi => ?_)
      rcases (show i = c ∨ i < c by omega) with y | y
      · subst y
        rw [← q, nI_add, nI_clamp (by omega), gs5]
      · exact hh i y
    · rw [nI_add, nI_clamp (by omega), gs5]
      exact (tw5 hw h2).mpr y c (by omega)
theorem amgS_5 {Q : Int32 → rI0 → rJ0 → Prop} (h : Tck b n lim p I) (h2 : uK b n lim p = 2) (k1 : ∀ w, w < 4 → uW b n lim p = TW5.getD w 0 → Q (nI w) I J) : ∀ m c : Nat, c + m = 4 → ((∀ w, c ≤ w → w < 4 → ¬ uW b n lim p = TW5.getD w 0) → Q (-1) I J) → wp S (d + 8) 73 12 [some (.ref 28), some (.ref 1000005), some (.int (nI (8 * c)))] [] (wv x I J) (rI x Q) := by
  intro m
  induction m with
  | zero =>
    intro c hc k0
    have hc : c = 4 := by omega
    subst hc
    exact v73_28_1000005_12 ⟨fun _ => k0 (fun w h1 h2 => absurd h1 (by omega)), fun q => absurd (by decide) q⟩
  | succ m ih =>
    intro c hc k0
    refine v73_28_1000005_12 ⟨fun q => absurd q ?_, fun _ => c74_28_1000005 (sameS_5 (w := c) (by omega) h h2 (fun y => ⟨fun q => absurd q (by decide), fun _ => ⟨by decide, ?_⟩⟩) (fun y => ⟨fun _ => ?_, fun q => absurd rfl q⟩) 8 0 rfl (fun i hi => absurd hi (by omega)))⟩
    · show ¬ nI 32 < nI (8 * c) + nI 8
      rw [nI_add]
      exact nI_nlt (by omega) (by omega)
    · show Q (nI (8 * c) / nI 8) I J
      rw [pk_div (by omega) (by omega) (by omega), show 8 * c / 8 = c by omega]
      exact k1 c (by omega) y
    · show wp S (d + 8) 73 12 [some (.ref 28), some (.ref 1000005), some (.int (nI (8 * c) + nI 8))] [] (wv x I J) (rI x Q)
      rw [nI_add]
      refine ih (c + 1) (by omega) (fun g => k0 (fun w h1 h3 => ?_))
      rcases (show w = c ∨ c + 1 ≤ w by omega) with z | z
      · subst z
        exact y
      · exact g w z h3
theorem amongS_5 {Q : Int32 → rI0 → rJ0 → Prop} (h : Tck b n lim p I) (k0 : uW b n lim p = 7364985 → Q 0 I J) (k1 : uW b n lim p = 1751741299 → Q 1 I J) (k2 : uW b n lim p = 1718773093 → Q 2 I J) (k3 : uW b n lim p = 495874305132 → Q 3 I J) (kn : ¬ uW b n lim p = 7364985 → ¬ uW b n lim p = 1751741299 → ¬ uW b n lim p = 1718773093 → ¬ uW b n lim p = 495874305132 → Q (-1) I J) : wcI S (d + 8) 73 [.ref 28, .ref 1000005] x I J Q := by
  refine c73_28_1000005 ⟨fun z => amgS_5 h (h.2.2.1.symm.trans z) (fun w hw y => ?_) 4 0 rfl (fun g => kn (g 0 (by omega) (by omega)) (g 1 (by omega) (by omega)) (g 2 (by omega) (by omega)) (g 3 (by omega) (by omega))), fun z => ?_⟩
  · match w, hw, y with
    | 0, _, y => exact k0 y
    | 1, _, y => exact k1 y
    | 2, _, y => exact k2 y
    | 3, _, y => exact k3 y
    | w + 4, hw, _ => exact absurd hw (by omega)
  · have e := uW_n (b := b) (n := n) (lim := lim) (p := p) (fun q => z (h.2.2.1.trans q))
    exact kn (by rw [e]; decide) (by rw [e]; decide) (by rw [e]; decide) (by rw [e]; decide)
theorem failS {p1 : Int32} {Q : Int32 → rI0 → rJ0 → Prop} (k : Q 0 (mSet I 28 8 p1) J) : wcI S d 75 [.ref 28, .int p1] x I J Q := c75_28 k
/-- the three ways of a number: none, out of its bounds, within *-/
theorem withinS {p1 p2 : Int32} {Q : Int32 → rI0 → rJ0 → Prop} (h : Tck b n lim p I) (h8 : I 28 8 = 0) (k1 : ¬ uK b n lim p = 3 → Q 0 (mSet I 28 8 1) J) (k2 : uK b n lim p = 3 → (uV b n p < p1 ∨ p2 < uV b n p) → Q 0 (mSet I 28 8 2) J) (k3 : uK b n lim p = 3 → ¬ uV b n p < p1 → ¬ p2 < uV b n p → I 28 6 = uV b n p → Q 1 I J) : wcI S d 76 [.ref 28, .int p1, .int p2] x I J Q := by
  refine c76_28 ⟨fun z => ?_, fun z => ⟨fun q => absurd q (by decide), fun _ => k1 (fun q => z (h.2.2.1.trans q))⟩⟩
  have z : uK b n lim p = 3 := h.2.2.1.symm.trans z
  have e6 := h.2.2.2.2 z
  refine ⟨fun q => ⟨fun q => absurd q (by decide), fun _ => k2 z (Or.inl (e6 ▸ q))⟩, fun q1 => ⟨fun q => ⟨fun q => absurd q (by decide), fun _ => k2 z (Or.inr (e6 ▸ q))⟩, fun q2 => ⟨fun _ => k3 z (e6 ▸ q1) (e6 ▸ q2) e6, fun q => absurd h8 q⟩⟩⟩
theorem Tck.s {k : Nat} {v : Int32} (h : Tck b n lim p I) (hk : 7 ≤ k) : Tck b n lim p (mSet I 28 k v) := by
  obtain ⟨hp, ⟨hn, hE, e2, e1, ee, e5⟩, e3, e4, e6⟩ := h
  refine ⟨hp, ⟨hn, hE, ?_, ?_, ?_, ?_⟩, ?_, ?_, fun z => ?_⟩
  · rw [mSet_ne (by decide)]; exact e2
  · rw [mSet_x (by omega)]; exact e1
  · rw [mSet_x (by omega)]; exact ee
  · rw [mSet_x (by omega)]; exact e5
  · rw [mSet_x (by omega)]; exact e3
  · rw [mSet_x (by omega)]; exact e4
  · rw [mSet_x (by omega)]; exact e6 z
theorem Tst.s {k : Nat} {v : Int32} (h : Tst b n lim p I) (hk : 7 ≤ k) : Tst b n lim p (mSet I 28 k v) := by
  obtain ⟨hn, hE, e2, e1, ee, e5⟩ := h
  refine ⟨hn, hE, ?_, ?_, ?_, ?_⟩
  · rw [mSet_ne (by decide)]; exact e2
  · rw [mSet_x (by omega)]; exact e1
  · rw [mSet_x (by omega)]; exact ee
  · rw [mSet_x (by omega)]; exact e5
theorem Tck.o {I' : rI0} (h : Tck b n lim p I) (a : I' 2 = I 2) (c : I' 28 = I 28) : Tck b n lim p I' := by
  unfold Tck Tst at *
  rw [a, c]
  exact h
theorem takeS {p1 p2 : Int32} {Q : Int32 → rI0 → rJ0 → Prop} (h : Tck b n lim p I) (h8 : I 28 8 = 0) (k1 : ¬ uK b n lim p = 3 → Q 0 (mSet I 28 8 1) J) (k2 : uK b n lim p = 3 → (uV b n p < p1 ∨ p2 < uV b n p) → Q 0 (mSet I 28 8 2) J) (k3 : uK b n lim p = 3 → ¬ uV b n p < p1 → ¬ p2 < uV b n p → ∀ I', (∀ a, a ≠ 28 → I' a = I a) → I' 28 7 = uV b n p → I' 28 8 = 0 → Tck b n lim (uE b n lim p) I' → Q 1 I' J) : wcI S (d + 1) 77 [.ref 28, .int p1, .int p2] x I J Q := by
  refine c77_28 (withinS h h8 (fun z => ⟨fun _ => k1 z, fun q => absurd rfl q⟩) (fun z y => ⟨fun _ => k2 z y, fun q => absurd rfl q⟩) (fun z y1 y2 e6 => ⟨fun q => absurd q (by decide), fun _ => readS (h.2.1.s (by omega)) (fun I' o t => k3 z y1 y2 I' (fun a ha => by rw [o.1 a ha, mSet_ne ha]) ?_ ?_ t)⟩))
  · rw [o.2 7 (by omega)]
    show I 28 6 = _
    exact e6
  · rw [o.2 8 (by omega)]
    exact h8
theorem passS {p1 : Int32} {Q : Int32 → rI0 → rJ0 → Prop} (h : Tck b n lim p I) (h8 : I 28 8 = 0) (k1 : ¬ uK b n lim p = p1 → Q 0 (mSet I 28 8 1) J) (k3 : uK b n lim p = p1 → ∀ I', (∀ a, a ≠ 28 → I' a = I a) → I' 28 7 = I 28 7 → I' 28 8 = 0 → Tck b n lim (uE b n lim p) I' → Q 1 I' J) : wcI S (d + 1) 78 [.ref 28, .int p1] x I J Q :=
  c78_28 ⟨fun z => readS h.2.1 (fun I' o t => k3 (h.2.2.1.symm.trans z) I' o.1 (o.2 7 (by omega)) ((o.2 8 (by omega)).trans h8) t), fun z => failS ⟨Or.inl rfl, k1 (fun q => z (h.2.2.1.trans q))⟩⟩
end TW0
end
section
/-! the reference's tokens, exactly: next() from a place p on ends at the token that is found from p on -/
section TM0
variable {S : Nat × (Nat → Int32)} {d : Nat} {x : mX} {I : rI0} {J : rJ0} {b : Nat → Int32} {n lim p : Nat}
def Nf5 (I : rI0) (J : rJ0) (I' : rI0) (J' : rJ0) : Prop := (∀ a, a ≠ 43 → I' a = I a) ∧ (∀ k, ¬ (k = 4 ∨ (9 ≤ k ∧ k ≤ 12)) → I' 43 k = I 43 k) ∧ (∀ a, a ≠ 43 → J' a = J a) ∧ ∀ k, k ≠ 15 → J' 43 k = J 43 k
theorem Nf5.rf : Nf5 I J I J := ⟨fun _ _ => rfl, fun _ _ => rfl, fun _ _ => rfl, fun _ _ => rfl⟩
theorem Nf5.tr {I1 I2 : rI0} {J1 J2 : rJ0} (h : Nf5 I J I1 J1) (h2 : Nf5 I1 J1 I2 J2) : Nf5 I J I2 J2 := ⟨fun a ha => (h2.1 a ha).trans (h.1 a ha), fun k hk => (h2.2.1 k hk).trans (h.2.1 k hk), fun a ha => (h2.2.2.1 a ha).trans (h.2.2.1 a ha), fun k hk => (h2.2.2.2 k hk).trans (h.2.2.2 k hk)⟩
theorem Nf5.s {k : Nat} {v : Int32} (hk : k = 4 ∨ (9 ≤ k ∧ k ≤ 12)) : Nf5 I J (mSet I 43 k v) J := ⟨fun a ha => mSet_ne ha, fun j hj => mSet_x (by omega), fun _ _ => rfl, fun _ _ => rfl⟩
theorem Nf5.w {v : Int64} : Nf5 I J I (mSet J 43 15 v) := ⟨fun _ _ => rfl, fun _ _ => rfl, fun a ha => mSet_ne ha, fun j hj => mSet_x (by omega)⟩
def tokOf (K : Int32) : Int32 := if K = 0 then 4 else if K = 1 then 0 else if K = 2 then 1 else if K = 3 then 2 else 3
theorem tokOf_s {c : Int32} (h : c = 59 ∨ c = 40 ∨ c = 41 ∨ (¬ c < 60 ∧ ¬ 62 < c)) : tokOf c = 3 := by
  have g : ¬ c = 0 ∧ ¬ c = 1 ∧ ¬ c = 2 ∧ ¬ c = 3 := by
    rcases h with h | h | h | h
    · rw [h]; decide
    · rw [h]; decide
    · rw [h]; decide
    · refine ⟨fun q => ?_, fun q => ?_, fun q => ?_, fun q => ?_⟩ <;> (rw [q] at h; exact absurd h.1 (by decide))
  unfold tokOf
  rw [if_neg g.1, if_neg g.2.1, if_neg g.2.2.1, if_neg g.2.2.2]
def Nst (b : Nat → Int32) (n lim p : Nat) (I : rI0) : Prop := n ≤ 940 ∧ lim ≤ 940 ∧ p ≤ n ∧ (∀ i, i < 940 → I 44 i &&& 255 = b i) ∧ I 43 3 = nI n ∧ I 43 5 = nI lim ∧ I 43 4 = nI p
def Nck (b : Nat → Int32) (n lim p : Nat) (I : rI0) (J : rJ0) : Prop := p ≤ n ∧ Nst b n lim (uE b n lim p) I ∧ I 43 9 = tokOf (uK b n lim p) ∧ I 43 10 = nI (uA b n lim p) ∧ (uK b n lim p = 2 → I 43 11 = nI (uL b n p) ∧ J 43 15 = tPk b (tSk b n p) (uL b n p)) ∧ (uK b n lim p = 3 → I 43 12 = uV b n p) ∧ (tokOf (uK b n lim p) = 3 → I 43 12 = uK b n lim p)
theorem Nst.mv {I' : rI0} {q : Nat} (h : Nst b n lim p I) (hq : q ≤ n) (a : I' 44 = I 44) (e3 : I' 43 3 = I 43 3) (e5 : I' 43 5 = I 43 5) (e4 : I' 43 4 = nI q) : Nst b n lim q I' := ⟨h.1, h.2.1, hq, fun i hi => by rw [a]; exact h.2.2.2.1 i hi, e3.trans h.2.2.2.2.1, e5.trans h.2.2.2.2.2.1, e4⟩
def chr (b : Nat → Int32) (n p : Nat) : Int32 := if p < n then b p else -1
theorem peekS {Q : Int32 → rI0 → rJ0 → Prop} (h : Nst b n lim p I) (k : Q (chr b n p) I J) : wcI S d 158 [.ref 43] x I J Q := by
  obtain ⟨hn, hl, hp, hb, e3, e5, e4⟩ := h
  refine c158_43 ⟨fun z => ?_, fun z => ?_⟩
  · rw [e4, e3] at z
    have y : p < n := by
      rcases Nat.lt_or_ge p n with w | w
      · exact w
      · exact absurd z (nI_nlt w (by omega))
    refine ⟨by rw [e4]; exact nI_in (by omega) (by omega), ?_⟩
    rw [e4, nI_clamp (by omega), hb p (by omega)]
    unfold chr at k
    rw [if_pos y] at k
    exact k
  · rw [e4, e3] at z
    have y : ¬ p < n := fun w => z (nI_lt w (by omega))
    unfold chr at k
    rw [if_neg y] at k
    exact k
theorem tAlp_f {c : Int32} : tAlp c = false ↔ c < 97 ∨ (¬ c < 97 ∧ 122 < c) := by
  unfold tAlp
  by_cases h : c < 97
  · simp [h]
  · by_cases g : 122 < c
    · simp [h, g]
    · simp [h, g]
theorem smallS {c : Int32} {Q : Int32 → rI0 → rJ0 → Prop} (k1 : tAlp c = true → Q 1 I J) (k0 : tAlp c = false → Q 0 I J) : wcI S d 159 [.int c] x I J Q :=
  c159 ⟨fun z => k0 (tAlp_f.mpr (Or.inl z)), fun z => ⟨fun y => k0 (tAlp_f.mpr (Or.inr ⟨z, y⟩)), fun y => k1 (by unfold tAlp; simp [z, y])⟩⟩
theorem digitS {c : Int32} {Q : Int32 → rI0 → rJ0 → Prop} (k1 : tDgt c = true → Q 1 I J) (k0 : tDgt c = false → Q 0 I J) : wcI S d 160 [.int c] x I J Q :=
  c160 ⟨fun z => k0 (by unfold tDgt; simp [z]), fun z => ⟨fun y => k0 (by unfold tDgt; simp [z, y]), fun y => k1 (by unfold tDgt; simp [z, y])⟩⟩
/-- the kind of a run of letters and digits -/
theorem tkK_run {q : Nat} (hq : q < min n lim) (hr : q < tRn b n q) : tkK b n lim q = (if tCn tDgt b q (tRn b n q - q) = 0 then (if tRn b n q - q ≤ 8 then 2 else 0) else if tCn tAlp b q (tRn b n q - q) = 0 ∧ tRn b n q - q ≤ 3 then 3 else 0) := by
  unfold tkK
  rw [if_neg (by omega), if_neg (by omega)]
theorem tCn_pos {P : Int32 → Bool} {q k : Nat} (hk : 0 < k) (h : P (b q) = true) : ¬ tCn P b q k = 0 := by
  intro e
  have := (tCn_0 k).mp e 0 hk
  rw [Nat.add_zero, h] at this
  cases this
theorem tkK_a {q : Nat} (hq : q < min n lim) (hr : q < tRn b n q) (ha : tAlp (b q) = true) : (tSame b q (tRn b n q - q) → tkK b n lim q = (if tRn b n q - q ≤ 8 then 2 else 0)) ∧ (¬ tSame b q (tRn b n q - q) → tkK b n lim q = 0) := by
  have al : ∀ i, i < tRn b n q - q → tAln (b (q + i)) = true := fun i hi => tRn_in (n := n) (p := q) (by omega) (by omega)
  have s := tSame_w (b := b) (p := q) al (by omega) ha
  refine ⟨fun h => ?_, fun h => ?_⟩
  · rw [tkK_run hq hr, if_pos (s.mp h)]
  · rw [tkK_run hq hr, if_neg (fun z => h (s.mpr z)), if_neg (fun z => tCn_pos (by omega) ha z.1)]
theorem tkK_d {q : Nat} (hq : q < min n lim) (hr : q < tRn b n q) (ha : tAlp (b q) = false) : (tSame b q (tRn b n q - q) → tkK b n lim q = (if tRn b n q - q ≤ 3 then 3 else 0)) ∧ (¬ tSame b q (tRn b n q - q) → tkK b n lim q = 0) := by
  have al : ∀ i, i < tRn b n q - q → tAln (b (q + i)) = true := fun i hi => tRn_in (n := n) (p := q) (by omega) (by omega)
  have s := tSame_n (b := b) (p := q) al (by omega) ha
  have dg : tDgt (b q) = true := by
    have := tAln_x (al 0 (by omega))
    rw [Nat.add_zero, ha] at this
    exact this
  refine ⟨fun h => ?_, fun h => ?_⟩
  · rw [tkK_run hq hr, if_neg (tCn_pos (by omega) dg)]
    by_cases z : tRn b n q - q ≤ 3
    · rw [if_pos ⟨s.mp h, z⟩, if_pos z]
    · rw [if_neg (fun y => z y.2), if_neg z]
  · rw [tkK_run hq hr, if_neg (tCn_pos (by omega) dg), if_neg (fun z => h (s.mpr z.1))]
theorem tSame_s {q k : Nat} : tSame b q (k + 1) ↔ tSame b q k ∧ tAlp (b (q + k)) = tAlp (b q) := by
  constructor
  · intro h
    exact ⟨fun i hi => h i (by omega), h k (by omega)⟩
  · intro h i hi
    rcases (show i = k ∨ i < k by omega) with z | z
    · subst z
      exact h.2
    · exact h.1 i z
/-- the end of a run, at 181 -/
def NxE (b : Nat → Int32) (n lim pl R : Nat) (I0 : rI0) (J0 : rJ0) (I' : rI0) (J' : rJ0) : Prop := Nf5 I0 J0 I' J' ∧ I' 43 4 = nI R ∧ I' 43 10 = I0 43 10 ∧ I' 43 9 = tokOf (tkK b n lim pl) ∧ I' 43 11 = nI (R - pl) ∧ I' 43 12 = tVl b pl (min 3 (R - pl)) ∧ J' 43 15 = tPk b pl (min 8 (R - pl))
theorem nx181 {pl : Nat} {l1 l2 : Int32} {Q : rI0 → rJ0 → Prop} (hpl : pl < min n lim) (hr : pl < tRn b n pl) (h2 : (l2 = 1 ∧ tAlp (b pl) = true) ∨ (l2 = 0 ∧ tAlp (b pl) = false)) : ∀ (m st : Nat) (A : Int32) (I : rI0) (J : rJ0), st + m = n → pl ≤ st → tRn b n st = tRn b n pl → Nst b n lim st I → I 43 11 = nI (st - pl) → I 43 12 = tVl b pl (min 3 (st - pl)) → J 43 15 = tPk b pl (min 8 (st - pl)) → ((A = 1 ∧ tSame b pl (st - pl)) ∨ (A = 0 ∧ ¬ tSame b pl (st - pl))) → (∀ I' J', NxE b n lim pl (tRn b n pl) I J I' J' → Q I' J') → wp S (d + 1) 161 181 [some (.ref 43), some (.int l1), some (.int l2), some (.int A)] [] (wv x I J) (rV x Q) := by
  intro m
  induction m with
  | zero =>
    intro st A I J hm hp hR hs e11 e12 e15 hA k
    have e : tRn b n st = st := tGo_e (fun z => by omega)
    have ec : chr b n st = -1 := if_neg (by omega)
    have f : ∀ v, v = tokOf (tkK b n lim pl) → Q (mSet I 43 9 v) J := fun v hv => k _ _ ⟨Nf5.s (by omega), by show I 43 4 = _; rw [hs.2.2.2.2.2.2, ← hR, e], rfl, hv, by show I 43 11 = _; rw [e11, ← hR, e], by show I 43 12 = _; rw [e12, ← hR, e], by rw [e15, ← hR, e]⟩
    rw [← hR, e] at hr
    refine v161_43_181 (peekS hs (smallS (fun q => absurd q (by rw [ec]; decide)) (fun _ => ⟨fun _ => peekS hs (digitS (fun q => absurd q (by rw [ec]; decide)) (fun _ => ⟨fun _ => ?_, fun q => absurd rfl q⟩)), fun q => absurd rfl q⟩)))
    have hk : tRn b n pl - pl = st - pl := by rw [← hR, e]
    have hr' : pl < tRn b n pl := by rw [← hR, e]; exact hr
    refine ⟨fun z => f _ ?_, fun z => ⟨fun y => ⟨fun w => f _ ?_, fun w => ⟨fun _ => f _ ?_, fun q => absurd y q⟩⟩, fun y => ⟨fun w => f _ ?_, fun w => ⟨fun q => absurd q y, fun _ => f _ ?_⟩⟩⟩⟩
    · rcases hA with hA | hA
      · rw [hA.1] at z; exact absurd z (by decide)
      · rcases h2 with h2 | h2
        · rw [(tkK_a hpl hr' h2.2).2 (by rw [hk]; exact hA.2)]; rfl
        · rw [(tkK_d hpl hr' h2.2).2 (by rw [hk]; exact hA.2)]; rfl
    · rcases hA with hA | hA
      · rcases h2 with h2 | h2
        · rw [h2.1] at y; exact absurd y (by decide)
        · rw [e11] at w
          have w : 3 < st - pl := by
            rcases Nat.lt_or_ge 3 (st - pl) with q | q
            · exact q
            · exact absurd w (nI_nlt (a := 3) q (by omega))
          rw [(tkK_d hpl hr' h2.2).1 (by rw [hk]; exact hA.2), hk, if_neg (by omega)]; rfl
      · exact absurd hA.1 z
    · rcases hA with hA | hA
      · rcases h2 with h2 | h2
        · rw [h2.1] at y; exact absurd y (by decide)
        · rw [e11] at w
          have w : st - pl ≤ 3 := by
            rcases Nat.lt_or_ge 3 (st - pl) with q | q
            · exact absurd (nI_lt (a := 3) q (by have := hs.1; omega)) w
            · exact q
          rw [(tkK_d hpl hr' h2.2).1 (by rw [hk]; exact hA.2), hk, if_pos (by omega)]; rfl
      · exact absurd hA.1 z
    · rcases hA with hA | hA
      · rcases h2 with h2 | h2
        · rw [e11] at w
          have w : 8 < st - pl := by
            rcases Nat.lt_or_ge 8 (st - pl) with q | q
            · exact q
            · exact absurd w (nI_nlt (a := 8) q (by omega))
          rw [(tkK_a hpl hr' h2.2).1 (by rw [hk]; exact hA.2), hk, if_neg (by omega)]; rfl
        · exact absurd h2.1 y
      · exact absurd hA.1 z
    · rcases hA with hA | hA
      · rcases h2 with h2 | h2
        · rw [e11] at w
          have w : st - pl ≤ 8 := by
            rcases Nat.lt_or_ge 8 (st - pl) with q | q
            · exact absurd (nI_lt (a := 8) q (by have := hs.1; omega)) w
            · exact q
          rw [(tkK_a hpl hr' h2.2).1 (by rw [hk]; exact hA.2), hk, if_pos (by omega)]; rfl
        · exact absurd h2.1 y
      · exact absurd hA.1 z
  | succ m ih =>
    intro st A I J hm hp hR hs e11 e12 e15 hA k
    have ec : chr b n st = b st := if_pos (by omega)
    have hn := hs.1
    by_cases z : tAln (b st) = true
    · have e : tRn b n st = tRn b n (st + 1) := tGo_s (by omega) z
      have s1 : st + 1 - pl = (st - pl) + 1 := by omega
      have s2 : pl + (st - pl) = st := by omega
      -- behind 'all'
      have g221 : ∀ A' : Int32, ((A' = 1 ∧ tSame b pl (st + 1 - pl)) ∨ (A' = 0 ∧ ¬ tSame b pl (st + 1 - pl))) → wp S (d + 1) 161 221 [some (.ref 43), some (.int l1), some (.int l2), some (.int A)] [.int A'] (wv x I J) (rV x Q) := by
        intro A' hA'
        have g248 : ∀ J1, Nf5 I J I J1 → J1 43 15 = tPk b pl (min 8 (st + 1 - pl)) → wp S (d + 1) 161 248 [some (.ref 43), some (.int l1), some (.int l2), some (.int A')] [] (wv x I J1) (rV x Q) := by
          intro J1 o1 f15
          have go : ∀ I1, Nf5 I J1 I1 J1 → I1 43 10 = I 43 10 → I1 43 12 = tVl b pl (min 3 (st + 1 - pl)) → I1 43 11 = I 43 11 → I1 43 4 = I 43 4 → wp S (d + 1) 161 181 [some (.ref 43), some (.int l1), some (.int l2), some (.int A')] [] (wv x (mSet (mSet I1 43 11 (I1 43 11 + 1)) 43 4 (I1 43 4 + 1)) J1) (rV x Q) := by
            intro I1 o2 f10 f12 f11 f4
            have oo : Nf5 I J (mSet (mSet I1 43 11 (I1 43 11 + 1)) 43 4 (I1 43 4 + 1)) J1 := o1.tr (o2.tr ((Nf5.s (by omega)).tr (Nf5.s (by omega))))
            refine ih (st + 1) A' _ _ (by omega) (by omega) (by rw [← e]; exact hR) (hs.mv (by omega) (oo.1 44 (by decide)) (oo.2.1 3 (by omega)) (oo.2.1 5 (by omega)) (by show I1 43 4 + 1 = _; rw [f4, hs.2.2.2.2.2.2, nI_succ])) (by show I1 43 11 + 1 = _; rw [f11, e11, s1, nI_succ]) f12 f15 hA' (fun I' J' h => k I' J' ⟨oo.tr h.1, h.2.1, h.2.2.1.trans f10, h.2.2.2⟩)
          refine v161_43_248 ⟨fun y => peekS hs ?_, fun y => ?_⟩
          · rw [e11] at y
            have y : st - pl < 3 := by
              rcases Nat.lt_or_ge (st - pl) 3 with q | q
              · exact q
              · exact absurd y (nI_nlt (b := 3) q (by omega))
            have w := go (mSet I 43 12 (10 * I 43 12 + chr b n st - 48)) (Nf5.s (by omega)) rfl (by
              show 10 * I 43 12 + chr b n st - 48 = _
              rw [ec, e12, show min 3 (st + 1 - pl) = min 3 (st - pl) + 1 by omega, show min 3 (st - pl) = st - pl by omega]
              show _ = tVl b pl (st - pl) * 10 + b (pl + (st - pl)) - 48
              rw [s2, Int32.mul_comm]) rfl rfl
            exact w
          · rw [e11] at y
            have y : 3 ≤ st - pl := by
              rcases Nat.lt_or_ge (st - pl) 3 with q | q
              · exact absurd (nI_lt (b := 3) q (by omega)) y
              · exact q
            exact go I Nf5.rf rfl (by rw [e12, show min 3 (st + 1 - pl) = min 3 (st - pl) by omega]) rfl rfl
        refine v161_43_221 ⟨fun y => peekS hs (g248 _ Nf5.w ?_), fun y => g248 J Nf5.rf ?_⟩
        · rw [e11] at y
          have y : st - pl < 8 := by
            rcases Nat.lt_or_ge (st - pl) 8 with q | q
            · exact q
            · exact absurd y (nI_nlt (b := 8) q (by omega))
          show (J 43 15 <<< ((8 : Int32).toInt64 &&& 63)) ||| (chr b n st).toInt64 = _
          rw [ec, e15, show min 8 (st + 1 - pl) = min 8 (st - pl) + 1 by omega, show min 8 (st - pl) = st - pl by omega]
          show _ = (tPk b pl (st - pl) <<< ((8 : Int32).toInt64 &&& 63)) ||| (b (pl + (st - pl))).toInt64
          rw [s2]
        · rw [e11] at y
          have y : 8 ≤ st - pl := by
            rcases Nat.lt_or_ge (st - pl) 8 with q | q
            · exact absurd (nI_lt (b := 8) q (by omega)) y
            · exact q
          rw [e15, show min 8 (st + 1 - pl) = min 8 (st - pl) by omega]
      have an : ∀ r : Int32, ((r = 1 ∧ tAlp (b st) = true) ∨ (r = 0 ∧ tAlp (b st) = false)) → ¬ A = 0 → (r = l2 → wp S (d + 1) 161 221 [some (.ref 43), some (.int l1), some (.int l2), some (.int A)] [.int 1] (wv x I J) (rV x Q)) ∧ (¬ r = l2 → wp S (d + 1) 161 221 [some (.ref 43), some (.int l1), some (.int l2), some (.int A)] [.int 0] (wv x I J) (rV x Q)) := by
        intro r hr1 hA0
        have hS : tSame b pl (st - pl) := by
          rcases hA with hA | hA
          · exact hA.2
          · exact absurd hA.1 hA0
        have q : r = l2 ↔ tAlp (b st) = tAlp (b pl) := by
          rcases hr1 with ⟨q1, q2⟩ | ⟨q1, q2⟩ <;> rcases h2 with ⟨q3, q4⟩ | ⟨q3, q4⟩ <;> rw [q1, q2, q3, q4] <;> decide
        refine ⟨fun y => g221 1 (Or.inl ⟨rfl, ?_⟩), fun y => g221 0 (Or.inr ⟨rfl, ?_⟩)⟩
        · rw [s1, tSame_s, s2]
          exact ⟨hS, q.mp y⟩
        · rw [s1, tSame_s, s2]
          exact fun w => y (q.mpr w.2)
      have a0 : A = 0 → wp S (d + 1) 161 221 [some (.ref 43), some (.int l1), some (.int l2), some (.int A)] [.int 0] (wv x I J) (rV x Q) := by
        intro y
        refine g221 0 (Or.inr ⟨rfl, ?_⟩)
        rw [s1, tSame_s]
        rcases hA with hA | hA
        · rw [hA.1] at y; exact absurd y (by decide)
        · exact fun w => hA.2 w.1
      refine v161_43_181 (peekS hs (smallS (fun y => ⟨fun q => absurd q (by decide), fun _ => ⟨a0, fun w => peekS hs (smallS (fun _ => an 1 (Or.inl ⟨rfl, by rw [ec] at y; exact y⟩) w) (fun q => absurd (y.symm.trans q) (by decide)))⟩⟩) (fun y => ⟨fun _ => peekS hs (digitS (fun _ => ⟨fun q => absurd q (by decide), fun _ => ⟨a0, fun w => peekS hs (smallS (fun q => absurd (q.symm.trans y) (by decide)) (fun _ => an 0 (Or.inr ⟨rfl, by rw [ec] at y; exact y⟩) w))⟩⟩) (fun q => ?_)), fun q => absurd rfl q⟩)))
      rw [ec] at y q
      have := tAln_x z
      rw [y, q] at this
      cases this
    · have e : tRn b n st = st := tGo_e (fun q => z q.2)
      have na : tAlp (b st) = false ∧ tDgt (b st) = false := by
        unfold tAln at z
        cases q1 : tAlp (b st)
        · cases q2 : tDgt (b st)
          · exact ⟨rfl, rfl⟩
          · rw [q1, q2] at z; exact absurd rfl z
        · rw [q1] at z; exact absurd rfl z
      have f : ∀ v, v = tokOf (tkK b n lim pl) → Q (mSet I 43 9 v) J := fun v hv => k _ _ ⟨Nf5.s (by omega), by show I 43 4 = _; rw [hs.2.2.2.2.2.2, ← hR, e], rfl, hv, by show I 43 11 = _; rw [e11, ← hR, e], by show I 43 12 = _; rw [e12, ← hR, e], by rw [e15, ← hR, e]⟩
      refine v161_43_181 (peekS hs (smallS (fun q => absurd q (by rw [ec, na.1]; decide)) (fun _ => ⟨fun _ => peekS hs (digitS (fun q => absurd q (by rw [ec, na.2]; decide)) (fun _ => ⟨fun _ => ?_, fun q => absurd rfl q⟩)), fun q => absurd rfl q⟩)))
      have hk : tRn b n pl - pl = st - pl := by rw [← hR, e]
      have hr' : pl < tRn b n pl := hr
      refine ⟨fun z => f _ ?_, fun z => ⟨fun y => ⟨fun w => f _ ?_, fun w => ⟨fun _ => f _ ?_, fun q => absurd y q⟩⟩, fun y => ⟨fun w => f _ ?_, fun w => ⟨fun q => absurd q y, fun _ => f _ ?_⟩⟩⟩⟩
      · rcases hA with hA | hA
        · rw [hA.1] at z; exact absurd z (by decide)
        · rcases h2 with h2 | h2
          · rw [(tkK_a hpl hr' h2.2).2 (by rw [hk]; exact hA.2)]; rfl
          · rw [(tkK_d hpl hr' h2.2).2 (by rw [hk]; exact hA.2)]; rfl
      · rcases hA with hA | hA
        · rcases h2 with h2 | h2
          · rw [h2.1] at y; exact absurd y (by decide)
          · rw [e11] at w
            have w : 3 < st - pl := by
              rcases Nat.lt_or_ge 3 (st - pl) with q | q
              · exact q
              · exact absurd w (nI_nlt (a := 3) q (by omega))
            rw [(tkK_d hpl hr' h2.2).1 (by rw [hk]; exact hA.2), hk, if_neg (by omega)]; rfl
        · exact absurd hA.1 z
      · rcases hA with hA | hA
        · rcases h2 with h2 | h2
          · rw [h2.1] at y; exact absurd y (by decide)
          · rw [e11] at w
            have w : st - pl ≤ 3 := by
              rcases Nat.lt_or_ge 3 (st - pl) with q | q
              · exact absurd (nI_lt (a := 3) q (by omega)) w
              · exact q
            rw [(tkK_d hpl hr' h2.2).1 (by rw [hk]; exact hA.2), hk, if_pos (by omega)]; rfl
        · exact absurd hA.1 z
      · rcases hA with hA | hA
        · rcases h2 with h2 | h2
          · rw [e11] at w
            have w : 8 < st - pl := by
              rcases Nat.lt_or_ge 8 (st - pl) with q | q
              · exact q
              · exact absurd w (nI_nlt (a := 8) q (by omega))
            rw [(tkK_a hpl hr' h2.2).1 (by rw [hk]; exact hA.2), hk, if_neg (by omega)]; rfl
          · exact absurd h2.1 y
        · exact absurd hA.1 z
      · rcases hA with hA | hA
        · rcases h2 with h2 | h2
          · rw [e11] at w
            have w : st - pl ≤ 8 := by
              rcases Nat.lt_or_ge 8 (st - pl) with q | q
              · exact absurd (nI_lt (a := 8) q (by omega)) w
              · exact q
            rw [(tkK_a hpl hr' h2.2).1 (by rw [hk]; exact hA.2), hk, if_pos (by omega)]; rfl
          · exact absurd h2.1 y
        · exact absurd hA.1 z
end TM0
end
