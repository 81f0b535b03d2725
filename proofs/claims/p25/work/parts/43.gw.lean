/-! rules of the small machine over any world; Arrays.fill; the reference's first loops -/
section GW
variable {S : Nat × (Nat → Int32)} {d mi pc : Nat} {Lo : mL} {st r : List Value} {w : mW} {Q : mO → mW → Prop}
theorem gw_iald {a n : Nat} {j : Int32} (hc : cod mi pc = some (.iaload, 1)) (ha : a ≠ mScr) (hs : (wS w)[a]? = some (1, n)) (hj : ¬ mOut j n) (k : wp S d mi (pc + 1) Lo (.int (wI w a j.toNatClampNeg) :: r) w Q) : wp S d mi pc Lo (.int j :: .ref a :: r) w Q := by
  refine wp_st hc ?_ k
  show mIal S mi Lo (.int j :: .ref a :: r) w = _
  unfold mIal
  dsimp only
  rw [if_neg (fun h => ha h.1), hs]
  exact if_neg hj
theorem gw_iast {a n : Nat} {j v : Int32} (hc : cod mi pc = some (.iastore, 1)) (hs : (wS w)[a]? = some (1, n)) (hj : ¬ mOut j n) (k : wp S d mi (pc + 1) Lo r (wsI w (mSet (wI w) a j.toNatClampNeg v)) Q) : wp S d mi pc Lo (.int v :: .int j :: .ref a :: r) w Q := by
  refine wp_st hc ?_ k
  show mIas Lo (.int v :: .int j :: .ref a :: r) w = _
  unfold mIas
  dsimp only
  rw [hs]
  exact if_neg hj
theorem gw_last {a n : Nat} {j : Int32} {v : Int64} (hc : cod mi pc = some (.lastore, 1)) (hs : (wS w)[a]? = some (4, n)) (hj : ¬ mOut j n) (k : wp S d mi (pc + 1) Lo r (wsJ w (mSet (wJ w) a j.toNatClampNeg v)) Q) : wp S d mi pc Lo (.long v :: .int j :: .ref a :: r) w Q := by
  refine wp_st hc ?_ k
  show mLas Lo (.long v :: .int j :: .ref a :: r) w = _
  unfold mLas
  dsimp only
  rw [hs]
  exact if_neg hj
theorem gw_alen {a n : Nat} (hc : cod mi pc = some (.arraylength, 1)) (hm : mi ≠ 0) (hs : (wS w)[a]? = some (1, n) ∨ (wS w)[a]? = some (4, n)) (k : wp S d mi (pc + 1) Lo (.int (Int32.ofNat n) :: r) w Q) : wp S d mi pc Lo (.ref a :: r) w Q := by
  refine wp_st hc ?_ k
  show mAln S mi Lo (.ref a :: r) w = _
  unfold mAln
  dsimp only
  rw [if_neg (fun h => hm h.2)]
  rcases hs with hs | hs
  · rw [hs]
    rfl
  · rw [hs]
    rfl
theorem mSet_up {α : Type} (f : Nat → Nat → α) (a : Nat) (g : Nat → α) (k : Nat) (v : α) : mSet (va_up f a g) a k v = va_up f a (va_up g k v) := by
  funext i j
  unfold mSet va_up
  by_cases h : i = a
  · simp [h]
  · simp [h]
theorem fill_nx {α : Type} (g : Nat → α) (k : Nat) (v : α) : va_up (fun j => if j < k then v else g j) k v = fun j => if j < k + 1 then v else g j := by
  funext j
  unfold va_up
  by_cases h : j = k
  · subst h
    simp
  · rw [if_neg h]
    dsimp only
    by_cases h2 : j < k
    · rw [if_pos h2, if_pos (by omega)]
    · rw [if_neg h2, if_neg (by omega)]
theorem fill_0 {α : Type} (g : Nat → α) (v : α) : (fun j => if j < 0 then v else g j) = g := by
  funext j
  rw [if_neg (by omega)]
theorem up_self {α : Type} (f : Nat → Nat → α) (a : Nat) : va_up f a (f a) = f := by
  funext i
  unfold va_up
  by_cases h : i = a
  · subst h; simp
  · simp [h]
theorem fillI_lp {a n : Nat} {v : Int32} (hs : (wS w)[a]? = some (1, n)) (hn : n < 2 ^ 31) (kk : Q (some none) (wsI w (va_up (wI w) a (fun j => if j < n then v else wI w a j)))) : ∀ m k : Nat, k + m = n → wp S d 252 5 [some (.ref a), some (.int v), some (.int (nI k)), some (.int (nI n))] [] (wsI w (va_up (wI w) a (fun j => if j < k then v else wI w a j))) Q := by
  intro m
  induction m with
  | zero =>
    intro k hk
    have hk : k = n := by omega
    subst hk
    refine wp_seg (C := gC252) (pc1 := 7) (Lo1 := [some (.ref a), some (.int v), some (.int (nI k)), some (.int (nI k))]) (st1' := [.int (nI k), .int (nI k)]) (w1 := wsI w (va_up (wI w) a (fun j => if j < k then v else wI w a j))) rfl 2 rfl ?_
    refine wp_ic (c := .ge) (off := 13) rfl ⟨fun h => absurd h (nI_nlt (Nat.le_refl k) hn), fun _ => ?_⟩
    exact wp_vret (mi := 252) (pc := 20) rfl rfl kk
  | succ m ih =>
    intro k hk
    refine wp_seg (C := gC252) (pc1 := 7) (Lo1 := [some (.ref a), some (.int v), some (.int (nI k)), some (.int (nI n))]) (st1' := [.int (nI n), .int (nI k)]) (w1 := wsI w (va_up (wI w) a (fun j => if j < k then v else wI w a j))) rfl 2 rfl ?_
    refine wp_ic (c := .ge) (off := 13) rfl ⟨fun _ => ?_, fun h => absurd (nI_lt (by omega) hn) h⟩
    refine wp_seg (C := gC252) (pc1 := 13) (Lo1 := [some (.ref a), some (.int v), some (.int (nI k)), some (.int (nI n))]) (st1' := [.int v, .int (nI k), .ref a]) (w1 := wsI w (va_up (wI w) a (fun j => if j < k then v else wI w a j))) rfl 3 rfl ?_
    refine gw_iast (n := n) rfl hs (nI_in (by omega) hn) ?_
    refine wp_seg (C := gC252) (pc1 := 5) (Lo1 := [some (.ref a), some (.int v), some (.int (nI k + 1)), some (.int (nI n))]) (st1' := []) (w1 := wsI w (mSet (va_up (wI w) a (fun j => if j < k then v else wI w a j)) a (nI k).toNatClampNeg v)) rfl 2 rfl ?_
    have h := ih (k + 1) (by omega)
    rw [nI_clamp (by omega), mSet_up, fill_nx, ← nI_succ]
    exact h
theorem fillI {a n : Nat} {v : Int32} (hs : (wS w)[a]? = some (1, n)) (hn : n < 2 ^ 31) (kk : Q (some none) (wsI w (va_up (wI w) a (fun j => if j < n then v else wI w a j)))) : wc S d 252 [.ref a, .int v] w Q := by
  show wp S d 252 0 [some (.ref a), some (.int v), none, none] [] w Q
  refine wp_seg (C := gC252) (pc1 := 3) (Lo1 := [some (.ref a), some (.int v), some (.int (nI 0)), none]) (st1' := [.ref a]) (w1 := w) rfl 3 rfl ?_
  refine gw_alen (n := n) rfl (by decide) (Or.inl hs) ?_
  refine wp_seg (C := gC252) (pc1 := 5) (Lo1 := [some (.ref a), some (.int v), some (.int (nI 0)), some (.int (nI n))]) (st1' := []) (w1 := w) rfl 1 rfl ?_
  have h := fillI_lp (S := S) (d := d) hs hn kk n 0 (by omega)
  rw [fill_0, up_self] at h
  exact h
theorem fillJ_lp {a n : Nat} {v : Int64} (hs : (wS w)[a]? = some (4, n)) (hn : n < 2 ^ 31) (kk : Q (some none) (wsJ w (va_up (wJ w) a (fun j => if j < n then v else wJ w a j)))) : ∀ m k : Nat, k + m = n → wp S d 251 6 [some (.ref a), some (.long v), none, some (.int (nI k)), some (.int (nI n))] [] (wsJ w (va_up (wJ w) a (fun j => if j < k then v else wJ w a j))) Q := by
  intro m
  induction m with
  | zero =>
    intro k hk
    have hk : k = n := by omega
    subst hk
    refine wp_seg (C := gC251) (pc1 := 9) (Lo1 := [some (.ref a), some (.long v), none, some (.int (nI k)), some (.int (nI k))]) (st1' := [.int (nI k), .int (nI k)]) (w1 := wsJ w (va_up (wJ w) a (fun j => if j < k then v else wJ w a j))) rfl 2 rfl ?_
    refine wp_ic (c := .ge) (off := 13) rfl ⟨fun h => absurd h (nI_nlt (Nat.le_refl k) hn), fun _ => ?_⟩
    exact wp_vret (mi := 251) (pc := 22) rfl rfl kk
  | succ m ih =>
    intro k hk
    refine wp_seg (C := gC251) (pc1 := 9) (Lo1 := [some (.ref a), some (.long v), none, some (.int (nI k)), some (.int (nI n))]) (st1' := [.int (nI n), .int (nI k)]) (w1 := wsJ w (va_up (wJ w) a (fun j => if j < k then v else wJ w a j))) rfl 2 rfl ?_
    refine wp_ic (c := .ge) (off := 13) rfl ⟨fun _ => ?_, fun h => absurd (nI_lt (by omega) hn) h⟩
    refine wp_seg (C := gC251) (pc1 := 15) (Lo1 := [some (.ref a), some (.long v), none, some (.int (nI k)), some (.int (nI n))]) (st1' := [.long v, .int (nI k), .ref a]) (w1 := wsJ w (va_up (wJ w) a (fun j => if j < k then v else wJ w a j))) rfl 3 rfl ?_
    refine gw_last (n := n) rfl hs (nI_in (by omega) hn) ?_
    refine wp_seg (C := gC251) (pc1 := 6) (Lo1 := [some (.ref a), some (.long v), none, some (.int (nI k + 1)), some (.int (nI n))]) (st1' := []) (w1 := wsJ w (mSet (va_up (wJ w) a (fun j => if j < k then v else wJ w a j)) a (nI k).toNatClampNeg v)) rfl 2 rfl ?_
    have h := ih (k + 1) (by omega)
    rw [nI_clamp (by omega), mSet_up, fill_nx, ← nI_succ]
    exact h
theorem fillJ {a n : Nat} {v : Int64} (hs : (wS w)[a]? = some (4, n)) (hn : n < 2 ^ 31) (kk : Q (some none) (wsJ w (va_up (wJ w) a (fun j => if j < n then v else wJ w a j)))) : wc S d 251 [.ref a, .long v] w Q := by
  show wp S d 251 0 [some (.ref a), some (.long v), none, none, none] [] w Q
  refine wp_seg (C := gC251) (pc1 := 3) (Lo1 := [some (.ref a), some (.long v), none, some (.int (nI 0)), none]) (st1' := [.ref a]) (w1 := w) rfl 3 rfl ?_
  refine gw_alen (n := n) rfl (by decide) (Or.inr hs) ?_
  refine wp_seg (C := gC251) (pc1 := 6) (Lo1 := [some (.ref a), some (.long v), none, some (.int (nI 0)), some (.int (nI n))]) (st1' := []) (w1 := w) rfl 1 rfl ?_
  have h := fillJ_lp (S := S) (d := d) hs hn kk n 0 (by omega)
  rw [fill_0, up_self] at h
  exact h
theorem gw_getR {x a ci k b : Nat} (hc : cod mi pc = some (.getfield x, 3)) (hl : mLk gF (gO mi) x = some (ci, k)) (hk : gKi ci k = 2) (hs : (wS w)[a]? = some (0, ci)) (hr : wR w a k = some b) (kk : wp S d mi (pc + 3) Lo (.ref b :: r) w Q) : wp S d mi pc Lo (.ref a :: r) w Q := by
  refine wp_st hc ?_ kk
  show mGet mi x Lo (.ref a :: r) w = _
  unfold mGet
  dsimp only
  rw [hl]
  dsimp only
  rw [if_pos hs, hk]
  show some (Lo, mRf (wR w a k) :: r, w) = _
  rw [hr]
  rfl
/-- the reference's plain house, over any world -/
def plainR (g : Nat → Int32) : Nat → Int32 := fun j => if j < 590 then (if j = 4 then 600 else if j = 3 then 1 else if 70 ≤ j ∧ j < 78 then 10 else 0) else g j
theorem plain_eq (g : Nat → Int32) : va_up (va_up (fun j => if 70 ≤ j ∧ j < 70 + 8 then 10 else if j < 590 then 0 else g j) 3 1) 4 600 = plainR g := by
  funext j
  unfold va_up plainR
  by_cases h4 : j = 4
  · subst h4; rfl
  · rw [if_neg h4]
    by_cases h3 : j = 3
    · subst h3; rfl
    · rw [if_neg h3]
      dsimp only
      by_cases h7 : 70 ≤ j ∧ j < 70 + 8
      · rw [if_pos h7, if_pos (by omega), if_neg h4, if_neg h3, if_pos (by omega)]
      · rw [if_neg h7]
        by_cases h5 : j < 590
        · rw [if_pos h5, if_pos h5, if_neg h4, if_neg h3, if_neg (by omega)]
        · rw [if_neg h5, if_neg h5]
theorem band_nx {α : Type} (g : Nat → α) (p k : Nat) (v : α) : va_up (fun j => if p ≤ j ∧ j < p + k then v else g j) (p + k) v = fun j => if p ≤ j ∧ j < p + (k + 1) then v else g j := by
  funext j
  unfold va_up
  by_cases h : j = p + k
  · rw [if_pos h, if_pos (by omega)]
  · rw [if_neg h]
    dsimp only
    by_cases h2 : p ≤ j ∧ j < p + k
    · rw [if_pos h2, if_pos (by omega)]
    · rw [if_neg h2, if_neg (by omega)]
theorem band_0 {α : Type} (g : Nat → α) (p : Nat) (v : α) : (fun j => if p ≤ j ∧ j < p + 0 then v else g j) = g := by
  funext j
  rw [if_neg (by omega)]
set_option maxRecDepth 20000 in
theorem plain_lp1 {b : Nat} (hm : (wS w)[43]? = some (0, 10)) (hr : wR w 43 7 = some b) (hs : (wS w)[b]? = some (1, 590)) (kk : wp S d 157 22 [some (.ref 43), some (.int (nI 590))] [] (wsI w (va_up (wI w) b (fun j => if j < 590 then 0 else wI w b j))) Q) : ∀ m k : Nat, k + m = 590 → wp S d 157 2 [some (.ref 43), some (.int (nI k))] [] (wsI w (va_up (wI w) b (fun j => if j < k then 0 else wI w b j))) Q := by
  intro m
  induction m with
  | zero =>
    intro k hk
    have hk : k = 590 := by omega
    subst hk
    refine wp_seg (C := gC157) (pc1 := 6) (Lo1 := [some (.ref 43), some (.int (nI 590))]) (st1' := [.int (nI 590), .int (nI 590)]) (w1 := wsI w (va_up (wI w) b (fun j => if j < 590 then 0 else wI w b j))) rfl 2 rfl ?_
    refine wp_ic (c := .ge) (off := 16) rfl ⟨fun h => absurd h (nI_nlt (Nat.le_refl 590) (by omega)), fun _ => ?_⟩
    exact kk
  | succ m ih =>
    intro k hk
    refine wp_seg (C := gC157) (pc1 := 6) (Lo1 := [some (.ref 43), some (.int (nI k))]) (st1' := [.int (nI 590), .int (nI k)]) (w1 := wsI w (va_up (wI w) b (fun j => if j < k then 0 else wI w b j))) rfl 2 rfl ?_
    refine wp_ic (c := .ge) (off := 16) rfl ⟨fun _ => ?_, fun h => absurd (nI_lt (by omega) (by omega)) h⟩
    refine wp_seg (C := gC157) (pc1 := 10) (Lo1 := [some (.ref 43), some (.int (nI k))]) (st1' := [.ref 43]) (w1 := wsI w (va_up (wI w) b (fun j => if j < k then 0 else wI w b j))) rfl 1 rfl ?_
    refine gw_getR (ci := 10) (k := 7) (b := b) rfl rfl rfl hm hr ?_
    refine wp_seg (C := gC157) (pc1 := 15) (Lo1 := [some (.ref 43), some (.int (nI k))]) (st1' := [.int (0 : Int32), .int (nI k), .ref b]) (w1 := wsI w (va_up (wI w) b (fun j => if j < k then 0 else wI w b j))) rfl 2 rfl ?_
    refine gw_iast (n := 590) rfl hs (nI_in (by omega) (by omega)) ?_
    refine wp_seg (C := gC157) (pc1 := 2) (Lo1 := [some (.ref 43), some (.int (nI k + 1))]) (st1' := []) (w1 := wsI w (mSet (va_up (wI w) b (fun j => if j < k then 0 else wI w b j)) b (nI k).toNatClampNeg 0)) rfl 2 rfl ?_
    have h := ih (k + 1) (by omega)
    rw [nI_clamp (by omega), mSet_up, fill_nx, ← nI_succ]
    exact h
set_option maxRecDepth 20000 in
theorem plain_lp2 {b : Nat} {z : Nat → Int32} (hm : (wS w)[43]? = some (0, 10)) (hr : wR w 43 7 = some b) (hs : (wS w)[b]? = some (1, 590)) (kk : wp S d 157 47 [some (.ref 43), some (.int (nI 8))] [] (wsI w (va_up (wI w) b (fun j => if 70 ≤ j ∧ j < 70 + 8 then 10 else z j))) Q) : ∀ m k : Nat, k + m = 8 → wp S d 157 24 [some (.ref 43), some (.int (nI k))] [] (wsI w (va_up (wI w) b (fun j => if 70 ≤ j ∧ j < 70 + k then 10 else z j))) Q := by
  intro m
  induction m with
  | zero =>
    intro k hk
    have hk : k = 8 := by omega
    subst hk
    refine wp_seg (C := gC157) (pc1 := 27) (Lo1 := [some (.ref 43), some (.int (nI 8))]) (st1' := [.int (nI 8), .int (nI 8)]) (w1 := wsI w (va_up (wI w) b (fun j => if 70 ≤ j ∧ j < 70 + 8 then 10 else z j))) rfl 2 rfl ?_
    refine wp_ic (c := .ge) (off := 20) rfl ⟨fun h => absurd h (nI_nlt (Nat.le_refl 8) (by omega)), fun _ => ?_⟩
    exact kk
  | succ m ih =>
    intro k hk
    refine wp_seg (C := gC157) (pc1 := 27) (Lo1 := [some (.ref 43), some (.int (nI k))]) (st1' := [.int (nI 8), .int (nI k)]) (w1 := wsI w (va_up (wI w) b (fun j => if 70 ≤ j ∧ j < 70 + k then 10 else z j))) rfl 2 rfl ?_
    refine wp_ic (c := .ge) (off := 20) rfl ⟨fun _ => ?_, fun h => absurd (nI_lt (by omega) (by omega)) h⟩
    refine wp_seg (C := gC157) (pc1 := 31) (Lo1 := [some (.ref 43), some (.int (nI k))]) (st1' := [.ref 43]) (w1 := wsI w (va_up (wI w) b (fun j => if 70 ≤ j ∧ j < 70 + k then 10 else z j))) rfl 1 rfl ?_
    refine gw_getR (ci := 10) (k := 7) (b := b) rfl rfl rfl hm hr ?_
    refine wp_seg (C := gC157) (pc1 := 40) (Lo1 := [some (.ref 43), some (.int (nI k))]) (st1' := [.int (10 : Int32), .int (nI 70 + nI k), .ref b]) (w1 := wsI w (va_up (wI w) b (fun j => if 70 ≤ j ∧ j < 70 + k then 10 else z j))) rfl 4 rfl ?_
    rw [nI_add]
    refine gw_iast (n := 590) rfl hs (nI_in (by omega) (by omega)) ?_
    refine wp_seg (C := gC157) (pc1 := 24) (Lo1 := [some (.ref 43), some (.int (nI k + 1))]) (st1' := []) (w1 := wsI w (mSet (va_up (wI w) b (fun j => if 70 ≤ j ∧ j < 70 + k then 10 else z j)) b (nI (70 + k)).toNatClampNeg 10)) rfl 2 rfl ?_
    have h := ih (k + 1) (by omega)
    rw [nI_clamp (by omega), mSet_up, band_nx, ← nI_succ]
    exact h
set_option maxRecDepth 20000 in
theorem plainW {b : Nat} (hm : (wS w)[43]? = some (0, 10)) (hr : wR w 43 7 = some b) (hs : (wS w)[b]? = some (1, 590)) (kk : Q (some none) (wsI w (va_up (wI w) b (plainR (wI w b))))) : wc S d 157 [.ref 43] w Q := by
  show wp S d 157 0 [some (.ref 43), none] [] w Q
  refine wp_seg (C := gC157) (pc1 := 2) (Lo1 := [some (.ref 43), some (.int (nI 0))]) (st1' := []) (w1 := w) rfl 2 rfl ?_
  have h := plain_lp1 (S := S) (d := d) (Q := Q) hm hr hs ?_ 590 0 (by omega)
  · rw [fill_0, up_self] at h
    exact h
  refine wp_seg (C := gC157) (pc1 := 24) (Lo1 := [some (.ref 43), some (.int (nI 0))]) (st1' := []) (w1 := wsI w (va_up (wI w) b (fun j => if j < 590 then 0 else wI w b j))) rfl 2 rfl ?_
  have h := plain_lp2 (S := S) (d := d) (Q := Q) (z := fun j => if j < 590 then 0 else wI w b j) hm hr hs ?_ 8 0 (by omega)
  · rw [band_0] at h
    exact h
  refine wp_seg (C := gC157) (pc1 := 48) (Lo1 := [some (.ref 43), some (.int (nI 8))]) (st1' := [.ref 43]) (w1 := wsI w (va_up (wI w) b (fun j => if 70 ≤ j ∧ j < 70 + 8 then 10 else if j < 590 then 0 else wI w b j))) rfl 1 rfl ?_
  refine gw_getR (ci := 10) (k := 7) (b := b) rfl rfl rfl hm hr ?_
  refine wp_seg (C := gC157) (pc1 := 53) (Lo1 := [some (.ref 43), some (.int (nI 8))]) (st1' := [.int (1 : Int32), .int (nI 3), .ref b]) (w1 := wsI w (va_up (wI w) b (fun j => if 70 ≤ j ∧ j < 70 + 8 then 10 else if j < 590 then 0 else wI w b j))) rfl 2 rfl ?_
  refine gw_iast (n := 590) rfl hs (nI_in (by omega) (by omega)) ?_
  rw [nI_clamp (by omega), mSet_up]
  refine wp_seg (C := gC157) (pc1 := 55) (Lo1 := [some (.ref 43), some (.int (nI 8))]) (st1' := [.ref 43]) (w1 := wsI w (va_up (wI w) b (va_up (fun j => if 70 ≤ j ∧ j < 70 + 8 then 10 else if j < 590 then 0 else wI w b j) 3 1))) rfl 1 rfl ?_
  refine gw_getR (ci := 10) (k := 7) (b := b) rfl rfl rfl hm hr ?_
  refine wp_seg (C := gC157) (pc1 := 62) (Lo1 := [some (.ref 43), some (.int (nI 8))]) (st1' := [.int (600 : Int32), .int (nI 4), .ref b]) (w1 := wsI w (va_up (wI w) b (va_up (fun j => if 70 ≤ j ∧ j < 70 + 8 then 10 else if j < 590 then 0 else wI w b j) 3 1))) rfl 2 rfl ?_
  refine gw_iast (n := 590) rfl hs (nI_in (by omega) (by omega)) ?_
  rw [nI_clamp (by omega), mSet_up, plain_eq]
  exact wp_vret (mi := 157) (pc := 63) rfl rfl kk
/-- the copy in the reference's constructor -/
theorem copy_nx {α : Type} (f g : Nat → α) (k : Nat) : va_up (fun j => if j < k then f j else g j) k (f k) = fun j => if j < k + 1 then f j else g j := by
  funext j
  unfold va_up
  by_cases h : j = k
  · subst h
    simp
  · rw [if_neg h]
    dsimp only
    by_cases h2 : j < k
    · rw [if_pos h2, if_pos (by omega)]
    · rw [if_neg h2, if_neg (by omega)]
set_option maxRecDepth 20000 in
theorem copy_lp {b c : Nat} (hbc : b ≠ c) (hb1 : b < 1000000) (hm : (wS w)[43]? = some (0, 10)) (hr : wR w 43 7 = some b) (hr2 : wR w 43 6 = some c) (hs : (wS w)[b]? = some (1, 590)) (hs2 : (wS w)[c]? = some (1, 681)) (kk : Q (some none) (wsI w (va_up (wI w) c (fun j => if j < 590 then wI w b j else wI w c j)))) : ∀ m k : Nat, k + m = 590 → wp S d 156 221 [some (.ref 43), some (.int (nI k))] [] (wsI w (va_up (wI w) c (fun j => if j < k then wI w b j else wI w c j))) Q := by
  intro m
  induction m with
  | zero =>
    intro k hk
    have hk : k = 590 := by omega
    subst hk
    refine wp_seg (C := gC156) (pc1 := 225) (Lo1 := [some (.ref 43), some (.int (nI 590))]) (st1' := [.int (nI 590), .int (nI 590)]) (w1 := wsI w (va_up (wI w) c (fun j => if j < 590 then wI w b j else wI w c j))) rfl 2 rfl ?_
    refine wp_ic (c := .ge) (off := 21) rfl ⟨fun h => absurd h (nI_nlt (Nat.le_refl 590) (by omega)), fun _ => ?_⟩
    exact wp_vret (mi := 156) (pc := 246) rfl rfl kk
  | succ m ih =>
    intro k hk
    refine wp_seg (C := gC156) (pc1 := 225) (Lo1 := [some (.ref 43), some (.int (nI k))]) (st1' := [.int (nI 590), .int (nI k)]) (w1 := wsI w (va_up (wI w) c (fun j => if j < k then wI w b j else wI w c j))) rfl 2 rfl ?_
    refine wp_ic (c := .ge) (off := 21) rfl ⟨fun _ => ?_, fun h => absurd (nI_lt (by omega) (by omega)) h⟩
    refine wp_seg (C := gC156) (pc1 := 229) (Lo1 := [some (.ref 43), some (.int (nI k))]) (st1' := [.ref 43]) (w1 := wsI w (va_up (wI w) c (fun j => if j < k then wI w b j else wI w c j))) rfl 1 rfl ?_
    refine gw_getR (ci := 10) (k := 6) (b := c) rfl rfl rfl hm hr2 ?_
    refine wp_seg (C := gC156) (pc1 := 234) (Lo1 := [some (.ref 43), some (.int (nI k))]) (st1' := [.ref 43, .int (nI k), .ref c]) (w1 := wsI w (va_up (wI w) c (fun j => if j < k then wI w b j else wI w c j))) rfl 2 rfl ?_
    refine gw_getR (ci := 10) (k := 7) (b := b) rfl rfl rfl hm hr ?_
    refine wp_seg (C := gC156) (pc1 := 238) (Lo1 := [some (.ref 43), some (.int (nI k))]) (st1' := [.int (nI k), .ref b, .int (nI k), .ref c]) (w1 := wsI w (va_up (wI w) c (fun j => if j < k then wI w b j else wI w c j))) rfl 1 rfl ?_
    refine gw_iald (n := 590) rfl (by show b ≠ 1000000; omega) hs (nI_in (by omega) (by omega)) ?_
    refine gw_iast (n := 681) rfl hs2 (nI_in (by omega) (by omega)) ?_
    have hv : wI (wsI w (va_up (wI w) c (fun j => if j < k then wI w b j else wI w c j))) b (nI k).toNatClampNeg = wI w b k := by
      rw [nI_clamp (by omega)]
      show va_up (wI w) c _ b k = _
      unfold va_up
      rw [if_neg hbc]
    rw [hv]
    refine wp_seg (C := gC156) (pc1 := 221) (Lo1 := [some (.ref 43), some (.int (nI k + 1))]) (st1' := []) (w1 := wsI w (mSet (va_up (wI w) c (fun j => if j < k then wI w b j else wI w c j)) c (nI k).toNatClampNeg (wI w b k))) rfl 2 rfl ?_
    have h := ih (k + 1) (by omega)
    rw [nI_clamp (by omega), mSet_up, copy_nx, ← nI_succ]
    exact h
end GW
