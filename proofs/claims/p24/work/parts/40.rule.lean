/-! rules: a new cell, the throw, the law's script and helpers -/
def xA (x : mX) (q : Nat × Nat) (n : Nat) : mX := (x.1 ++ [q], va_up x.2.1 (68 + x.1.length) (fun _ => none), x.2.2.1 + 1, x.2.2.2 + n)
theorem RRk_up {kf : Nat → Nat → Option Nat} {n : Nat} {g : Nat → Option Nat} (h : 68 ≤ n) : va_up (RRk kf) n g = RRk (va_up kf n g) := by
  funext a
  unfold va_up RRk
  by_cases ha : a = n
  · subst ha
    rw [if_pos rfl, show (Nat.beq a 27 || Nat.ble 68 a) = true from by rw [Bool.or_eq_true]; exact Or.inr (Nat.ble_eq_true_of_le h)]
    dsimp only
    rw [if_pos rfl]
  · rw [if_neg ha]
    dsimp only
    rw [if_neg ha]
theorem SHL_len : SHL.length = 68 := rfl
theorem mNew_wv {x : mX} {I : rI0} {J : rJ0} {q : Nat × Nat} {n : Nat} : mNew (wv x I J) q n = wv (xA x q n) (va_up I (68 + x.1.length) (fun _ => 0)) (va_up J (68 + x.1.length) (fun _ => 0)) := by
  have hl : (wv x I J).1.length = 68 + x.1.length := by show (SHL ++ x.1).length = _; rw [List.length_append, SHL_len]
  unfold mNew
  rw [hl]
  unfold wv xA
  dsimp only
  rw [RRk_up (by omega), List.append_assoc]
/-- an end that may be a throw -/
def rT (x : mX) (T : mX → rI0 → rJ0 → Prop) (Q : Int32 → rI0 → rJ0 → Prop) : mO → mW → Prop := fun o w => (∃ v I J, o = some (some (.int v)) ∧ w = wv x I J ∧ Q v I J) ∨ (∃ x1 I J, o = none ∧ w = wv x1 I J ∧ T x1 I J)
/-- an end with more cells -/
def rX (Q : mX → Int32 → rI0 → rJ0 → Prop) : mO → mW → Prop := fun o w => ∃ x v I J, o = some (some (.int v)) ∧ w = wv x I J ∧ Q x v I J
abbrev wcT (S : Nat × (Nat → Int32)) (d mj : Nat) (as : List Value) (x : mX) (I : rI0) (J : rJ0) (T : mX → rI0 → rJ0 → Prop) (Q : Int32 → rI0 → rJ0 → Prop) : Prop := wc S d mj as (wv x I J) (rT x T Q)
abbrev wcX (S : Nat × (Nat → Int32)) (d mj : Nat) (as : List Value) (x : mX) (I : rI0) (J : rJ0) (Q : mX → Int32 → rI0 → rJ0 → Prop) : Prop := wc S d mj as (wv x I J) (rX Q)
section RULE
variable {S : Nat × (Nat → Int32)} {d mi pc : Nat} {Lo : mL} {st r : List Value} {x : mX} {I : rI0} {J : rJ0} {Q : mO → mW → Prop}
theorem we_iT {v : Int32} {T : mX → rI0 → rJ0 → Prop} {Q : Int32 → rI0 → rJ0 → Prop} (hc : cod mi pc = some (.ireturn, 1)) (hr : (gMe mi).2.2.2.1 = some .int) (k : Q v I J) : wp S d mi pc Lo [.int v] (wv x I J) (rT x T Q) := wp_iret hc (Or.inl hr) (Or.inl ⟨v, I, J, rfl, rfl, k⟩)
theorem we_t {k1 : Nat} {T : mX → rI0 → rJ0 → Prop} {Q : Int32 → rI0 → rJ0 → Prop} (hc : cod mi pc = some (.new k1, 3)) (hn : mLk gNew (gO mi) k1 = some 11) (h8 : mCat st ≤ 8) (k : 68 + x.1.length < 1000000 ∧ T (xA x (0, 11) 6) (va_up I (68 + x.1.length) (fun _ => 0)) (va_up J (68 + x.1.length) (fun _ => 0))) : wp S d mi pc Lo st (wv x I J) (rT x T Q) := by
  refine wp_thr hc hn ?_ h8 (Or.inr ⟨xA x (0, 11) 6, _, _, rfl, mNew_wv, k.2⟩)
  show (SHL ++ x.1).length < 1000000
  rw [List.length_append, SHL_len]
  exact k.1
theorem wa_s {j : Int32} (hc : cod 0 pc = some (.iaload, 1)) (ho : ¬ mOut j S.1) (k : wp S d 0 (pc + 1) Lo (.int (S.2 j.toNatClampNeg) :: r) (wv x I J) Q) : wp S d 0 pc Lo (.int j :: .ref mScr :: r) (wv x I J) Q := by
  refine wp_st hc ?_ k
  show mIal S 0 Lo (.int j :: .ref mScr :: r) (wv x I J) = _
  unfold mIal
  dsimp only
  rw [if_pos ⟨rfl, rfl⟩]
  exact if_neg ho
theorem wl_len (hc : cod 0 pc = some (.arraylength, 1)) (k : wp S d 0 (pc + 1) Lo (.int (Int32.ofNat S.1) :: r) (wv x I J) Q) : wp S d 0 pc Lo (.ref mScr :: r) (wv x I J) Q := by
  refine wp_st hc ?_ k
  show mAln S 0 Lo (.ref mScr :: r) (wv x I J) = _
  unfold mAln
  dsimp only
  rw [if_pos ⟨rfl, rfl⟩]
/-- the law's helpers -/
theorem ch_T {k1 mj nn : Nat} {p0 p1 : Int32} (hc : cod mi pc = some (.invokestatic k1, 3)) (hg : mLk gCall (gO mi) k1 = some (mj, nn)) (hp : (gMe mj).2.2.2.2.2.1 = 4) (hk : (gMe mj).2.2.2.2.2.2 = 0 ∧ mj < 1000 ∧ mCat r ≤ 8 ∧ 4 ≤ (gMe mj).2.2.1) (hh : 246 ≤ mj ∧ mj ≤ 248) (k : wcT S (d + 6) (mHelp mj) [.ref 0, .int p0, .int p1] x I J (fun x I J => wp S (d + 8) mi (pc + 3) Lo (.int 1 :: r) (wv x I J) Q) (fun v I J => wp S (d + 8) mi (pc + 3) Lo (.int 0 :: r) (wv x I (mSet J 67 0 v.toInt64)) Q)) : wp S (d + 8) mi pc Lo (.ref 67 :: .int p1 :: .int p0 :: .ref 0 :: r) (wv x I J) Q := by
  obtain ⟨n1, o1, w1, h1, h2⟩ := k
  have hst : st1 S (d + 8) mi (.invokestatic k1) Lo (.ref 67 :: .int p1 :: .int p0 :: .ref 0 :: r) (wv x I J) = none := by
    show mIst (d + 8) mi k1 Lo (.ref 67 :: .int p1 :: .int p0 :: .ref 0 :: r) (wv x I J) = none
    unfold mIst
    rw [hg]
    have : mj ≠ 1001 ∧ mj ≠ 1005 ∧ mj ≠ 1006 ∧ mj ≠ 1007 := by omega
    split
    · rename_i h; cases h; exact absurd rfl this.1
    · rename_i h; cases h; exact absurd rfl this.2.1
    · rename_i h; cases h; exact absurd rfl this.2.2.1
    · rename_i h; cases h; exact absurd rfl this.2.2.2
    · rfl
  have hq : (wS (wv x I J))[67]? = some (4, 1) := rfl
  have h0 : (wS (wv x I J))[0]? = some (0, 9) := rfl
  rcases h2 with ⟨v, I1, J1, rfl, rfl, n2, o2, w2, h3, h4⟩ | ⟨x1, I1, J1, rfl, rfl, n2, o2, w2, h3, h4⟩
  · refine ⟨n1 + n2 + 1, o2, w2, ?_, h4⟩
    unfold ex
    rw [hc]
    dsimp only
    rw [hst, hg]
    dsimp only
    rw [hp]
    show (if (gMe mj).2.2.2.2.2.2 = 0 ∧ mj < 1000 ∧ mCat r ≤ 8 ∧ 4 ≤ (gMe mj).2.2.1 then _ else _) = _
    rw [if_pos hk, if_pos hh]
    simp only [List.nil_append, List.cons_append]
    rw [hq, h0]
    try dsimp only
    rw [ex_le h1 (by omega : n1 ≤ n1 + n2)]
    exact ex_le h3 (by omega)
  · refine ⟨n1 + n2 + 1, o2, w2, ?_, h4⟩
    unfold ex
    rw [hc]
    dsimp only
    rw [hst, hg]
    dsimp only
    rw [hp]
    show (if (gMe mj).2.2.2.2.2.2 = 0 ∧ mj < 1000 ∧ mCat r ≤ 8 ∧ 4 ≤ (gMe mj).2.2.1 then _ else _) = _
    rw [if_pos hk, if_pos hh]
    simp only [List.nil_append, List.cons_append]
    rw [hq, h0]
    try dsimp only
    rw [ex_le h1 (by omega : n1 ≤ n1 + n2)]
    exact ex_le h3 (by omega)
theorem cv_X {k1 mj a : Nat} {as : List Value} (hc : cod mi pc = some (.invokevirtual k1, 3)) (hg : mLk gCall (gO mi) k1 = some (mj, 0)) (hp : mPop ((gMe mj).2.2.2.2.2.1 + 1) st = some (.ref a :: as, r)) (hk : (gMe mj).2.2.2.2.2.2 = 1 ∧ mj < 1000 ∧ mCat r ≤ 8 ∧ (mArg (.ref a :: as)).length ≤ (gMe mj).2.2.1) (hs : (SHL ++ x.1)[a]? = some (0, gO mj)) (k : wcX S d mj (.ref a :: as) x I J (fun x v I J => wp S (d + 1) mi (pc + 3) Lo (.int v :: r) (wv x I J) Q)) : wp S (d + 1) mi pc Lo st (wv x I J) Q := by
  refine wp_cv hc hg hp hk hs (wc_mono k ?_)
  rintro o w ⟨x1, v, I1, J1, rfl, rfl, h⟩
  exact ⟨some (.int v), rfl, h⟩
end RULE
