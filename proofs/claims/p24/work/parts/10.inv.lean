/-! what each plain instruction asks and gives -/
section INV
variable {S : Nat × (Nat → Int32)} {d mi x k : Nat} {Lo : mL} {st : List Value} {w : mW} {q : mL × List Value × mW}
theorem mLdI_inv (h : mLdI Lo k st w = some q) : ∃ x, Lo.getD k none = some (.int x) ∧ q = (Lo, .int x :: st, w) := by
  unfold mLdI at h
  split at h
  · rename_i v hv; cases h; exact ⟨v, hv, rfl⟩
  · cases h
theorem mLdL_inv (h : mLdL Lo k st w = some q) : ∃ x, Lo.getD k none = some (.long x) ∧ q = (Lo, .long x :: st, w) := by
  unfold mLdL at h
  split at h
  · rename_i v hv; cases h; exact ⟨v, hv, rfl⟩
  · cases h
theorem mLdA_inv (h : mLdA Lo k st w = some q) : ∃ x, Lo.getD k none = some (.ref x) ∧ q = (Lo, .ref x :: st, w) := by
  unfold mLdA at h
  split at h
  · rename_i v hv; cases h; exact ⟨v, hv, rfl⟩
  · cases h
theorem mStI_inv (h : mStI Lo k st w = some q) : ∃ x r L, st = .int x :: r ∧ mSt1 Lo k (.int x) = some L ∧ q = (L, r, w) := by
  unfold mStI at h
  split at h
  · split at h
    · rename_i L hL; cases h; exact ⟨_, _, L, rfl, hL, rfl⟩
    · cases h
  · cases h
theorem mStL_inv (h : mStL Lo k st w = some q) : ∃ x r L, st = .long x :: r ∧ mSt2 Lo k (.long x) = some L ∧ q = (L, r, w) := by
  unfold mStL at h
  split at h
  · split at h
    · rename_i L hL; cases h; exact ⟨_, _, L, rfl, hL, rfl⟩
    · cases h
  · cases h
theorem mStA_inv (h : mStA Lo k st w = some q) : ∃ x r L, st = .ref x :: r ∧ mSt1 Lo k (.ref x) = some L ∧ q = (L, r, w) := by
  unfold mStA at h
  split at h
  · split at h
    · rename_i L hL; cases h; exact ⟨_, _, L, rfl, hL, rfl⟩
    · cases h
  · cases h
theorem mInc_inv {n : Int} (h : mInc Lo k n st w = some q) : ∃ x L, Lo.getD k none = some (.int x) ∧ mSt1 Lo k (.int (x + Int32.ofInt n)) = some L ∧ q = (L, st, w) := by
  unfold mInc at h
  split at h
  · rename_i v hv
    split at h
    · rename_i L hL; cases h; exact ⟨v, L, hv, hL, rfl⟩
    · cases h
  · cases h
theorem mDef_inv {i : Instr} (h : mDef i Lo st w = some q) : (∃ x y r v, st = .int y :: .int x :: r ∧ mBin i x y = some v ∧ q = (Lo, .int v :: r, w)) ∨ (∃ x y r v, st = .long y :: .long x :: r ∧ mBiL i x y = some v ∧ q = (Lo, .long v :: r, w)) ∨ (∃ x y r v, st = .int y :: .long x :: r ∧ mShL i x y = some v ∧ q = (Lo, .long v :: r, w)) := by
  unfold mDef at h
  split at h
  · split at h
    · rename_i v hv; cases h; exact Or.inl ⟨_, _, _, v, rfl, hv, rfl⟩
    · cases h
  · split at h
    · rename_i v hv; cases h; exact Or.inr (Or.inl ⟨_, _, _, v, rfl, hv, rfl⟩)
    · cases h
  · split at h
    · rename_i v hv; cases h; exact Or.inr (Or.inr ⟨_, _, _, v, rfl, hv, rfl⟩)
    · cases h
  · cases h
theorem mUnI_inv {f : Int32 → Value} (h : mUnI f Lo st w = some q) : ∃ x r, st = .int x :: r ∧ q = (Lo, f x :: r, w) := by
  unfold mUnI at h
  split at h
  · cases h; exact ⟨_, _, rfl, rfl⟩
  · cases h
theorem mUnL_inv {f : Int64 → Value} (h : mUnL f Lo st w = some q) : ∃ x r, st = .long x :: r ∧ q = (Lo, f x :: r, w) := by
  unfold mUnL at h
  split at h
  · cases h; exact ⟨_, _, rfl, rfl⟩
  · cases h
theorem mCmp_inv (h : mCmp Lo st w = some q) : ∃ x y r, st = .long y :: .long x :: r ∧ q = (Lo, .int (lg_cmp x y) :: r, w) := by
  unfold mCmp at h
  split at h
  · cases h; exact ⟨_, _, _, rfl, rfl⟩
  · cases h
theorem mDup_inv (h : mDup Lo st w = some q) : ∃ v r, st = v :: r ∧ v.category = 1 ∧ q = (Lo, v :: v :: r, w) := by
  unfold mDup at h
  split at h
  · cases h; exact ⟨_, _, rfl, rfl, rfl⟩
  · cases h; exact ⟨_, _, rfl, rfl, rfl⟩
  · cases h
theorem mPp_inv (h : mPp Lo st w = some q) : ∃ v r, st = v :: r ∧ v.category = 1 ∧ q = (Lo, r, w) := by
  unfold mPp at h
  split at h
  · cases h; exact ⟨_, _, rfl, rfl, rfl⟩
  · cases h; exact ⟨_, _, rfl, rfl, rfl⟩
  · cases h
theorem mDup2_inv (h : mDup2 Lo st w = some q) : ∃ x y r, st = .int x :: .ref y :: r ∧ q = (Lo, .int x :: .ref y :: .int x :: .ref y :: r, w) := by
  unfold mDup2 at h
  split at h
  · cases h; exact ⟨_, _, _, rfl, rfl⟩
  · cases h
theorem mLdc_inv (h : mLdc mi x Lo st w = some q) : (∃ v, mLk gCon (gO mi) x = some (.int v) ∧ q = (Lo, .int v :: st, w)) ∨ ∃ v, mLk gCon (gO mi) x = some (.ref v) ∧ q = (Lo, .ref v :: st, w) := by
  unfold mLdc at h
  split at h
  · rename_i v hv; cases h; exact Or.inl ⟨v, hv, rfl⟩
  · rename_i v hv; cases h; exact Or.inr ⟨v, hv, rfl⟩
  · cases h
theorem mLdcW_inv (h : mLdcW mi x Lo st w = some q) : ∃ v, mLk gCon (gO mi) x = some (.int v) ∧ q = (Lo, .int v :: st, w) := by
  unfold mLdcW at h
  split at h
  · rename_i v hv; cases h; exact ⟨v, hv, rfl⟩
  · cases h
theorem mLdc2_inv (h : mLdc2 mi x Lo st w = some q) : ∃ v, mLk gCon (gO mi) x = some (.long v) ∧ q = (Lo, .long v :: st, w) := by
  unfold mLdc2 at h
  split at h
  · rename_i v hv; cases h; exact ⟨v, hv, rfl⟩
  · cases h
theorem mGet_inv (h : mGet mi x Lo st w = some q) : ∃ a r ci k, st = .ref a :: r ∧ mLk gF (gO mi) x = some (ci, k) ∧ (wS w)[a]? = some (0, ci) ∧ q = (Lo, mFld w a k (gKi ci k) :: r, w) := by
  unfold mGet at h
  split at h
  · split at h
    · rename_i ci k hk
      split at h
      · rename_i hs; cases h; exact ⟨_, _, ci, k, rfl, hk, hs, rfl⟩
      · cases h
    · cases h
  · cases h
theorem mPut_inv (h : mPut mi x Lo st w = some q) : ∃ v a r ci k w1, st = v :: .ref a :: r ∧ mLk gF (gO mi) x = some (ci, k) ∧ (wS w)[a]? = some (0, ci) ∧ q = (Lo, r, w1) ∧ ((∃ z, v = .int z ∧ gFi ci k = false ∧ (gKi ci k = 0 ∨ (gKi ci k = 3 ∧ (z = 0 ∨ z = 1))) ∧ w1 = wsI w (mSet (wI w) a k z)) ∨ (∃ z, v = .long z ∧ gFi ci k = false ∧ gKi ci k = 1 ∧ w1 = wsJ w (mSet (wJ w) a k z)) ∨ (∃ z, v = .ref z ∧ gFi ci k = true ∧ gKi ci k = 2 ∧ (gMe mi).2.2.2.2.2.2 = 2 ∧ gO mi = ci ∧ w1 = wsR w (mSet (wR w) a k (some z)))) := by
  unfold mPut at h
  split at h
  · split at h
    · rename_i ci k hk
      split at h
      · rename_i hs; cases h; exact ⟨_, _, _, ci, k, _, rfl, hk, hs.1, rfl, Or.inl ⟨_, rfl, hs.2.1, hs.2.2, rfl⟩⟩
      · cases h
    · cases h
  · split at h
    · rename_i ci k hk
      split at h
      · rename_i hs; cases h; exact ⟨_, _, _, ci, k, _, rfl, hk, hs.1, rfl, Or.inr (Or.inl ⟨_, rfl, hs.2.1, hs.2.2, rfl⟩)⟩
      · cases h
    · cases h
  · split at h
    · rename_i ci k hk
      split at h
      · rename_i hs; cases h; exact ⟨_, _, _, ci, k, _, rfl, hk, hs.1, rfl, Or.inr (Or.inr ⟨_, rfl, hs.2.1, hs.2.2.1, hs.2.2.2.1, hs.2.2.2.2, rfl⟩)⟩
      · cases h
    · cases h
  · cases h
theorem mIal_inv (h : mIal S mi Lo st w = some q) : ∃ j a r, st = .int j :: .ref a :: r ∧ ((a = mScr ∧ mi = 0 ∧ ¬ mOut j S.1 ∧ q = (Lo, .int (S.2 j.toNatClampNeg) :: r, w)) ∨ ∃ n, (wS w)[a]? = some (1, n) ∧ ¬ mOut j n ∧ q = (Lo, .int (wI w a j.toNatClampNeg) :: r, w)) := by
  unfold mIal at h
  split at h
  · split at h
    · rename_i ha
      split at h
      · cases h
      · rename_i ho; cases h; exact ⟨_, _, _, rfl, Or.inl ⟨ha.1, ha.2, ho, rfl⟩⟩
    · split at h
      · rename_i n hn
        split at h
        · cases h
        · rename_i ho; cases h; exact ⟨_, _, _, rfl, Or.inr ⟨n, hn, ho, rfl⟩⟩
      · cases h
  · cases h
theorem mBal_inv (h : mBal Lo st w = some q) : ∃ j a r n, st = .int j :: .ref a :: r ∧ ((wS w)[a]? = some (2, n) ∨ (wS w)[a]? = some (3, n)) ∧ ¬ mOut j n ∧ q = (Lo, .int (wI w a j.toNatClampNeg) :: r, w) := by
  unfold mBal at h
  split at h
  · split at h
    · rename_i n hn
      split at h
      · cases h
      · rename_i ho; cases h; exact ⟨_, _, _, n, rfl, Or.inl hn, ho, rfl⟩
    · rename_i n hn
      split at h
      · cases h
      · rename_i ho; cases h; exact ⟨_, _, _, n, rfl, Or.inr hn, ho, rfl⟩
    · cases h
  · cases h
theorem mLal_inv (h : mLal Lo st w = some q) : ∃ j a r n, st = .int j :: .ref a :: r ∧ (wS w)[a]? = some (4, n) ∧ ¬ mOut j n ∧ q = (Lo, .long (wJ w a j.toNatClampNeg) :: r, w) := by
  unfold mLal at h
  split at h
  · split at h
    · rename_i n hn
      split at h
      · cases h
      · rename_i ho; cases h; exact ⟨_, _, _, n, rfl, hn, ho, rfl⟩
    · cases h
  · cases h
theorem mAal_inv (h : mAal Lo st w = some q) : ∃ j a r n, st = .int j :: .ref a :: r ∧ (wS w)[a]? = some (5, n) ∧ ¬ mOut j n ∧ q = (Lo, mRf (wR w a j.toNatClampNeg) :: r, w) := by
  unfold mAal at h
  split at h
  · split at h
    · rename_i n hn
      split at h
      · cases h
      · rename_i ho; cases h; exact ⟨_, _, _, n, rfl, hn, ho, rfl⟩
    · cases h
  · cases h
theorem mIas_inv (h : mIas Lo st w = some q) : ∃ v j a r n, st = .int v :: .int j :: .ref a :: r ∧ (wS w)[a]? = some (1, n) ∧ ¬ mOut j n ∧ q = (Lo, r, wsI w (mSet (wI w) a j.toNatClampNeg v)) := by
  unfold mIas at h
  split at h
  · split at h
    · rename_i n hn
      split at h
      · cases h
      · rename_i ho; cases h; exact ⟨_, _, _, _, n, rfl, hn, ho, rfl⟩
    · cases h
  · cases h
theorem mBas_inv (h : mBas Lo st w = some q) : ∃ v j a r n, st = .int v :: .int j :: .ref a :: r ∧ ¬ mOut j n ∧ (((wS w)[a]? = some (2, n) ∧ q = (Lo, r, wsI w (mSet (wI w) a j.toNatClampNeg (vp_nar .byte v)))) ∨ ((wS w)[a]? = some (3, n) ∧ q = (Lo, r, wsI w (mSet (wI w) a j.toNatClampNeg (vp_nar .boolean v))))) := by
  unfold mBas at h
  split at h
  · split at h
    · rename_i n hn
      split at h
      · cases h
      · rename_i ho; cases h; exact ⟨_, _, _, _, n, rfl, ho, Or.inl ⟨hn, rfl⟩⟩
    · rename_i n hn
      split at h
      · cases h
      · rename_i ho; cases h; exact ⟨_, _, _, _, n, rfl, ho, Or.inr ⟨hn, rfl⟩⟩
    · cases h
  · cases h
theorem mLas_inv (h : mLas Lo st w = some q) : ∃ v j a r n, st = .long v :: .int j :: .ref a :: r ∧ (wS w)[a]? = some (4, n) ∧ ¬ mOut j n ∧ q = (Lo, r, wsJ w (mSet (wJ w) a j.toNatClampNeg v)) := by
  unfold mLas at h
  split at h
  · split at h
    · rename_i n hn
      split at h
      · cases h
      · rename_i ho; cases h; exact ⟨_, _, _, _, n, rfl, hn, ho, rfl⟩
    · cases h
  · cases h
theorem mAas_inv (h : mAas Lo st w = some q) : ∃ v j a r n, st = .ref v :: .int j :: .ref a :: r ∧ (wS w)[a]? = some (5, n) ∧ ¬ mOut j n ∧ (wS w)[v]? = some (0, 2) ∧ q = (Lo, r, wsR w (mSet (wR w) a j.toNatClampNeg (some v))) := by
  unfold mAas at h
  split at h
  · split at h
    · rename_i n hn
      split at h
      · cases h
      · rename_i ho; cases h; exact ⟨_, _, _, _, n, rfl, hn, fun z => ho (Or.inl z), Classical.not_not.mp (fun z => ho (Or.inr z)), rfl⟩
    · cases h
  · cases h
theorem mAln_inv (h : mAln S mi Lo st w = some q) : ∃ a r, st = .ref a :: r ∧ ((a = mScr ∧ mi = 0 ∧ q = (Lo, .int (Int32.ofNat S.1) :: r, w)) ∨ ∃ n, ((wS w)[a]? = some (1, n) ∨ (wS w)[a]? = some (4, n)) ∧ q = (Lo, .int (Int32.ofNat n) :: r, w)) := by
  unfold mAln at h
  split at h
  · split at h
    · rename_i ha; cases h; exact ⟨_, _, rfl, Or.inl ⟨ha.1, ha.2, rfl⟩⟩
    · split at h
      · rename_i n hn; cases h; exact ⟨_, _, rfl, Or.inr ⟨n, Or.inl hn, rfl⟩⟩
      · rename_i n hn; cases h; exact ⟨_, _, rfl, Or.inr ⟨n, Or.inr hn, rfl⟩⟩
      · cases h
  · cases h
theorem mNwa_inv {t : ArrayType} (h : mNwa t Lo st w = some q) : ∃ n r, st = .int n :: r ∧ ¬ n < 0 ∧ n.toNatClampNeg ≤ 100000 ∧ w.1.length < 1000000 ∧ ¬ mAk t = 9 ∧ q = (Lo, .ref w.1.length :: r, mNew w (mAk t, n.toNatClampNeg) n.toNatClampNeg) := by
  unfold mNwa at h
  split at h
  · split at h
    · cases h
    · rename_i ho
      cases h
      exact ⟨_, _, rfl, fun z => ho (Or.inl z), Nat.le_of_not_lt (fun z => ho (Or.inr (Or.inl z))), Nat.lt_of_not_le (fun z => ho (Or.inr (Or.inr (Or.inl z)))), fun z => ho (Or.inr (Or.inr (Or.inr z))), rfl⟩
  · cases h
theorem mNwq_inv (h : mNwq mi x Lo st w = some q) : ∃ n r, st = .int n :: r ∧ ¬ n < 0 ∧ n.toNatClampNeg ≤ 100000 ∧ w.1.length < 1000000 ∧ mLk gNew (gO mi) x = some 2 ∧ q = (Lo, .ref w.1.length :: r, mNew w (5, n.toNatClampNeg) n.toNatClampNeg) := by
  unfold mNwq at h
  split at h
  · split at h
    · cases h
    · rename_i ho
      cases h
      exact ⟨_, _, rfl, fun z => ho (Or.inl z), Nat.le_of_not_lt (fun z => ho (Or.inr (Or.inl z))), Nat.lt_of_not_le (fun z => ho (Or.inr (Or.inr (Or.inl z)))), Classical.not_not.mp (fun z => ho (Or.inr (Or.inr (Or.inr z)))), rfl⟩
  · cases h
theorem mNwo_inv (h : mNwo mi x Lo st w = some q) : ∃ ci, mLk gNew (gO mi) x = some ci ∧ ci < 11 ∧ w.1.length < 1000000 ∧ q = (Lo, .ref w.1.length :: st, mNew w (0, ci) (gFt.getD ci []).length) := by
  unfold mNwo at h
  split at h
  · rename_i ci hci
    split at h
    · cases h
    · rename_i ho
      cases h
      exact ⟨ci, hci, Nat.lt_of_not_le (fun z => ho (Or.inl z)), Nat.lt_of_not_le (fun z => ho (Or.inr z)), rfl⟩
  · cases h
theorem mIsp_inv (h : mIsp d mi x Lo st w = some q) : ∃ a r, st = .ref a :: r ∧ (mLk gCall (gO mi) x).map (·.1) = some 1000 ∧ 0 < d ∧ mCat r ≤ 8 ∧ q = (Lo, r, w) := by
  unfold mIsp at h
  split at h
  · split at h
    · rename_i ho; cases h; exact ⟨_, _, rfl, ho.1, ho.2.1, ho.2.2, rfl⟩
    · cases h
  · cases h
theorem mM2_inv {f : Int32 → Int32 → Int32} (h : mM2 f d Lo st w = some q) : ∃ x y r, st = .int y :: .int x :: r ∧ 0 < d ∧ mCat r ≤ 8 ∧ q = (Lo, .int (f x y) :: r, w) := by
  unfold mM2 at h
  split at h
  · split at h
    · rename_i ho; cases h; exact ⟨_, _, _, rfl, ho.1, ho.2, rfl⟩
    · cases h
  · cases h
theorem mM1_inv {f : Int32 → Int32} (h : mM1 f d Lo st w = some q) : ∃ x r, st = .int x :: r ∧ 0 < d ∧ mCat r ≤ 8 ∧ q = (Lo, .int (f x) :: r, w) := by
  unfold mM1 at h
  split at h
  · split at h
    · rename_i ho; cases h; exact ⟨_, _, rfl, ho.1, ho.2, rfl⟩
    · cases h
  · cases h
theorem mAcp_inv (h : mAcp d Lo st w = some q) : ∃ n dp a sp a0 r n0 n1, st = .int n :: .int dp :: .ref a :: .int sp :: .ref a0 :: r ∧ 0 < d ∧ mCat r ≤ 8 ∧ ¬ sp < 0 ∧ ¬ dp < 0 ∧ ¬ n < 0 ∧ sp.toNatClampNeg + n.toNatClampNeg ≤ n0 ∧ dp.toNatClampNeg + n.toNatClampNeg ≤ n1 ∧ (((wS w)[a0]? = some (1, n0) ∧ (wS w)[a]? = some (1, n1) ∧ q = (Lo, r, wsI w (va_up (wI w) a (va_cpy (wI w a0) (wI w a) sp.toNatClampNeg dp.toNatClampNeg n.toNatClampNeg)))) ∨ ((wS w)[a0]? = some (4, n0) ∧ (wS w)[a]? = some (4, n1) ∧ q = (Lo, r, wsJ w (va_up (wJ w) a (va_cpy (wJ w a0) (wJ w a) sp.toNatClampNeg dp.toNatClampNeg n.toNatClampNeg))))) := by
  unfold mAcp at h
  split at h
  · split at h
    · rename_i ho
      unfold mCpy at h
      split at h
      · rename_i n0 n1 h0 h1
        split at h
        · cases h
        · rename_i hz
          cases h
          exact ⟨_, _, _, _, _, _, n0, n1, rfl, ho.1, ho.2.1, ho.2.2.1, ho.2.2.2.1, ho.2.2.2.2, Nat.le_of_not_lt (fun z => hz (Or.inl z)), Nat.le_of_not_lt (fun z => hz (Or.inr z)), Or.inl ⟨h0, h1, rfl⟩⟩
      · rename_i n0 n1 h0 h1
        split at h
        · cases h
        · rename_i hz
          cases h
          exact ⟨_, _, _, _, _, _, n0, n1, rfl, ho.1, ho.2.1, ho.2.2.1, ho.2.2.2.1, ho.2.2.2.2, Nat.le_of_not_lt (fun z => hz (Or.inl z)), Nat.le_of_not_lt (fun z => hz (Or.inr z)), Or.inr ⟨h0, h1, rfl⟩⟩
      · cases h
    · cases h
  · cases h
theorem mIst_inv (h : mIst d mi x Lo st w = some q) : ∃ sp nn, mLk gCall (gO mi) x = some (sp, nn) ∧ ((sp = 1001 ∧ mAcp d Lo st w = some q) ∨ (sp = 1005 ∧ mM2 (fun x y => if x < y then y else x) d Lo st w = some q) ∨ (sp = 1006 ∧ mM2 (fun x y => if y < x then y else x) d Lo st w = some q) ∨ (sp = 1007 ∧ mM1 (fun x => if 0 ≤ x then x else 0 - x) d Lo st w = some q)) := by
  unfold mIst at h
  split at h
  · rename_i hc; exact ⟨_, _, hc, Or.inl ⟨rfl, h⟩⟩
  · rename_i hc; exact ⟨_, _, hc, Or.inr (Or.inl ⟨rfl, h⟩)⟩
  · rename_i hc; exact ⟨_, _, hc, Or.inr (Or.inr (Or.inl ⟨rfl, h⟩))⟩
  · rename_i hc; exact ⟨_, _, hc, Or.inr (Or.inr (Or.inr ⟨rfl, h⟩))⟩
  · cases h
theorem mSln_inv (h : mSln d Lo st w = some q) : ∃ a r, st = .ref a :: r ∧ 3 ≤ d ∧ mCat r ≤ 8 ∧ mScr < a ∧ a ≤ 1000005 ∧ q = (Lo, .int (Int32.ofNat (gSb.getD (a - 1000001) []).length) :: r, w) := by
  unfold mSln at h
  split at h
  · split at h
    · rename_i ho; cases h; exact ⟨_, _, rfl, ho.1, ho.2.1, ho.2.2.1, ho.2.2.2, rfl⟩
    · cases h
  · cases h
theorem mSch_inv (h : mSch d Lo st w = some q) : ∃ j a r, st = .int j :: .ref a :: r ∧ 6 ≤ d ∧ mCat r ≤ 8 ∧ mScr < a ∧ a ≤ 1000005 ∧ ¬ mOut j (gSb.getD (a - 1000001) []).length ∧ q = (Lo, .int ((gSb.getD (a - 1000001) []).getD j.toNatClampNeg 0) :: r, w) := by
  unfold mSch at h
  split at h
  · split at h
    · rename_i ho; cases h; exact ⟨_, _, _, rfl, ho.1, ho.2.1, ho.2.2.1, ho.2.2.2.1, ho.2.2.2.2, rfl⟩
    · cases h
  · cases h
theorem mIvt_inv (h : mIvt d mi x Lo st w = some q) : ∃ sp nn, mLk gCall (gO mi) x = some (sp, nn) ∧ ((sp = 1002 ∧ mSln d Lo st w = some q) ∨ (sp = 1003 ∧ mSch d Lo st w = some q)) := by
  unfold mIvt at h
  split at h
  · rename_i hc; exact ⟨_, _, hc, Or.inl ⟨rfl, h⟩⟩
  · rename_i hc; exact ⟨_, _, hc, Or.inr ⟨rfl, h⟩⟩
  · cases h
end INV
