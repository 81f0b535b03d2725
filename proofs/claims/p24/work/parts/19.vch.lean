section VH
variable {S : Nat × (Nat → Int32)} {d mi pc : Nat} {Lo : mL} {st r : List Value} {x : mX} {I : rI0} {J : rJ0} {Q : mO → mW → Prop}
theorem wq_sln {k1 nn a : Nat} {v : Int32} (hc : cod mi pc = some (.invokevirtual k1, 3)) (hg : mLk gCall (gO mi) k1 = some (1002, nn)) (ha : mScr < a ∧ a ≤ 1000005) (hr : mCat r ≤ 8) (hv : Int32.ofNat (gSb.getD (a - 1000001) []).length = v) (k : wp S (d + 7) mi (pc + 3) Lo (.int v :: r) (wv x I J) Q) : wp S (d + 7) mi pc Lo (.ref a :: r) (wv x I J) Q := by
  subst hv
  refine wp_st hc ?_ k
  show mIvt (d + 7) mi k1 Lo (.ref a :: r) (wv x I J) = _
  unfold mIvt
  rw [hg]
  exact if_pos ⟨by omega, hr, ha.1, ha.2⟩
theorem wq_sch {k1 nn a len : Nat} {j : Int32} (hc : cod mi pc = some (.invokevirtual k1, 3)) (hg : mLk gCall (gO mi) k1 = some (1003, nn)) (ha : mScr < a ∧ a ≤ 1000005) (hr : mCat r ≤ 8) (hl : (gSb.getD (a - 1000001) []).length = len) (hj : ¬ mOut j len) (k : wp S (d + 7) mi (pc + 3) Lo (.int ((gSb.getD (a - 1000001) []).getD j.toNatClampNeg 0) :: r) (wv x I J) Q) : wp S (d + 7) mi pc Lo (.int j :: .ref a :: r) (wv x I J) Q := by
  subst hl
  refine wp_st hc ?_ k
  show mIvt (d + 7) mi k1 Lo (.int j :: .ref a :: r) (wv x I J) = _
  unfold mIvt
  rw [hg]
  exact if_pos ⟨by omega, hr, ha.1, ha.2, hj⟩
theorem wq_cpI {k1 nn a0 a n0 n1 : Nat} {sp dp n : Int32} (hc : cod mi pc = some (.invokestatic k1, 3)) (hg : mLk gCall (gO mi) k1 = some (1001, nn)) (h0 : (SHL ++ x.1)[a0]? = some (1, n0)) (h1 : (SHL ++ x.1)[a]? = some (1, n1)) (hb : ¬ sp < 0 ∧ ¬ dp < 0 ∧ ¬ n < 0 ∧ sp.toNatClampNeg + n.toNatClampNeg ≤ n0 ∧ dp.toNatClampNeg + n.toNatClampNeg ≤ n1) (hr : mCat r ≤ 8) (k : wp S (d + 1) mi (pc + 3) Lo r (wv x (va_up I a (va_cpy (I a0) (I a) sp.toNatClampNeg dp.toNatClampNeg n.toNatClampNeg)) J) Q) : wp S (d + 1) mi pc Lo (.int n :: .int dp :: .ref a :: .int sp :: .ref a0 :: r) (wv x I J) Q := by
  refine wp_st hc ?_ k
  show mIst (d + 1) mi k1 Lo (.int n :: .int dp :: .ref a :: .int sp :: .ref a0 :: r) (wv x I J) = _
  have h0 : (wS (wv x I J))[a0]? = some (1, n0) := h0
  have h1 : (wS (wv x I J))[a]? = some (1, n1) := h1
  unfold mIst
  rw [hg]
  show mAcp (d + 1) Lo (.int n :: .int dp :: .ref a :: .int sp :: .ref a0 :: r) (wv x I J) = _
  unfold mAcp
  dsimp only
  rw [if_pos ⟨Nat.succ_pos d, hr, hb.1, hb.2.1, hb.2.2.1⟩]
  unfold mCpy
  rw [h0, h1]
  exact if_neg (by omega)
theorem wq_cpJ {k1 nn a0 a n0 n1 : Nat} {sp dp n : Int32} (hc : cod mi pc = some (.invokestatic k1, 3)) (hg : mLk gCall (gO mi) k1 = some (1001, nn)) (h0 : (SHL ++ x.1)[a0]? = some (4, n0)) (h1 : (SHL ++ x.1)[a]? = some (4, n1)) (hb : ¬ sp < 0 ∧ ¬ dp < 0 ∧ ¬ n < 0 ∧ sp.toNatClampNeg + n.toNatClampNeg ≤ n0 ∧ dp.toNatClampNeg + n.toNatClampNeg ≤ n1) (hr : mCat r ≤ 8) (k : wp S (d + 1) mi (pc + 3) Lo r (wv x I (va_up J a (va_cpy (J a0) (J a) sp.toNatClampNeg dp.toNatClampNeg n.toNatClampNeg))) Q) : wp S (d + 1) mi pc Lo (.int n :: .int dp :: .ref a :: .int sp :: .ref a0 :: r) (wv x I J) Q := by
  refine wp_st hc ?_ k
  show mIst (d + 1) mi k1 Lo (.int n :: .int dp :: .ref a :: .int sp :: .ref a0 :: r) (wv x I J) = _
  have h0 : (wS (wv x I J))[a0]? = some (4, n0) := h0
  have h1 : (wS (wv x I J))[a]? = some (4, n1) := h1
  unfold mIst
  rw [hg]
  show mAcp (d + 1) Lo (.int n :: .int dp :: .ref a :: .int sp :: .ref a0 :: r) (wv x I J) = _
  unfold mAcp
  dsimp only
  rw [if_pos ⟨Nat.succ_pos d, hr, hb.1, hb.2.1, hb.2.2.1⟩]
  unfold mCpy
  rw [h0, h1]
  exact if_neg (by omega)
theorem wt_tab {df lo hi : Int} {offs : Array Int} {len nn : Nat} {x1 : Int32} (hc : cod mi pc = some (.tableswitch df lo hi offs, len)) (hn : offs.size = nn ∧ hi = lo + (nn : Int) - 1) (kd : x1.toInt < lo ∨ hi < x1.toInt → wp S d mi (mTgt pc df) Lo r (wv x I J) Q) (ki : ∀ i : Nat, i < nn → x1.toInt = lo + (i : Int) → wp S d mi (mTgt pc (offs.getD i 0)) Lo r (wv x I J) Q) : wp S d mi pc Lo (.int x1 :: r) (wv x I J) Q := by
  refine wp_tab hc kd (fun off q ho => ?_) (fun q => by omega)
  have h1 := ki (x1.toInt - lo).toNat (by omega) (by omega)
  have h2 : offs.getD (x1.toInt - lo).toNat 0 = off := by rw [Array.getD_eq_getD_getElem?, ho]; rfl
  rw [h2] at h1
  exact h1
end VH
