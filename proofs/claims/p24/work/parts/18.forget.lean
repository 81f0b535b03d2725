/-! a frame that knows less of its locals comes to the same end -/
def mSub : mL → mL → Prop
  | [], [] => True
  | none :: a, _ :: b => mSub a b
  | some v :: a, some u :: b => v = u ∧ mSub a b
  | _, _ => False
theorem mSub_len : ∀ {a b : mL}, mSub a b → a.length = b.length
  | [], [], _ => rfl
  | none :: a, _ :: b, h => by
    have := mSub_len (a := a) (b := b) h
    simp [this]
  | some v :: a, some u :: b, h => by
    have := mSub_len (a := a) (b := b) h.2
    simp [this]
  | some v :: a, none :: b, h => by cases h
  | [], _ :: b, h => by cases h
  | none :: a, [], h => by cases h
  | some v :: a, [], h => by cases h
theorem mSub_get : ∀ {a b : mL} {k : Nat} {v : Value}, mSub a b → a.getD k none = some v → b.getD k none = some v
  | [], [], k, v, _, h => h
  | none :: a, _ :: b, 0, v, _, h => by cases h
  | none :: a, _ :: b, k + 1, v, hs, h => by
    have := mSub_get (a := a) (b := b) (k := k) hs (by simpa using h)
    simpa using this
  | some u :: a, some u' :: b, 0, v, hs, h => by
    have h : some u = some v := h
    have h1 : u = u' := hs.1
    rw [← h1]
    exact h
  | some u :: a, some u' :: b, k + 1, v, hs, h => by
    have := mSub_get (a := a) (b := b) (k := k) hs.2 (by simpa using h)
    simpa using this
  | some v :: a, none :: b, _, _, h, _ => by cases h
  | [], _ :: b, _, _, h, _ => by cases h
  | none :: a, [], _, _, h, _ => by cases h
  | some v :: a, [], _, _, h, _ => by cases h
theorem mSub_of : ∀ {a b : mL}, a.length = b.length → (∀ k v, a.getD k none = some v → b.getD k none = some v) → mSub a b
  | [], [], _, _ => trivial
  | [], _ :: b, h, _ => by cases h
  | _ :: a, [], h, _ => by cases h
  | none :: a, y :: b, hl, h => by
    show mSub a b
    exact mSub_of (by simpa using hl) (fun k v hv => by have := h (k + 1) v (by simpa using hv); simpa using this)
  | some u :: a, y :: b, hl, h => by
    have h0 : (y :: b).getD 0 none = some u := h 0 u rfl
    have h0 : y = some u := h0
    subst h0
    exact ⟨rfl, mSub_of (by simpa using hl) (fun k v hv => by have := h (k + 1) v (by simpa using hv); simpa using this)⟩
theorem mClr_get2 {Lo : mL} {i j : Nat} {v : Value} (h : Lo.getD j none = some v) (hn : ¬ (j + 1 = i ∧ v.category = 2)) : (mClr Lo i).getD j none = some v := by
  cases i with
  | zero => exact h
  | succ i =>
    show (mClr2 (Lo.getD i none) Lo i).getD j none = some v
    cases hu : Lo.getD i none with
    | none => exact h
    | some u =>
      have two : u.category = 2 → (Lo.set i none).getD j none = some v := by
        intro hc
        rw [mGetD_set]
        by_cases hj : j = i
        · exfalso
          subst hj
          rw [hu] at h
          cases h
          exact hn ⟨rfl, hc⟩
        · rw [if_neg hj]; exact h
      cases u with
      | long x => exact two rfl
      | double x => exact two rfl
      | _ => exact h
theorem mSub_st1 {a b a1 : mL} {k : Nat} {v : Value} (hs : mSub a b) (h : mSt1 a k v = some a1) : ∃ b1, mSt1 b k v = some b1 ∧ mSub a1 b1 := by
  have hl := mSub_len hs
  unfold mSt1 at h ⊢
  split at h
  · rename_i hk
    cases h
    rw [if_pos (by omega)]
    refine ⟨_, rfl, mSub_of (by rw [List.length_set, List.length_set, mClr_len, mClr_len, hl]) (fun j u hu => ?_)⟩
    rw [mGetD_set, mClr_len] at hu ⊢
    by_cases hj : j = k
    · rw [if_pos hj] at hu ⊢
      rw [← hl]
      exact hu
    · rw [if_neg hj] at hu ⊢
      obtain ⟨h1, h2⟩ := mClr_get hu
      exact mClr_get2 (mSub_get hs h1) h2
  · cases h
theorem mSub_st2 {a b a1 : mL} {k : Nat} {v : Value} (hs : mSub a b) (h : mSt2 a k v = some a1) : ∃ b1, mSt2 b k v = some b1 ∧ mSub a1 b1 := by
  have hl := mSub_len hs
  unfold mSt2 at h ⊢
  split at h
  · rename_i hk
    cases h
    rw [if_pos (by omega)]
    refine ⟨_, rfl, mSub_of (by simp only [List.length_set, mClr_len, hl]) (fun j u hu => ?_)⟩
    rw [mGetD_set, List.length_set, mClr_len] at hu ⊢
    by_cases hj1 : j = k + 1
    · rw [if_pos hj1] at hu
      split at hu <;> cases hu
    · rw [if_neg hj1] at hu ⊢
      rw [mGetD_set, mClr_len] at hu ⊢
      by_cases hj : j = k
      · rw [if_pos hj] at hu ⊢
        rw [← hl]
        exact hu
      · rw [if_neg hj] at hu ⊢
        obtain ⟨h1, h2⟩ := mClr_get hu
        exact mClr_get2 (mSub_get hs h1) h2
  · cases h
/-- locals that are only carried along -/
theorem mCar {f : mL → mT} {Lo Lb Lo1 : mL} {st1' : List Value} {w1 : mW} (hf : ∀ (L M : mL) (q : mL × List Value × mW), f L = some q → q.1 = L ∧ f M = some (M, q.2)) (hs : mSub Lo Lb) (h : f Lo = some (Lo1, st1', w1)) : ∃ Lb1, f Lb = some (Lb1, st1', w1) ∧ mSub Lo1 Lb1 := by
  obtain ⟨h1, h2⟩ := hf Lo Lb _ h
  have h1 : Lo1 = Lo := h1
  subst h1
  exact ⟨Lb, h2, hs⟩
theorem mUnI_car {f : Int32 → Value} {L M : mL} {st : List Value} {w : mW} {q : mL × List Value × mW} (h : mUnI f L st w = some q) : q.1 = L ∧ mUnI f M st w = some (M, q.2) := by
  unfold mUnI at h ⊢
  repeat' (first | (split at h) )
  all_goals (first | (cases h; done) | (cases h; exact ⟨rfl, rfl⟩) | (cases h; simp_all) | simp_all)
theorem mUnL_car {f : Int64 → Value} {L M : mL} {st : List Value} {w : mW} {q : mL × List Value × mW} (h : mUnL f L st w = some q) : q.1 = L ∧ mUnL f M st w = some (M, q.2) := by
  unfold mUnL at h ⊢
  repeat' (first | (split at h) )
  all_goals (first | (cases h; done) | (cases h; exact ⟨rfl, rfl⟩) | (cases h; simp_all) | simp_all)
theorem mCmp_car  {L M : mL} {st : List Value} {w : mW} {q : mL × List Value × mW} (h : mCmp L st w = some q) : q.1 = L ∧ mCmp M st w = some (M, q.2) := by
  unfold mCmp at h ⊢
  repeat' (first | (split at h) )
  all_goals (first | (cases h; done) | (cases h; exact ⟨rfl, rfl⟩) | (cases h; simp_all) | simp_all)
theorem mDup_car  {L M : mL} {st : List Value} {w : mW} {q : mL × List Value × mW} (h : mDup L st w = some q) : q.1 = L ∧ mDup M st w = some (M, q.2) := by
  unfold mDup at h ⊢
  repeat' (first | (split at h) )
  all_goals (first | (cases h; done) | (cases h; exact ⟨rfl, rfl⟩) | (cases h; simp_all) | simp_all)
theorem mPp_car  {L M : mL} {st : List Value} {w : mW} {q : mL × List Value × mW} (h : mPp L st w = some q) : q.1 = L ∧ mPp M st w = some (M, q.2) := by
  unfold mPp at h ⊢
  repeat' (first | (split at h) )
  all_goals (first | (cases h; done) | (cases h; exact ⟨rfl, rfl⟩) | (cases h; simp_all) | simp_all)
theorem mDup2_car  {L M : mL} {st : List Value} {w : mW} {q : mL × List Value × mW} (h : mDup2 L st w = some q) : q.1 = L ∧ mDup2 M st w = some (M, q.2) := by
  unfold mDup2 at h ⊢
  repeat' (first | (split at h) )
  all_goals (first | (cases h; done) | (cases h; exact ⟨rfl, rfl⟩) | (cases h; simp_all) | simp_all)
theorem mLdc_car {mi k : Nat} {L M : mL} {st : List Value} {w : mW} {q : mL × List Value × mW} (h : mLdc mi k L st w = some q) : q.1 = L ∧ mLdc mi k M st w = some (M, q.2) := by
  unfold mLdc at h ⊢
  repeat' (first | (split at h) )
  all_goals (first | (cases h; done) | (cases h; exact ⟨rfl, rfl⟩) | (cases h; simp_all) | simp_all)
theorem mLdcW_car {mi k : Nat} {L M : mL} {st : List Value} {w : mW} {q : mL × List Value × mW} (h : mLdcW mi k L st w = some q) : q.1 = L ∧ mLdcW mi k M st w = some (M, q.2) := by
  unfold mLdcW at h ⊢
  repeat' (first | (split at h) )
  all_goals (first | (cases h; done) | (cases h; exact ⟨rfl, rfl⟩) | (cases h; simp_all) | simp_all)
theorem mLdc2_car {mi k : Nat} {L M : mL} {st : List Value} {w : mW} {q : mL × List Value × mW} (h : mLdc2 mi k L st w = some q) : q.1 = L ∧ mLdc2 mi k M st w = some (M, q.2) := by
  unfold mLdc2 at h ⊢
  repeat' (first | (split at h) )
  all_goals (first | (cases h; done) | (cases h; exact ⟨rfl, rfl⟩) | (cases h; simp_all) | simp_all)
theorem mGet_car {mi k : Nat} {L M : mL} {st : List Value} {w : mW} {q : mL × List Value × mW} (h : mGet mi k L st w = some q) : q.1 = L ∧ mGet mi k M st w = some (M, q.2) := by
  unfold mGet at h ⊢
  repeat' (first | (split at h) )
  all_goals (first | (cases h; done) | (cases h; exact ⟨rfl, rfl⟩) | (cases h; simp_all) | simp_all)
theorem mPut_car {mi k : Nat} {L M : mL} {st : List Value} {w : mW} {q : mL × List Value × mW} (h : mPut mi k L st w = some q) : q.1 = L ∧ mPut mi k M st w = some (M, q.2) := by
  unfold mPut at h ⊢
  repeat' (first | (split at h) )
  all_goals (first | (cases h; done) | (cases h; exact ⟨rfl, rfl⟩) | (cases h; simp_all) | simp_all)
theorem mBal_car  {L M : mL} {st : List Value} {w : mW} {q : mL × List Value × mW} (h : mBal L st w = some q) : q.1 = L ∧ mBal M st w = some (M, q.2) := by
  unfold mBal at h ⊢
  repeat' (first | (split at h) )
  all_goals (first | (cases h; done) | (cases h; exact ⟨rfl, rfl⟩) | (cases h; simp_all) | simp_all)
theorem mLal_car  {L M : mL} {st : List Value} {w : mW} {q : mL × List Value × mW} (h : mLal L st w = some q) : q.1 = L ∧ mLal M st w = some (M, q.2) := by
  unfold mLal at h ⊢
  repeat' (first | (split at h) )
  all_goals (first | (cases h; done) | (cases h; exact ⟨rfl, rfl⟩) | (cases h; simp_all) | simp_all)
theorem mAal_car  {L M : mL} {st : List Value} {w : mW} {q : mL × List Value × mW} (h : mAal L st w = some q) : q.1 = L ∧ mAal M st w = some (M, q.2) := by
  unfold mAal at h ⊢
  repeat' (first | (split at h) )
  all_goals (first | (cases h; done) | (cases h; exact ⟨rfl, rfl⟩) | (cases h; simp_all) | simp_all)
theorem mIas_car  {L M : mL} {st : List Value} {w : mW} {q : mL × List Value × mW} (h : mIas L st w = some q) : q.1 = L ∧ mIas M st w = some (M, q.2) := by
  unfold mIas at h ⊢
  repeat' (first | (split at h) )
  all_goals (first | (cases h; done) | (cases h; exact ⟨rfl, rfl⟩) | (cases h; simp_all) | simp_all)
theorem mBas_car  {L M : mL} {st : List Value} {w : mW} {q : mL × List Value × mW} (h : mBas L st w = some q) : q.1 = L ∧ mBas M st w = some (M, q.2) := by
  unfold mBas at h ⊢
  repeat' (first | (split at h) )
  all_goals (first | (cases h; done) | (cases h; exact ⟨rfl, rfl⟩) | (cases h; simp_all) | simp_all)
theorem mLas_car  {L M : mL} {st : List Value} {w : mW} {q : mL × List Value × mW} (h : mLas L st w = some q) : q.1 = L ∧ mLas M st w = some (M, q.2) := by
  unfold mLas at h ⊢
  repeat' (first | (split at h) )
  all_goals (first | (cases h; done) | (cases h; exact ⟨rfl, rfl⟩) | (cases h; simp_all) | simp_all)
theorem mAas_car  {L M : mL} {st : List Value} {w : mW} {q : mL × List Value × mW} (h : mAas L st w = some q) : q.1 = L ∧ mAas M st w = some (M, q.2) := by
  unfold mAas at h ⊢
  repeat' (first | (split at h) )
  all_goals (first | (cases h; done) | (cases h; exact ⟨rfl, rfl⟩) | (cases h; simp_all) | simp_all)
theorem mAln_car {S : Nat × (Nat → Int32)} {mi : Nat} {L M : mL} {st : List Value} {w : mW} {q : mL × List Value × mW} (h : mAln S mi L st w = some q) : q.1 = L ∧ mAln S mi M st w = some (M, q.2) := by
  unfold mAln at h ⊢
  repeat' (first | (split at h) )
  all_goals (first | (cases h; done) | (cases h; exact ⟨rfl, rfl⟩) | (cases h; simp_all) | simp_all)
theorem mNwa_car {t : ArrayType} {L M : mL} {st : List Value} {w : mW} {q : mL × List Value × mW} (h : mNwa t L st w = some q) : q.1 = L ∧ mNwa t M st w = some (M, q.2) := by
  unfold mNwa at h ⊢
  repeat' (first | (split at h) )
  all_goals (first | (cases h; done) | (cases h; exact ⟨rfl, rfl⟩) | (cases h; simp_all) | simp_all)
theorem mNwq_car {mi k : Nat} {L M : mL} {st : List Value} {w : mW} {q : mL × List Value × mW} (h : mNwq mi k L st w = some q) : q.1 = L ∧ mNwq mi k M st w = some (M, q.2) := by
  unfold mNwq at h ⊢
  repeat' (first | (split at h) )
  all_goals (first | (cases h; done) | (cases h; exact ⟨rfl, rfl⟩) | (cases h; simp_all) | simp_all)
theorem mNwo_car {mi k : Nat} {L M : mL} {st : List Value} {w : mW} {q : mL × List Value × mW} (h : mNwo mi k L st w = some q) : q.1 = L ∧ mNwo mi k M st w = some (M, q.2) := by
  unfold mNwo at h ⊢
  repeat' (first | (split at h) )
  all_goals (first | (cases h; done) | (cases h; exact ⟨rfl, rfl⟩) | (cases h; simp_all) | simp_all)
theorem mIsp_car {d mi k : Nat} {L M : mL} {st : List Value} {w : mW} {q : mL × List Value × mW} (h : mIsp d mi k L st w = some q) : q.1 = L ∧ mIsp d mi k M st w = some (M, q.2) := by
  unfold mIsp at h ⊢
  repeat' (first | (split at h) )
  all_goals (first | (cases h; done) | (cases h; exact ⟨rfl, rfl⟩) | (cases h; simp_all) | simp_all)
theorem mDef_car {i : Instr} {L M : mL} {st : List Value} {w : mW} {q : mL × List Value × mW} (h : mDef i L st w = some q) : q.1 = L ∧ mDef i M st w = some (M, q.2) := by
  unfold mDef at h ⊢
  repeat' (first | (split at h) )
  all_goals (first | (cases h; done) | (cases h; exact ⟨rfl, rfl⟩) | (cases h; simp_all) | simp_all)
theorem mAcp_car {d : Nat} {L M : mL} {st : List Value} {w : mW} {q : mL × List Value × mW} (h : mAcp d L st w = some q) : q.1 = L ∧ mAcp d M st w = some (M, q.2) := by
  unfold mAcp mCpy at h ⊢
  repeat' (first | (split at h) )
  all_goals (first | (cases h; done) | (cases h; exact ⟨rfl, rfl⟩) | (cases h; simp_all) | simp_all)
theorem mM2_car {f : Int32 → Int32 → Int32} {d : Nat} {L M : mL} {st : List Value} {w : mW} {q : mL × List Value × mW} (h : mM2 f d L st w = some q) : q.1 = L ∧ mM2 f d M st w = some (M, q.2) := by
  unfold mM2 at h ⊢
  repeat' (first | (split at h) )
  all_goals (first | (cases h; done) | (cases h; exact ⟨rfl, rfl⟩) | (cases h; simp_all) | simp_all)
theorem mM1_car {f : Int32 → Int32} {d : Nat} {L M : mL} {st : List Value} {w : mW} {q : mL × List Value × mW} (h : mM1 f d L st w = some q) : q.1 = L ∧ mM1 f d M st w = some (M, q.2) := by
  unfold mM1 at h ⊢
  repeat' (first | (split at h) )
  all_goals (first | (cases h; done) | (cases h; exact ⟨rfl, rfl⟩) | (cases h; simp_all) | simp_all)
theorem mSln_car {d : Nat} {L M : mL} {st : List Value} {w : mW} {q : mL × List Value × mW} (h : mSln d L st w = some q) : q.1 = L ∧ mSln d M st w = some (M, q.2) := by
  unfold mSln at h ⊢
  repeat' (first | (split at h) )
  all_goals (first | (cases h; done) | (cases h; exact ⟨rfl, rfl⟩) | (cases h; simp_all) | simp_all)
theorem mIal_car {S : Nat × (Nat → Int32)} {mi : Nat} {L M : mL} {st : List Value} {w : mW} {q : mL × List Value × mW} (h : mIal S mi L st w = some q) : q.1 = L ∧ mIal S mi M st w = some (M, q.2) := by
  unfold mIal at h ⊢
  split at h
  · rename_i j a r
    try dsimp only
    by_cases z : a = mScr ∧ mi = 0
    · rw [if_pos z] at h ⊢
      split at h
      · cases h
      · rename_i ho; cases h; rw [if_neg ho]; exact ⟨rfl, rfl⟩
    · rw [if_neg z] at h ⊢
      split at h
      · rename_i n hn
        split at h
        · cases h
        · rename_i ho; cases h; refine ⟨rfl, ?_⟩; first | exact if_neg ho | (rw [hn]; exact if_neg ho)
      · cases h
  · cases h
theorem mSch_car {d : Nat} {L M : mL} {st : List Value} {w : mW} {q : mL × List Value × mW} (h : mSch d L st w = some q) : q.1 = L ∧ mSch d M st w = some (M, q.2) := by
  obtain ⟨j, a, r, rfl, h1, h2, h3, h4, h5, hq⟩ := mSch_inv h
  cases hq
  refine ⟨rfl, ?_⟩
  unfold mSch
  exact if_pos ⟨h1, h2, h3, h4, h5⟩
theorem mIst_car {d mi k : Nat} {L M : mL} {st : List Value} {w : mW} {q : mL × List Value × mW} (h : mIst d mi k L st w = some q) : q.1 = L ∧ mIst d mi k M st w = some (M, q.2) := by
  unfold mIst at h ⊢
  split at h
  · exact mAcp_car h
  · exact mM2_car h
  · exact mM2_car h
  · exact mM1_car h
  · cases h
theorem mIvt_car {d mi k : Nat} {L M : mL} {st : List Value} {w : mW} {q : mL × List Value × mW} (h : mIvt d mi k L st w = some q) : q.1 = L ∧ mIvt d mi k M st w = some (M, q.2) := by
  unfold mIvt at h ⊢
  split at h
  · exact mSln_car h
  · exact mSch_car h
  · cases h
theorem st1_sub {S : Nat × (Nat → Int32)} {d mi : Nat} {i : Instr} {Lo Lb Lo1 : mL} {st st1' : List Value} {w w1 : mW} (hs : mSub Lo Lb) (h : st1 S d mi i Lo st w = some (Lo1, st1', w1)) : ∃ Lb1, st1 S d mi i Lb st w = some (Lb1, st1', w1) ∧ mSub Lo1 Lb1 := by
  cases i
  case iconst n =>
    cases h
    exact ⟨_, rfl, hs⟩
  case bipush n =>
    cases h
    exact ⟨_, rfl, hs⟩
  case sipush n =>
    cases h
    exact ⟨_, rfl, hs⟩
  case lconst n =>
    cases h
    exact ⟨_, rfl, hs⟩
  case iload k =>
    obtain ⟨x, hv, hq⟩ := mLdI_inv h
    cases hq
    refine ⟨Lb, ?_, hs⟩
    show mLdI Lb k _ _ = _
    unfold mLdI
    rw [mSub_get hs hv]
  case iload_n k =>
    obtain ⟨x, hv, hq⟩ := mLdI_inv h
    cases hq
    refine ⟨Lb, ?_, hs⟩
    show mLdI Lb k _ _ = _
    unfold mLdI
    rw [mSub_get hs hv]
  case lload k =>
    obtain ⟨x, hv, hq⟩ := mLdL_inv h
    cases hq
    refine ⟨Lb, ?_, hs⟩
    show mLdL Lb k _ _ = _
    unfold mLdL
    rw [mSub_get hs hv]
  case lload_n k =>
    obtain ⟨x, hv, hq⟩ := mLdL_inv h
    cases hq
    refine ⟨Lb, ?_, hs⟩
    show mLdL Lb k _ _ = _
    unfold mLdL
    rw [mSub_get hs hv]
  case aload k =>
    obtain ⟨x, hv, hq⟩ := mLdA_inv h
    cases hq
    refine ⟨Lb, ?_, hs⟩
    show mLdA Lb k _ _ = _
    unfold mLdA
    rw [mSub_get hs hv]
  case aload_n k =>
    obtain ⟨x, hv, hq⟩ := mLdA_inv h
    cases hq
    refine ⟨Lb, ?_, hs⟩
    show mLdA Lb k _ _ = _
    unfold mLdA
    rw [mSub_get hs hv]
  case istore k =>
    obtain ⟨x, r, L, rfl, hL, hq⟩ := mStI_inv h
    cases hq
    obtain ⟨b1, h1, h2⟩ := mSub_st1 hs hL
    refine ⟨b1, ?_, h2⟩
    show mStI Lb k (.int x :: st1') w = _
    unfold mStI
    dsimp only
    rw [h1]
  case istore_n k =>
    obtain ⟨x, r, L, rfl, hL, hq⟩ := mStI_inv h
    cases hq
    obtain ⟨b1, h1, h2⟩ := mSub_st1 hs hL
    refine ⟨b1, ?_, h2⟩
    show mStI Lb k (.int x :: st1') w = _
    unfold mStI
    dsimp only
    rw [h1]
  case lstore k =>
    obtain ⟨x, r, L, rfl, hL, hq⟩ := mStL_inv h
    cases hq
    obtain ⟨b1, h1, h2⟩ := mSub_st2 hs hL
    refine ⟨b1, ?_, h2⟩
    show mStL Lb k (.long x :: st1') w = _
    unfold mStL
    dsimp only
    rw [h1]
  case lstore_n k =>
    obtain ⟨x, r, L, rfl, hL, hq⟩ := mStL_inv h
    cases hq
    obtain ⟨b1, h1, h2⟩ := mSub_st2 hs hL
    refine ⟨b1, ?_, h2⟩
    show mStL Lb k (.long x :: st1') w = _
    unfold mStL
    dsimp only
    rw [h1]
  case astore k =>
    obtain ⟨x, r, L, rfl, hL, hq⟩ := mStA_inv h
    cases hq
    obtain ⟨b1, h1, h2⟩ := mSub_st1 hs hL
    refine ⟨b1, ?_, h2⟩
    show mStA Lb k (.ref x :: st1') w = _
    unfold mStA
    dsimp only
    rw [h1]
  case astore_n k =>
    obtain ⟨x, r, L, rfl, hL, hq⟩ := mStA_inv h
    cases hq
    obtain ⟨b1, h1, h2⟩ := mSub_st1 hs hL
    refine ⟨b1, ?_, h2⟩
    show mStA Lb k (.ref x :: st1') w = _
    unfold mStA
    dsimp only
    rw [h1]
  case iinc k n =>
    obtain ⟨x, L, hv, hL, hq⟩ := mInc_inv h
    cases hq
    obtain ⟨b1, h1, h2⟩ := mSub_st1 hs hL
    refine ⟨b1, ?_, h2⟩
    show mInc Lb k n _ _ = _
    unfold mInc
    rw [mSub_get hs hv]
    dsimp only
    rw [h1]
  case ineg =>
    exact mCar (f := fun L => st1 S d mi (.ineg) L st w) (by intro L M q; exact mUnI_car) hs h
  case lneg =>
    exact mCar (f := fun L => st1 S d mi (.lneg) L st w) (by intro L M q; exact mUnL_car) hs h
  case i2l =>
    exact mCar (f := fun L => st1 S d mi (.i2l) L st w) (by intro L M q; exact mUnI_car) hs h
  case l2i =>
    exact mCar (f := fun L => st1 S d mi (.l2i) L st w) (by intro L M q; exact mUnL_car) hs h
  case i2b =>
    exact mCar (f := fun L => st1 S d mi (.i2b) L st w) (by intro L M q; exact mUnI_car) hs h
  case lcmp =>
    exact mCar (f := fun L => st1 S d mi (.lcmp) L st w) (by intro L M q; exact mCmp_car) hs h
  case dup =>
    exact mCar (f := fun L => st1 S d mi (.dup) L st w) (by intro L M q; exact mDup_car) hs h
  case pop =>
    exact mCar (f := fun L => st1 S d mi (.pop) L st w) (by intro L M q; exact mPp_car) hs h
  case dup2 =>
    exact mCar (f := fun L => st1 S d mi (.dup2) L st w) (by intro L M q; exact mDup2_car) hs h
  case ldc k =>
    exact mCar (f := fun L => st1 S d mi (.ldc k) L st w) (by intro L M q; exact mLdc_car) hs h
  case ldc_w k =>
    exact mCar (f := fun L => st1 S d mi (.ldc_w k) L st w) (by intro L M q; exact mLdcW_car) hs h
  case ldc2_w k =>
    exact mCar (f := fun L => st1 S d mi (.ldc2_w k) L st w) (by intro L M q; exact mLdc2_car) hs h
  case getfield k =>
    exact mCar (f := fun L => st1 S d mi (.getfield k) L st w) (by intro L M q; exact mGet_car) hs h
  case putfield k =>
    exact mCar (f := fun L => st1 S d mi (.putfield k) L st w) (by intro L M q; exact mPut_car) hs h
  case iaload =>
    exact mCar (f := fun L => st1 S d mi (.iaload) L st w) (by intro L M q; exact mIal_car) hs h
  case baload =>
    exact mCar (f := fun L => st1 S d mi (.baload) L st w) (by intro L M q; exact mBal_car) hs h
  case laload =>
    exact mCar (f := fun L => st1 S d mi (.laload) L st w) (by intro L M q; exact mLal_car) hs h
  case aaload =>
    exact mCar (f := fun L => st1 S d mi (.aaload) L st w) (by intro L M q; exact mAal_car) hs h
  case iastore =>
    exact mCar (f := fun L => st1 S d mi (.iastore) L st w) (by intro L M q; exact mIas_car) hs h
  case bastore =>
    exact mCar (f := fun L => st1 S d mi (.bastore) L st w) (by intro L M q; exact mBas_car) hs h
  case lastore =>
    exact mCar (f := fun L => st1 S d mi (.lastore) L st w) (by intro L M q; exact mLas_car) hs h
  case aastore =>
    exact mCar (f := fun L => st1 S d mi (.aastore) L st w) (by intro L M q; exact mAas_car) hs h
  case arraylength =>
    exact mCar (f := fun L => st1 S d mi (.arraylength) L st w) (by intro L M q; exact mAln_car) hs h
  case newarray t =>
    exact mCar (f := fun L => st1 S d mi (.newarray t) L st w) (by intro L M q; exact mNwa_car) hs h
  case anewarray k =>
    exact mCar (f := fun L => st1 S d mi (.anewarray k) L st w) (by intro L M q; exact mNwq_car) hs h
  case new k =>
    exact mCar (f := fun L => st1 S d mi (.new k) L st w) (by intro L M q; exact mNwo_car) hs h
  case invokespecial k =>
    exact mCar (f := fun L => st1 S d mi (.invokespecial k) L st w) (by intro L M q; exact mIsp_car) hs h
  case iadd =>
    exact mCar (f := fun L => st1 S d mi (.iadd) L st w) (by intro L M q; exact mDef_car (i := .iadd)) hs h
  case isub =>
    exact mCar (f := fun L => st1 S d mi (.isub) L st w) (by intro L M q; exact mDef_car (i := .isub)) hs h
  case imul =>
    exact mCar (f := fun L => st1 S d mi (.imul) L st w) (by intro L M q; exact mDef_car (i := .imul)) hs h
  case iand =>
    exact mCar (f := fun L => st1 S d mi (.iand) L st w) (by intro L M q; exact mDef_car (i := .iand)) hs h
  case ior =>
    exact mCar (f := fun L => st1 S d mi (.ior) L st w) (by intro L M q; exact mDef_car (i := .ior)) hs h
  case ixor =>
    exact mCar (f := fun L => st1 S d mi (.ixor) L st w) (by intro L M q; exact mDef_car (i := .ixor)) hs h
  case ishl =>
    exact mCar (f := fun L => st1 S d mi (.ishl) L st w) (by intro L M q; exact mDef_car (i := .ishl)) hs h
  case ishr =>
    exact mCar (f := fun L => st1 S d mi (.ishr) L st w) (by intro L M q; exact mDef_car (i := .ishr)) hs h
  case iushr =>
    exact mCar (f := fun L => st1 S d mi (.iushr) L st w) (by intro L M q; exact mDef_car (i := .iushr)) hs h
  case idiv =>
    exact mCar (f := fun L => st1 S d mi (.idiv) L st w) (by intro L M q; exact mDef_car (i := .idiv)) hs h
  case irem =>
    exact mCar (f := fun L => st1 S d mi (.irem) L st w) (by intro L M q; exact mDef_car (i := .irem)) hs h
  case ladd =>
    exact mCar (f := fun L => st1 S d mi (.ladd) L st w) (by intro L M q; exact mDef_car (i := .ladd)) hs h
  case lsub =>
    exact mCar (f := fun L => st1 S d mi (.lsub) L st w) (by intro L M q; exact mDef_car (i := .lsub)) hs h
  case lmul =>
    exact mCar (f := fun L => st1 S d mi (.lmul) L st w) (by intro L M q; exact mDef_car (i := .lmul)) hs h
  case land =>
    exact mCar (f := fun L => st1 S d mi (.land) L st w) (by intro L M q; exact mDef_car (i := .land)) hs h
  case lor =>
    exact mCar (f := fun L => st1 S d mi (.lor) L st w) (by intro L M q; exact mDef_car (i := .lor)) hs h
  case lxor =>
    exact mCar (f := fun L => st1 S d mi (.lxor) L st w) (by intro L M q; exact mDef_car (i := .lxor)) hs h
  case ldiv =>
    exact mCar (f := fun L => st1 S d mi (.ldiv) L st w) (by intro L M q; exact mDef_car (i := .ldiv)) hs h
  case lrem =>
    exact mCar (f := fun L => st1 S d mi (.lrem) L st w) (by intro L M q; exact mDef_car (i := .lrem)) hs h
  case lshl =>
    exact mCar (f := fun L => st1 S d mi (.lshl) L st w) (by intro L M q; exact mDef_car (i := .lshl)) hs h
  case lshr =>
    exact mCar (f := fun L => st1 S d mi (.lshr) L st w) (by intro L M q; exact mDef_car (i := .lshr)) hs h
  case lushr =>
    exact mCar (f := fun L => st1 S d mi (.lushr) L st w) (by intro L M q; exact mDef_car (i := .lushr)) hs h
  case invokestatic k =>
    exact mCar (f := fun L => st1 S d mi (.invokestatic k) L st w) (by intro L M q; exact mIst_car) hs h
  case invokevirtual k =>
    exact mCar (f := fun L => st1 S d mi (.invokevirtual k) L st w) (by intro L M q; exact mIvt_car) hs h
  all_goals exact absurd h (by simp [st1])
theorem mNone {f : mL → mT} {Lo Lb : mL} (hf : ∀ (L M : mL) (q : mL × List Value × mW), f L = some q → q.1 = L ∧ f M = some (M, q.2)) (h : f Lo = none) : f Lb = none := by
  cases hb : f Lb with
  | none => rfl
  | some q =>
    have := (hf Lb Lo q hb).2
    rw [h] at this
    cases this
section SUB
variable {S : Nat × (Nat → Int32)}
set_option maxHeartbeats 1000000 in
theorem ex_sub : ∀ (n d mi pc : Nat) (Lo Lb : mL) (st : List Value) (w : mW) (r : mO × mW), mSub Lo Lb → ex S n d mi pc Lo st w = some r → ex S n d mi pc Lb st w = some r := by
  intro n
  induction n with
  | zero =>
    intro d mi pc Lo Lb st w r hs h
    cases h
  | succ n ih =>
    intro d mi pc Lo Lb st w r hsub h
    have brk : ∀ {c : Jvm.ClassFile.Cond} {x y : Int32} {A B A' B' : Option (mO × mW)}, (A = some r → A' = some r) → (B = some r → B' = some r) → mBr c x y A B = some r → mBr c x y A' B' = some r := by
      intro c x y A B A' B' hA hB h
      cases c <;> (unfold mBr at h ⊢; dsimp only at h ⊢; split at h <;> rename_i q <;> simp only [q, if_true, if_false] <;> first | exact hA h | exact hB h)
    unfold ex at h ⊢
    cases hc : cod mi pc with
    | none => rw [hc] at h; cases h
    | some q =>
      obtain ⟨i, len⟩ := q
      rw [hc] at h
      dsimp only at h ⊢
      cases hs : st1 S d mi i Lo st w with
      | some q =>
        obtain ⟨Lo1, st9, w1⟩ := q
        rw [hs] at h
        obtain ⟨Lb1, h1, h2⟩ := st1_sub hsub hs
        rw [h1]
        dsimp only at h ⊢
        exact ih _ _ _ _ _ _ _ _ h2 h
      | none =>
        rw [hs] at h
        dsimp only at h
        split at h
        · exact ih _ _ _ _ _ _ _ _ hsub h
        · split at h
          · exact brk (ih _ _ _ _ _ _ _ _ hsub) (ih _ _ _ _ _ _ _ _ hsub) h
          · cases h
        · split at h
          · exact brk (ih _ _ _ _ _ _ _ _ hsub) (ih _ _ _ _ _ _ _ _ hsub) h
          · cases h
        · split at h
          · exact ih _ _ _ _ _ _ _ _ hsub h
          · exact ih _ _ _ _ _ _ _ _ hsub h
          · cases h
        · split at h
          · split at h
            · rename_i q
              show (if _ then _ else _) = _
              rw [if_pos q]
              exact ih _ _ _ _ _ _ _ _ hsub h
            · rename_i q
              show (if _ then _ else _) = _
              rw [if_neg q]
              split at h
              · rename_i off ho
                try rw [ho]
                exact ih _ _ _ _ _ _ _ _ hsub h
              · cases h
          · cases h
        · exact h
        · exact h
        · exact h
        · rename_i x
          have hb : st1 S d mi (.new x) Lb st w = none := mNone (f := fun L => st1 S d mi (.new x) L st w) (by intro L M q; exact mNwo_car) hs
          rw [hb]
          exact h
        · rename_i x
          have hb : st1 S d mi (.invokevirtual x) Lb st w = none := mNone (f := fun L => st1 S d mi (.invokevirtual x) L st w) (by intro L M q; exact mIvt_car) hs
          rw [hb]
          try dsimp only
          split at h
          · rename_i hg
            try rw [hg]
            try dsimp only
            split at h
            · rename_i hp
              try rw [hp]
              try dsimp only
              split at h
              · rename_i q
                try rw [if_pos q]
                split at h
                · rename_i hcal
                  try rw [hcal]
                  exact ih _ _ _ _ _ _ _ _ hsub h
                · cases h
              · cases h
            · cases h
          · cases h
        · rename_i x
          have hb : st1 S d mi (.invokespecial x) Lb st w = none := mNone (f := fun L => st1 S d mi (.invokespecial x) L st w) (by intro L M q; exact mIsp_car) hs
          rw [hb]
          try dsimp only
          split at h
          · rename_i hg
            try rw [hg]
            try dsimp only
            split at h
            · rename_i hp
              try rw [hp]
              try dsimp only
              split at h
              · rename_i q
                try rw [if_pos q]
                split at h
                · rename_i hcal
                  try rw [hcal]
                  exact ih _ _ _ _ _ _ _ _ hsub h
                · cases h
              · cases h
            · cases h
          · cases h
        · rename_i x
          have hb : st1 S d mi (.invokestatic x) Lb st w = none := mNone (f := fun L => st1 S d mi (.invokestatic x) L st w) (by intro L M q; exact mIst_car) hs
          rw [hb]
          try dsimp only
          split at h
          · rename_i hg
            try rw [hg]
            try dsimp only
            split at h
            · rename_i hp
              try rw [hp]
              try dsimp only
              split at h
              · rename_i q
                try rw [if_pos q]
                split at h
                · rename_i q2
                  try rw [if_pos q2]
                  split at h
                  · try dsimp only
                    split at h
                    · rename_i h4 h9
                      try rw [h4, h9]
                      try dsimp only
                      split at h
                      · rename_i hcal
                        try rw [hcal]
                        exact ih _ _ _ _ _ _ _ _ hsub h
                      · rename_i hcal
                        try rw [hcal]
                        exact ih _ _ _ _ _ _ _ _ hsub h
                      · cases h
                    · cases h
                  · cases h
                · rename_i q2
                  try rw [if_neg q2]
                  split at h
                  · rename_i hcal
                    try rw [hcal]
                    exact ih _ _ _ _ _ _ _ _ hsub h
                  · cases h
              · cases h
            · cases h
          · cases h
        · cases h
theorem wp_sub {d mi pc : Nat} {Lo Lb : mL} {st : List Value} {w : mW} {Q : mO → mW → Prop} (hs : mSub Lo Lb) (h : wp S d mi pc Lo st w Q) : wp S d mi pc Lb st w Q := by
  obtain ⟨n, o, w', h1, h2⟩ := h
  exact ⟨n, o, w', ex_sub _ _ _ _ _ _ _ _ _ hs h1, h2⟩
end SUB
