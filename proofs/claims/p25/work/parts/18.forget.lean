section
/-! a frame that knows less of its locals comes to the same end -/
def mSub : mL → mL → Prop
  | [], [] => True
  | none :: a, _ :: b => mSub a b
  | some v :: a, some u :: b => v = u ∧ mSub a b
  | _, _ => False
theorem mSub_len : ∀ {a b : mL}, mSub a b → a.length = b.length
  | [], [], _ => rfl
  | none :: a, _ :: b, h => by
    have := mSub_len (a := a) (b := b) h
    simp [this]
  | some v :: a, some u :: b, h => by
    have := mSub_len (a := a) (b := b) h.2
    simp [this]
  | some v :: a, none :: b, h => by cases h
  | [], _ :: b, h => by cases h
  | none :: a, [], h => by cases h
  | some v :: a, [], h => by cases h
theorem mSub_get : ∀ {a b : mL} {k : Nat} {v : Value}, mSub a b → a.getD k none = some v → b.getD k none = some v
  | [], [], k, v, _, h => h
  | none :: a, _ :: b, 0, v, _, h => by cases h
  | none :: a, _ :: b, k + 1, v, hs, h => by
    have := mSub_get (a := a) (b := b) (k := k) hs (by simpa using h)
    simpa using this
  | some u :: a, some u' :: b, 0, v, hs, h => by
    have h : some u = some v := h
    have h1 : u = u' := hs.1
    rw [← h1]
    exact h
  | some u :: a, some u' :: b, k + 1, v, hs, h => by
    have := mSub_get (a := a) (b := b) (k := k) hs.2 (by simpa using h)
    simpa using this
  | some v :: a, none :: b, _, _, h, _ => by cases h
  | [], _ :: b, _, _, h, _ => by cases h
  | none :: a, [], _, _, h, _ => by cases h
  | some v :: a, [], _, _, h, _ => by cases h
theorem mSub_of : ∀ {a b : mL}, a.length = b.length → (∀ k v, a.getD k none = some v → b.getD k none = some v) → mSub a b
  | [], [], _, _ => trivial
  | [], _ :: b, h, _ => by cases h
  | _ :: a, [], h, _ => by cases h
  | none :: a, y :: b, hl, h => by
    show mSub a b
    exact mSub_of (by simpa using hl) (fun k v hv => by have := h (k + 1) v (by simpa using hv); simpa using this)
  | some u :: a, y :: b, hl, h => by
    have h0 : (y :: b).getD 0 none = some u := h 0 u rfl
    have h0 : y = some u := h0
    subst h0
    exact ⟨rfl, mSub_of (by simpa using hl) (fun k v hv => by have := h (k + 1) v (by simpa using hv); simpa using this)⟩
theorem mClr_get2 {Lo : mL} {i j : Nat} {v : Value} (h : Lo.getD j none = some v) (hn : ¬ (j + 1 = i ∧ v.category = 2)) : (mClr Lo i).getD j none = some v := by
  cases i with
  | zero => exact h
  | succ i =>
    show (mClr2 (Lo.getD i none) Lo i).getD j none = some v
    cases hu : Lo.getD i none with
    | none => exact h
    | some u =>
      have two : u.category = 2 → (Lo.set i none).getD j none = some v := by
        intro hc
        rw [mGetD_set]
        by_cases hj : j = i
        · exfalso
          subst hj
          rw [hu] at h
          cases h
          exact hn ⟨rfl, hc⟩
        · rw [if_neg hj]; exact h
      cases u with
      | long x => exact two rfl
      | double x => exact two rfl
      | _ => exact h
theorem mSub_st1 {a b a1 : mL} {k : Nat} {v : Value} (hs : mSub a b) (h : mSt1 a k v = some a1) : ∃ b1, mSt1 b k v = some b1 ∧ mSub a1 b1 := by
  have hl := mSub_len hs
  unfold mSt1 at h ⊢
  split at h
  · rename_i hk
    cases h
    rw [if_pos (by omega)]
    refine ⟨_, rfl, mSub_of (by rw [List.length_set, List.length_set, mClr_len, mClr_len, hl]) (fun j u hu => ?_)⟩
    rw [mGetD_set, mClr_len] at hu ⊢
    by_cases hj : j = k
    · rw [if_pos hj] at hu ⊢
      rw [← hl]
      exact hu
    · rw [if_neg hj] at hu ⊢
      obtain ⟨h1, h2⟩ := mClr_get hu
      exact mClr_get2 (mSub_get hs h1) h2
  · cases h
theorem mSub_st2 {a b a1 : mL} {k : Nat} {v : Value} (hs : mSub a b) (h : mSt2 a k v = some a1) : ∃ b1, mSt2 b k v = some b1 ∧ mSub a1 b1 := by
  have hl := mSub_len hs
  unfold mSt2 at h ⊢
  split at h
  · rename_i hk
    cases h
    rw [if_pos (by omega)]
    refine ⟨_, rfl, mSub_of (by simp only [List.length_set, mClr_len, hl]) (fun j u hu => ?_)⟩
    rw [mGetD_set, List.length_set, mClr_len] at hu ⊢
    by_cases hj1 : j = k + 1
    · rw [if_pos hj1] at hu
      split at hu <;> cases hu
    · rw [if_neg hj1] at hu ⊢
      rw [mGetD_set, mClr_len] at hu ⊢
      by_cases hj : j = k
      · rw [if_pos hj] at hu ⊢
        rw [← hl]
        exact hu
      · rw [if_neg hj] at hu ⊢
        obtain ⟨h1, h2⟩ := mClr_get hu
        exact mClr_get2 (mSub_get hs h1) h2
  · cases h
/-- locals that are only carried along -/
theorem mCar {f : mL → mT} {Lo Lb Lo1 : mL} {st1' : List Value} {w1 : mW} (hf : ∀ (L M : mL) (q : mL × List Value × mW), f L = some q → q.1 = L ∧ f M = some (M, q.2)) (hs : mSub Lo Lb) (h : f Lo = some (Lo1, st1', w1)) : ∃ Lb1, f Lb = some (Lb1, st1', w1) ∧ mSub Lo1 Lb1 := by
  obtain ⟨h1, h2⟩ := hf Lo Lb _ h
  have h1 : Lo1 = Lo := h1
  subst h1
  exact ⟨Lb, h2, hs⟩
theorem mUnI_car {f : Int32 → Value} {L M : mL} {st : List Value} {w : mW} {q : mL × List Value × mW} (h : mUnI f L st w = some q) : q.1 = L ∧ mUnI f M st w = some (M, q.2) := by
  unfold mUnI at h ⊢
  repeat' (first | (split at h) )
  all_goals (first | (cases h; done) | (cases h; exact ⟨rfl, rfl⟩) | (cases h; simp_all) | simp_all)
theorem mUnL_car {f : Int64 → Value} {L M : mL} {st : List Value} {w : mW} {q : mL × List Value × mW} (h : mUnL f L st w = some q) : q.1 = L ∧ mUnL f M st w = some (M, q.2) := by
  unfold mUnL at h ⊢
  repeat' (first | (split at h) )
  all_goals (first | (cases h; done) | (cases h; exact ⟨rfl, rfl⟩) | (cases h; simp_all) | simp_all)
theorem mCmp_car  {L M : mL} {st : List Value} {w : mW} {q : mL × List Value × mW} (h : mCmp L st w = some q) : q.1 = L ∧ mCmp M st w = some (M, q.2) := by
  unfold mCmp at h ⊢
  repeat' (first | (split at h) )
  all_goals (first | (cases h; done) | (cases h; exact ⟨rfl, rfl⟩) | (cases h; simp_all) | simp_all)
theorem mDup_car  {L M : mL} {st : List Value} {w : mW} {q : mL × List Value × mW} (h : mDup L st w = some q) : q.1 = L ∧ mDup M st w = some (M, q.2) := by
  unfold mDup at h ⊢
  repeat' (first | (split at h) )
  all_goals (first | (cases h; done) | (cases h; exact ⟨rfl, rfl⟩) | (cases h; simp_all) | simp_all)
theorem mPp_car  {L M : mL} {st : List Value} {w : mW} {q : mL × List Value × mW} (h : mPp L st w = some q) : q.1 = L ∧ mPp M st w = some (M, q.2) := by
  unfold mPp at h ⊢
  repeat' (first | (split at h) )
  all_goals (first | (cases h; done) | (cases h; exact ⟨rfl, rfl⟩) | (cases h; simp_all) | simp_all)
theorem mDup2_car  {L M : mL} {st : List Value} {w : mW} {q : mL × List Value × mW} (h : mDup2 L st w = some q) : q.1 = L ∧ mDup2 M st w = some (M, q.2) := by
  unfold mDup2 at h ⊢
  repeat' (first | (split at h) )
  all_goals (first | (cases h; done) | (cases h; exact ⟨rfl, rfl⟩) | (cases h; simp_all) | simp_all)
theorem mLdc_car {mi k : Nat} {L M : mL} {st : List Value} {w : mW} {q : mL × List Value × mW} (h : mLdc mi k L st w = some q) : q.1 = L ∧ mLdc mi k M st w = some (M, q.2) := by
  unfold mLdc at h ⊢
  repeat' (first | (split at h) )
  all_goals (first | (cases h; done) | (cases h; exact ⟨rfl, rfl⟩) | (cases h; simp_all) | simp_all)
theorem mLdcW_car {mi k : Nat} {L M : mL} {st : List Value} {w : mW} {q : mL × List Value × mW} (h : mLdcW mi k L st w = some q) : q.1 = L ∧ mLdcW mi k M st w = some (M, q.2) := by
  unfold mLdcW at h ⊢
  repeat' (first | (split at h) )
  all_goals (first | (cases h; done) | (cases h; exact ⟨rfl, rfl⟩) | (cases h; simp_all) | simp_all)
theorem mLdc2_car {mi k : Nat} {L M : mL} {st : List Value} {w : mW} {q : mL × List Value × mW} (h : mLdc2 mi k L st w = some q) : q.1 = L ∧ mLdc2 mi k M st w = some (M, q.2) := by
  unfold mLdc2 at h ⊢
  repeat' (first | (split at h) )
  all_goals (first | (cases h; done) | (cases h; exact ⟨rfl, rfl⟩) | (cases h; simp_all) | simp_all)
theorem mGet_car {mi k : Nat} {L M : mL} {st : List Value} {w : mW} {q : mL × List Value × mW} (h : mGet mi k L st w = some q) : q.1 = L ∧ mGet mi k M st w = some (M, q.2) := by
  unfold mGet at h ⊢
  repeat' (first | (split at h) )
  all_goals (first | (cases h; done) | (cases h; exact ⟨rfl, rfl⟩) | (cases h; simp_all) | simp_all)
theorem mPut_car {mi k : Nat} {L M : mL} {st : List Value} {w : mW} {q : mL × List Value × mW} (h : mPut mi k L st w = some q) : q.1 = L ∧ mPut mi k M st w = some (M, q.2) := by
  unfold mPut at h ⊢
  repeat' (first | (split at h) )
  all_goals (first | (cases h; done) | (cases h; exact ⟨rfl, rfl⟩) | (cases h; simp_all) | simp_all)
theorem mBal_car  {L M : mL} {st : List Value} {w : mW} {q : mL × List Value × mW} (h : mBal L st w = some q) : q.1 = L ∧ mBal M st w = some (M, q.2) := by
  unfold mBal at h ⊢
  repeat' (first | (split at h) )
  all_goals (first | (cases h; done) | (cases h; exact ⟨rfl, rfl⟩) | (cases h; simp_all) | simp_all)
theorem mLal_car  {L M : mL} {st : List Value} {w : mW} {q : mL × List Value × mW} (h : mLal L st w = some q) : q.1 = L ∧ mLal M st w = some (M, q.2) := by
  unfold mLal at h ⊢
  repeat' (first | (split at h) )
  all_goals (first | (cases h; done) | (cases h; exact ⟨rfl, rfl⟩) | (cases h; simp_all) | simp_all)
theorem mAal_car  {L M : mL} {st : List Value} {w : mW} {q : mL × List Value × mW} (h : mAal L st w = some q) : q.1 = L ∧ mAal M st w = some (M, q.2) := by
  unfold mAal at h ⊢
  repeat' (first | (split at h) )
  all_goals (first | (cases h; done) | (cases h; exact ⟨rfl, rfl⟩) | (cases h; simp_all) | simp_all)
theorem mIas_car  {L M : mL} {st : List Value} {w : mW} {q : mL × List Value × mW} (h : mIas L st w = some q) : q.1 = L ∧ mIas M st w = some (M, q.2) := by
  unfold mIas at h ⊢
  repeat' (first | (split at h) )
  all_goals (first | (cases h; done) | (cases h; exact ⟨rfl, rfl⟩) | (cases h; simp_all) | simp_all)
theorem mBas_car  {L M : mL} {st : List Value} {w : mW} {q : mL × List Value × mW} (h : mBas L st w = some q) : q.1 = L ∧ mBas M st w = some (M, q.2) := by
  unfold mBas at h ⊢
  repeat' (first | (split at h) )
  all_goals (first | (cases h; done) | (cases h; exact ⟨rfl, rfl⟩) | (cases h; simp_all) | simp_all)
theorem mLas_car  {L M : mL} {st : List Value} {w : mW} {q : mL × List Value × mW} (h : mLas L st w = some q) : q.1 = L ∧ mLas M st w = some (M, q.2) := by
  unfold mLas at h ⊢
  repeat' (first | (split at h) )
  all_goals (first | (cases h; done) | (cases h; exact ⟨rfl, rfl⟩) | (cases h; simp_all) | simp_all)
theorem mAas_car  {L M : mL} {st : List Value} {w : mW} {q : mL × List Value × mW} (h : mAas L st w = some q) : q.1 = L ∧ mAas M st w = some (M, q.2) := by
  unfold mAas at h ⊢
  repeat' (first | (split at h) )
  all_goals (first | (cases h; done) | (cases h; exact ⟨rfl, rfl⟩) | (cases h; simp_all) | simp_all)
theorem mAln_car {S : Nat × (Nat → Int32)} {mi : Nat} {L M : mL} {st : List Value} {w : mW} {q : mL × List Value × mW} (h : mAln S mi L st w = some q) : q.1 = L ∧ mAln S mi M st w = some (M, q.2) := by
  unfold mAln at h ⊢
  repeat' (first | (split at h) )
  all_goals (first | (cases h; done) | (cases h; exact ⟨rfl, rfl⟩) | (cases h; simp_all) | simp_all)
theorem mNwa_car {t : ArrayType} {L M : mL} {st : List Value} {w : mW} {q : mL × List Value × mW} (h : mNwa t L st w = some q) : q.1 = L ∧ mNwa t M st w = some (M, q.2) := by
  unfold mNwa at h ⊢
  repeat' (first | (split at h) )
  all_goals (first | (cases h; done) | (cases h; exact ⟨rfl, rfl⟩) | (cases h; simp_all) | simp_all)
theorem mNwq_car {mi k : Nat} {L M : mL} {st : List Value} {w : mW} {q : mL × List Value × mW} (h : mNwq mi k L st w = some q) : q.1 = L ∧ mNwq mi k M st w = some (M, q.2) := by
  unfold mNwq at h ⊢
  repeat' (first | (split at h) )
  all_goals (first | (cases h; done) | (cases h; exact ⟨rfl, rfl⟩) | (cases h; simp_all) | simp_all)
theorem mNwo_car {mi k : Nat} {L M : mL} {st : List Value} {w : mW} {q : mL × List Value × mW} (h : mNwo mi k L st w = some q) : q.1 = L ∧ mNwo mi k M st w = some (M, q.2) := by
  unfold mNwo at h ⊢
  repeat' (first | (split at h) )
  all_goals (first | (cases h; done) | (cases h; exact ⟨rfl, rfl⟩) | (cases h; simp_all) | simp_all)
theorem mIsp_car {d mi k : Nat} {L M : mL} {st : List Value} {w : mW} {q : mL × List Value × mW} (h : mIsp d mi k L st w = some q) : q.1 = L ∧ mIsp d mi k M st w = some (M, q.2) := by
  unfold mIsp at h ⊢
  repeat' (first | (split at h) )
  all_goals (first | (cases h; done) | (cases h; exact ⟨rfl, rfl⟩) | (cases h; simp_all) | simp_all)
theorem mDef_car {i : Instr} {L M : mL} {st : List Value} {w : mW} {q : mL × List Value × mW} (h : mDef i L st w = some q) : q.1 = L ∧ mDef i M st w = some (M, q.2) := by
  unfold mDef at h ⊢
  repeat' (first | (split at h) )
  all_goals (first | (cases h; done) | (cases h; exact ⟨rfl, rfl⟩) | (cases h; simp_all) | simp_all)
theorem mAcp_car {d : Nat} {L M : mL} {st : List Value} {w : mW} {q : mL × List Value × mW} (h : mAcp d L st w = some q) : q.1 = L ∧ mAcp d M st w = some (M, q.2) := by
  unfold mAcp mCpy at h ⊢
  repeat' (first | (split at h) )
  all_goals (first | (cases h; done) | (cases h; exact ⟨rfl, rfl⟩) | (cases h; simp_all) | simp_all)
theorem mM2_car {f : Int32 → Int32 → Int32} {d : Nat} {L M : mL} {st : List Value} {w : mW} {q : mL × List Value × mW} (h : mM2 f d L st w = some q) : q.1 = L ∧ mM2 f d M st w = some (M, q.2) := by
  unfold mM2 at h ⊢
  repeat' (first | (split at h) )
  all_goals (first | (cases h; done) | (cases h; exact ⟨rfl, rfl⟩) | (cases h; simp_all) | simp_all)
theorem mM1_car {f : Int32 → Int32} {d : Nat} {L M : mL} {st : List Value} {w : mW} {q : mL × List Value × mW} (h : mM1 f d L st w = some q) : q.1 = L ∧ mM1 f d M st w = some (M, q.2) := by
  unfold mM1 at h ⊢
  repeat' (first | (split at h) )
  all_goals (first | (cases h; done) | (cases h; exact ⟨rfl, rfl⟩) | (cases h; simp_all) | simp_all)
theorem mSln_car {d : Nat} {L M : mL} {st : List Value} {w : mW} {q : mL × List Value × mW} (h : mSln d L st w = some q) : q.1 = L ∧ mSln d M st w = some (M, q.2) := by
  unfold mSln at h ⊢
  repeat' (first | (split at h) )
  all_goals (first | (cases h; done) | (cases h; exact ⟨rfl, rfl⟩) | (cases h; simp_all) | simp_all)
theorem mIal_car {S : Nat × (Nat → Int32)} {mi : Nat} {L M : mL} {st : List Value} {w : mW} {q : mL × List Value × mW} (h : mIal S mi L st w = some q) : q.1 = L ∧ mIal S mi M st w = some (M, q.2) := by
  unfold mIal at h ⊢
  split at h
  · rename_i j a r
    try dsimp only
    by_cases z : a = mScr ∧ mi = 0
    · rw [if_pos z] at h ⊢
      split at h
      · cases h
      · rename_i ho; cases h; rw [if_neg ho]; exact ⟨rfl, rfl⟩
    · rw [if_neg z] at h ⊢
      split at h
      · rename_i n hn
        split at h
        · cases h
        · rename_i ho; cases h; refine ⟨rfl, ?_⟩; first | exact if_neg ho | (rw [hn]; exact if_neg ho)
      · cases h
  · cases h
theorem mSch_car {d : Nat} {L M : mL} {st : List Value} {w : mW} {q : mL × List Value × mW} (h : mSch d L st w = some q) : q.1 = L ∧ mSch d M st w = some (M, q.2) := by
  obtain ⟨j, a, r, rfl, h1, h2, h3, h4, h5, hq⟩ := mSch_inv h
  cases hq
  refine ⟨rfl, ?_⟩
  unfold mSch
  exact if_pos ⟨h1, h2, h3, h4, h5⟩
theorem mIst_car {d mi k : Nat} {L M : mL} {st : List Value} {w : mW} {q : mL × List Value × mW} (h : mIst d mi k L st w = some q) : q.1 = L ∧ mIst d mi k M st w = some (M, q.2) := by
  unfold mIst at h ⊢
  split at h
  · exact mAcp_car h
  · exact mM2_car h
  · exact mM2_car h
  · exact mM1_car h
  · cases h
theorem mIvt_car {d mi k : Nat} {L M : mL} {st : List Value} {w : mW} {q : mL × List Value × mW} (h : mIvt d mi k L st w = some q) : q.1 = L ∧ mIvt d mi k M st w = some (M, q.2) := by
  unfold mIvt at h ⊢
  split at h
  · exact mSln_car h
  · exact mSch_car h
  · cases h
theorem st1_sub {S : Nat × (Nat → Int32)} {d mi : Nat} {i : Instr} {Lo Lb Lo1 : mL} {st st1' : List Value} {w w1 : mW} (hs : mSub Lo Lb) (h : st1 S d mi i Lo st w = some (Lo1, st1', w1)) : ∃ Lb1, st1 S d mi i Lb st w = some (Lb1, st1', w1) ∧ mSub Lo1 Lb1 := by
  cases i
  case iconst n =>
    cases h
    exact ⟨_, rfl, hs⟩
  case bipush n =>
    cases h
    exact ⟨_, rfl, hs⟩
  case sipush n =>
    cases h
    exact ⟨_, rfl, hs⟩
  case lconst n =>
    cases h
    exact ⟨_, rfl, hs⟩
  case iload k =>
    obtain ⟨x, hv, hq⟩ := mLdI_inv h
    cases hq
    refine ⟨Lb, ?_, hs⟩
    show mLdI Lb k _ _ = _
    unfold mLdI
    rw [mSub_get hs hv]
  case iload_n k =>
    obtain ⟨x, hv, hq⟩ := mLdI_inv h
    cases hq
    refine ⟨Lb, ?_, hs⟩
    show mLdI Lb k _ _ = _
    unfold mLdI
    rw [mSub_get hs hv]
  case lload k =>
    obtain ⟨x, hv, hq⟩ := mLdL_inv h
    cases hq
    refine ⟨Lb, ?_, hs⟩
    show mLdL Lb k _ _ = _
    unfold mLdL
    rw [mSub_get hs hv]
  case lload_n k =>
    obtain ⟨x, hv, hq⟩ := mLdL_inv h
    cases hq
    refine ⟨Lb, ?_, hs⟩
    show mLdL Lb k _ _ = _
    unfold mLdL
    rw [mSub_get hs hv]
  case aload k =>
    obtain ⟨x, hv, hq⟩ := mLdA_inv h
    cases hq
    refine ⟨Lb, ?_, hs⟩
    show mLdA Lb k _ _ = _
    unfold mLdA
    rw [mSub_get hs hv]
  case aload_n k =>
    obtain ⟨x, hv, hq⟩ := mLdA_inv h
    cases hq
    refine ⟨Lb, ?_, hs⟩
    show mLdA Lb k _ _ = _
    unfold mLdA
    rw [mSub_get hs hv]
  case istore k =>
    obtain ⟨x, r, L, rfl, hL, hq⟩ := mStI_inv h
    cases hq
    obtain ⟨b1, h1, h2⟩ := mSub_st1 hs hL
    refine ⟨b1, ?_, h2⟩
    show mStI Lb k (.int x :: st1') w = _
    unfold mStI
    dsimp only
    rw [h1]
  case istore_n k =>
    obtain ⟨x, r, L, rfl, hL, hq⟩ := mStI_inv h
    cases hq
    obtain ⟨b1, h1, h2⟩ := mSub_st1 hs hL
    refine ⟨b1, ?_, h2⟩
    show mStI Lb k (.int x :: st1') w = _
    unfold mStI
    dsimp only
    rw [h1]
  case lstore k =>
    obtain ⟨x, r, L, rfl, hL, hq⟩ := mStL_inv h
    cases hq
    obtain ⟨b1, h1, h2⟩ := mSub_st2 hs hL
    refine ⟨b1, ?_, h2⟩
    show mStL Lb k (.long x :: st1') w = _
    unfold mStL
    dsimp only
    rw [h1]
  case lstore_n k =>
    obtain ⟨x, r, L, rfl, hL, hq⟩ := mStL_inv h
    cases hq
    obtain ⟨b1, h1, h2⟩ := mSub_st2 hs hL
    refine ⟨b1, ?_, h2⟩
    show mStL Lb k (.long x :: st1') w = _
    unfold mStL
    dsimp only
    rw [h1]
  case astore k =>
    obtain ⟨x, r, L, rfl, hL, hq⟩ := mStA_inv h
    cases hq
    obtain ⟨b1, h1, h2⟩ := mSub_st1 hs hL
    refine ⟨b1, ?_, h2⟩
    show mStA Lb k (.ref x :: st1') w = _
    unfold mStA
    dsimp only
    rw [h1]
  case astore_n k =>
    obtain ⟨x, r, L, rfl, hL, hq⟩ := mStA_inv h
    cases hq
    obtain ⟨b1, h1, h2⟩ := mSub_st1 hs hL
    refine ⟨b1, ?_, h2⟩
    show mStA Lb k (.ref x :: st1') w = _
    unfold mStA
    dsimp only
    rw [h1]
  case iinc k n =>
    obtain ⟨x, L, hv, hL, hq⟩ := mInc_inv h
    cases hq
    obtain ⟨b1, h1, h2⟩ := mSub_st1 hs hL
    refine ⟨b1, ?_, h2⟩
    show mInc Lb k n _ _ = _
    unfold mInc
    rw [mSub_get hs hv]
    dsimp only
    rw [h1]
  case ineg =>
    exact mCar (f := fun L => st1 S d mi (.ineg) L st w) (by intro L M q; exact mUnI_car) hs h
  case lneg =>
    exact mCar (f := fun L => st1 S d mi (.lneg) L st w) (by intro L M q; exact mUnL_car) hs h
  case i2l =>
    exact mCar (f := fun L => st1 S d mi (.i2l) L st w) (by intro L M q; exact mUnI_car) hs h
  case l2i =>
    exact mCar (f := fun L => st1 S d mi (.l2i) L st w) (by intro L M q; exact mUnL_car) hs h
  case i2b =>
    exact mCar (f := fun L => st1 S d mi (.i2b) L st w) (by intro L M q; exact mUnI_car) hs h
  case lcmp =>
    exact mCar (f := fun L => st1 S d mi (.lcmp) L st w) (by intro L M q; exact mCmp_car) hs h
  case dup =>
    exact mCar (f := fun L => st1 S d mi (.dup) L st w) (by intro L M q; exact mDup_car) hs h
  case pop =>
    exact mCar (f := fun L => st1 S d mi (.pop) L st w) (by intro L M q; exact mPp_car) hs h
  case dup2 =>
    exact mCar (f := fun L => st1 S d mi (.dup2) L st w) (by intro L M q; exact mDup2_car) hs h
  case ldc k =>
    exact mCar (f := fun L => st1 S d mi (.ldc k) L st w) (by intro L M q; exact mLdc_car) hs h
  case ldc_w k =>
    exact mCar (f := fun L => st1 S d mi (.ldc_w k) L st w) (by intro L M q; exact mLdcW_car) hs h
  case ldc2_w k =>
    exact mCar (f := fun L => st1 S d mi (.ldc2_w k) L st w) (by intro L M q; exact mLdc2_car) hs h
  case getfield k =>
    exact mCar (f := fun L => st1 S d mi (.getfield k) L st w) (by intro L M q; exact mGet_car) hs h
  case putfield k =>
    exact mCar (f := fun L => st1 S d mi (.putfield k) L st w) (by intro L M q; exact mPut_car) hs h
  case iaload =>
    exact mCar (f := fun L => st1 S d mi (.iaload) L st w) (by intro L M q; exact mIal_car) hs h
  case baload =>
    exact mCar (f := fun L => st1 S d mi (.baload) L st w) (by intro L M q; exact mBal_car) hs h
  case laload =>
    exact mCar (f := fun L => st1 S d mi (.laload) L st w) (by intro L M q; exact mLal_car) hs h
  case aaload =>
    exact mCar (f := fun L => st1 S d mi (.aaload) L st w) (by intro L M q; exact mAal_car) hs h
  case iastore =>
    exact mCar (f := fun L => st1 S d mi (.iastore) L st w) (by intro L M q; exact mIas_car) hs h
  case bastore =>
    exact mCar (f := fun L => st1 S d mi (.bastore) L st w) (by intro L M q; exact mBas_car) hs h
  case lastore =>
    exact mCar (f := fun L => st1 S d mi (.lastore) L st w) (by intro L M q; exact mLas_car) hs h
  case aastore =>
    exact mCar (f := fun L => st1 S d mi (.aastore) L st w) (by intro L M q; exact mAas_car) hs h
  case arraylength =>
    exact mCar (f := fun L => st1 S d mi (.arraylength) L st w) (by intro L M q; exact mAln_car) hs h
  case newarray t =>
    exact mCar (f := fun L => st1 S d mi (.newarray t) L st w) (by intro L M q; exact mNwa_car) hs h
  case anewarray k =>
    exact mCar (f := fun L => st1 S d mi (.anewarray k) L st w) (by intro L M q; exact mNwq_car) hs h
  case new k =>
    exact mCar (f := fun L => st1 S d mi (.new k) L st w) (by intro L M q; exact mNwo_car) hs h
  case invokespecial k =>
    exact mCar (f := fun L => st1 S d mi (.invokespecial k) L st w) (by intro L M q; exact mIsp_car) hs h
  case iadd =>
    exact mCar (f := fun L => st1 S d mi (.iadd) L st w) (by intro L M q; exact mDef_car (i := .iadd)) hs h
  case isub =>
    exact mCar (f := fun L => st1 S d mi (.isub) L st w) (by intro L M q; exact mDef_car (i := .isub)) hs h
  case imul =>
    exact mCar (f := fun L => st1 S d mi (.imul) L st w) (by intro L M q; exact mDef_car (i := .imul)) hs h
  case iand =>
    exact mCar (f := fun L => st1 S d mi (.iand) L st w) (by intro L M q; exact mDef_car (i := .iand)) hs h
  case ior =>
    exact mCar (f := fun L => st1 S d mi (.ior) L st w) (by intro L M q; exact mDef_car (i := .ior)) hs h
  case ixor =>
    exact mCar (f := fun L => st1 S d mi (.ixor) L st w) (by intro L M q; exact mDef_car (i := .ixor)) hs h
  case ishl =>
    exact mCar (f := fun L => st1 S d mi (.ishl) L st w) (by intro L M q; exact mDef_car (i := .ishl)) hs h
  case ishr =>
    exact mCar (f := fun L => st1 S d mi (.ishr) L st w) (by intro L M q; exact mDef_car (i := .ishr)) hs h
  case iushr =>
    exact mCar (f := fun L => st1 S d mi (.iushr) L st w) (by intro L M q; exact mDef_car (i := .iushr)) hs h
  case idiv =>
    exact mCar (f := fun L => st1 S d mi (.idiv) L st w) (by intro L M q; exact mDef_car (i := .idiv)) hs h
  case irem =>
    exact mCar (f := fun L => st1 S d mi (.irem) L st w) (by intro L M q; exact mDef_car (i := .irem)) hs h
  case ladd =>
    exact mCar (f := fun L => st1 S d mi (.ladd) L st w) (by intro L M q; exact mDef_car (i := .ladd)) hs h
  case lsub =>
    exact mCar (f := fun L => st1 S d mi (.lsub) L st w) (by intro L M q; exact mDef_car (i := .lsub)) hs h
  case lmul =>
    exact mCar (f := fun L => st1 S d mi (.lmul) L st w) (by intro L M q; exact mDef_car (i := .lmul)) hs h
  case land =>
    exact mCar (f := fun L => st1 S d mi (.land) L st w) (by intro L M q; exact mDef_car (i := .land)) hs h
  case lor =>
    exact mCar (f := fun L => st1 S d mi (.lor) L st w) (by intro L M q; exact mDef_car (i := .lor)) hs h
  case lxor =>
    exact mCar (f := fun L => st1 S d mi (.lxor) L st w) (by intro L M q; exact mDef_car (i := .lxor)) hs h
  case ldiv =>
    exact mCar (f := fun L => st1 S d mi (.ldiv) L st w) (by intro L M q; exact mDef_car (i := .ldiv)) hs h
  case lrem =>
    exact mCar (f := fun L => st1 S d mi (.lrem) L st w) (by intro L M q; exact mDef_car (i := .lrem)) hs h
  case lshl =>
    exact mCar (f := fun L => st1 S d mi (.lshl) L st w) (by intro L M q; exact mDef_car (i := .lshl)) hs h
  case lshr =>
    exact mCar (f := fun L => st1 S d mi (.lshr) L st w) (by intro L M q; exact mDef_car (i := .lshr)) hs h
  case lushr =>
    exact mCar (f := fun L => st1 S d mi (.lushr) L st w) (by intro L M q; exact mDef_car (i := .lushr)) hs h
  case invokestatic k =>
    exact mCar (f := fun L => st1 S d mi (.invokestatic k) L st w) (by intro L M q; exact mIst_car) hs h
  case invokevirtual k =>
    exact mCar (f := fun L => st1 S d mi (.invokevirtual k) L st w) (by intro L M q; exact mIvt_car) hs h
  all_goals exact absurd h (by simp [st1])
theorem mNone {f : mL → mT} {Lo Lb : mL} (hf : ∀ (L M : mL) (q : mL × List Value × mW), f L = some q → q.1 = L ∧ f M = some (M, q.2)) (h : f Lo = none) : f Lb = none := by
  cases hb : f Lb with
  | none => rfl
  | some q =>
    have := (hf Lb Lo q hb).2
    rw [h] at this
    cases this
section SUB
variable {S : Nat × (Nat → Int32)}
set_option maxHeartbeats 1000000 in
theorem ex_sub : ∀ (n d mi pc : Nat) (Lo Lb : mL) (st : List Value) (w : mW) (r : mO × mW), mSub Lo Lb → ex S n d mi pc Lo st w = some r → ex S n d mi pc Lb st w = some r := by
  intro n
  induction n with
  | zero =>
    intro d mi pc Lo Lb st w r hs h
    cases h
  | succ n ih =>
    intro d mi pc Lo Lb st w r hsub h
    have brk : ∀ {c : Jvm.ClassFile.Cond} {x y : Int32} {A B A' B' : Option (mO × mW)}, (A = some r → A' = some r) → (B = some r → B' = some r) → mBr c x y A B = some r → mBr c x y A' B' = some r := by
      intro c x y A B A' B' hA hB h
      cases c <;> (unfold mBr at h ⊢; dsimp only at h ⊢; split at h <;> rename_i q <;> simp only [q, if_true, if_false] <;> first | exact hA h | exact hB h)
    unfold ex at h ⊢
    cases hc : cod mi pc with
    | none => rw [hc] at h; cases h
    | some q =>
      obtain ⟨i, len⟩ := q
      rw [hc] at h
      dsimp only at h ⊢
      cases hs : st1 S d mi i Lo st w with
      | some q =>
        obtain ⟨Lo1, st9, w1⟩ := q
        rw [hs] at h
        obtain ⟨Lb1, h1, h2⟩ := st1_sub hsub hs
        rw [h1]
        dsimp only at h ⊢
        exact ih _ _ _ _ _ _ _ _ h2 h
      | none =>
        rw [hs] at h
        dsimp only at h
        split at h
        · exact ih _ _ _ _ _ _ _ _ hsub h
        · split at h
          · exact brk (ih _ _ _ _ _ _ _ _ hsub) (ih _ _ _ _ _ _ _ _ hsub) h
          · cases h
        · split at h
          · exact brk (ih _ _ _ _ _ _ _ _ hsub) (ih _ _ _ _ _ _ _ _ hsub) h
          · cases h
        · split at h
          · exact ih _ _ _ _ _ _ _ _ hsub h
          · exact ih _ _ _ _ _ _ _ _ hsub h
          · cases h
        · split at h
          · split at h
            · rename_i q
              show (if _ then _ else _) = _
              rw [if_pos q]
              exact ih _ _ _ _ _ _ _ _ hsub h
            · rename_i q
              show (if _ then _ else _) = _
              rw [if_neg q]
              split at h
              · rename_i off ho
                try rw [ho]
                exact ih _ _ _ _ _ _ _ _ hsub h
              · cases h
          · cases h
        · exact h
        · exact h
        · exact h
        · rename_i x
          have hb : st1 S d mi (.new x) Lb st w = none := mNone (f := fun L => st1 S d mi (.new x) L st w) (by intro L M q; exact mNwo_car) hs
          rw [hb]
          exact h
        · rename_i x
          have hb : st1 S d mi (.invokevirtual x) Lb st w = none := mNone (f := fun L => st1 S d mi (.invokevirtual x) L st w) (by intro L M q; exact mIvt_car) hs
          rw [hb]
          try dsimp only
          split at h
          · rename_i hg
            try rw [hg]
            try dsimp only
            split at h
            · rename_i hp
              try rw [hp]
              try dsimp only
              split at h
              · rename_i q
                try rw [if_pos q]
                split at h
                · rename_i hcal
                  try rw [hcal]
                  exact ih _ _ _ _ _ _ _ _ hsub h
                · cases h
              · cases h
            · cases h
          · cases h
        · rename_i x
          have hb : st1 S d mi (.invokespecial x) Lb st w = none := mNone (f := fun L => st1 S d mi (.invokespecial x) L st w) (by intro L M q; exact mIsp_car) hs
          rw [hb]
          try dsimp only
          split at h
          · rename_i hg
            try rw [hg]
            try dsimp only
            split at h
            · rename_i hp
              try rw [hp]
              try dsimp only
              split at h
              · rename_i q
                try rw [if_pos q]
                split at h
                · rename_i hcal
                  try rw [hcal]
                  exact ih _ _ _ _ _ _ _ _ hsub h
                · cases h
              · cases h
            · cases h
          · cases h
        · rename_i x
          have hb : st1 S d mi (.invokestatic x) Lb st w = none := mNone (f := fun L => st1 S d mi (.invokestatic x) L st w) (by intro L M q; exact mIst_car) hs
          rw [hb]
          try dsimp only
          split at h
          · rename_i hg
            try rw [hg]
            try dsimp only
            split at h
            · rename_i hp
              try rw [hp]
              try dsimp only
              split at h
              · rename_i q
                try rw [if_pos q]
                split at h
                · rename_i q2
                  try rw [if_pos q2]
                  split at h
                  · try dsimp only
                    split at h
                    · rename_i h4 h9
                      try rw [h4, h9]
                      try dsimp only
                      split at h
                      · rename_i hcal
                        try rw [hcal]
                        exact ih _ _ _ _ _ _ _ _ hsub h
                      · rename_i hcal
                        try rw [hcal]
                        exact ih _ _ _ _ _ _ _ _ hsub h
                      · cases h
                    · cases h
                  · cases h
                · rename_i q2
                  try rw [if_neg q2]
                  split at h
                  · rename_i hcal
                    try rw [hcal]
                    exact ih _ _ _ _ _ _ _ _ hsub h
                  · cases h
              · cases h
            · cases h
          · cases h
        · cases h
theorem wp_sub {d mi pc : Nat} {Lo Lb : mL} {st : List Value} {w : mW} {Q : mO → mW → Prop} (hs : mSub Lo Lb) (h : wp S d mi pc Lo st w Q) : wp S d mi pc Lb st w Q := by
  obtain ⟨n, o, w', h1, h2⟩ := h
  exact ⟨n, o, w', ex_sub _ _ _ _ _ _ _ _ _ hs h1, h2⟩
end SUB
end
section
section VH
variable {S : Nat × (Nat → Int32)} {d mi pc : Nat} {Lo : mL} {st r : List Value} {x : mX} {I : rI0} {J : rJ0} {Q : mO → mW → Prop}
theorem wq_sln {k1 nn a : Nat} {v : Int32} (hc : cod mi pc = some (.invokevirtual k1, 3)) (hg : mLk gCall (gO mi) k1 = some (1002, nn)) (ha : mScr < a ∧ a ≤ 1000005) (hr : mCat r ≤ 8) (hv : Int32.ofNat (gSb.getD (a - 1000001) []).length = v) (k : wp S (d + 7) mi (pc + 3) Lo (.int v :: r) (wv x I J) Q) : wp S (d + 7) mi pc Lo (.ref a :: r) (wv x I J) Q := by
  subst hv
  refine wp_st hc ?_ k
  show mIvt (d + 7) mi k1 Lo (.ref a :: r) (wv x I J) = _
  unfold mIvt
  rw [hg]
  exact if_pos ⟨by omega, hr, ha.1, ha.2⟩
theorem wq_sch {k1 nn a len : Nat} {j : Int32} (hc : cod mi pc = some (.invokevirtual k1, 3)) (hg : mLk gCall (gO mi) k1 = some (1003, nn)) (ha : mScr < a ∧ a ≤ 1000005) (hr : mCat r ≤ 8) (hl : (gSb.getD (a - 1000001) []).length = len) (hj : ¬ mOut j len) (k : wp S (d + 7) mi (pc + 3) Lo (.int ((gSb.getD (a - 1000001) []).getD j.toNatClampNeg 0) :: r) (wv x I J) Q) : wp S (d + 7) mi pc Lo (.int j :: .ref a :: r) (wv x I J) Q := by
  subst hl
  refine wp_st hc ?_ k
  show mIvt (d + 7) mi k1 Lo (.int j :: .ref a :: r) (wv x I J) = _
  unfold mIvt
  rw [hg]
  exact if_pos ⟨by omega, hr, ha.1, ha.2, hj⟩
theorem wq_cpI {k1 nn a0 a n0 n1 : Nat} {sp dp n : Int32} (hc : cod mi pc = some (.invokestatic k1, 3)) (hg : mLk gCall (gO mi) k1 = some (1001, nn)) (h0 : (SHL ++ x.1)[a0]? = some (1, n0)) (h1 : (SHL ++ x.1)[a]? = some (1, n1)) (hb : ¬ sp < 0 ∧ ¬ dp < 0 ∧ ¬ n < 0 ∧ sp.toNatClampNeg + n.toNatClampNeg ≤ n0 ∧ dp.toNatClampNeg + n.toNatClampNeg ≤ n1) (hr : mCat r ≤ 8) (k : wp S (d + 1) mi (pc + 3) Lo r (wv x (va_up I a (va_cpy (I a0) (I a) sp.toNatClampNeg dp.toNatClampNeg n.toNatClampNeg)) J) Q) : wp S (d + 1) mi pc Lo (.int n :: .int dp :: .ref a :: .int sp :: .ref a0 :: r) (wv x I J) Q := by
  refine wp_st hc ?_ k
  show mIst (d + 1) mi k1 Lo (.int n :: .int dp :: .ref a :: .int sp :: .ref a0 :: r) (wv x I J) = _
  have h0 : (wS (wv x I J))[a0]? = some (1, n0) := h0
  have h1 : (wS (wv x I J))[a]? = some (1, n1) := h1
  unfold mIst
  rw [hg]
  show mAcp (d + 1) Lo (.int n :: .int dp :: .ref a :: .int sp :: .ref a0 :: r) (wv x I J) = _
  unfold mAcp
  dsimp only
  rw [if_pos ⟨Nat.succ_pos d, hr, hb.1, hb.2.1, hb.2.2.1⟩]
  unfold mCpy
  rw [h0, h1]
  exact if_neg (by omega)
theorem wq_cpJ {k1 nn a0 a n0 n1 : Nat} {sp dp n : Int32} (hc : cod mi pc = some (.invokestatic k1, 3)) (hg : mLk gCall (gO mi) k1 = some (1001, nn)) (h0 : (SHL ++ x.1)[a0]? = some (4, n0)) (h1 : (SHL ++ x.1)[a]? = some (4, n1)) (hb : ¬ sp < 0 ∧ ¬ dp < 0 ∧ ¬ n < 0 ∧ sp.toNatClampNeg + n.toNatClampNeg ≤ n0 ∧ dp.toNatClampNeg + n.toNatClampNeg ≤ n1) (hr : mCat r ≤ 8) (k : wp S (d + 1) mi (pc + 3) Lo r (wv x I (va_up J a (va_cpy (J a0) (J a) sp.toNatClampNeg dp.toNatClampNeg n.toNatClampNeg))) Q) : wp S (d + 1) mi pc Lo (.int n :: .int dp :: .ref a :: .int sp :: .ref a0 :: r) (wv x I J) Q := by
  refine wp_st hc ?_ k
  show mIst (d + 1) mi k1 Lo (.int n :: .int dp :: .ref a :: .int sp :: .ref a0 :: r) (wv x I J) = _
  have h0 : (wS (wv x I J))[a0]? = some (4, n0) := h0
  have h1 : (wS (wv x I J))[a]? = some (4, n1) := h1
  unfold mIst
  rw [hg]
  show mAcp (d + 1) Lo (.int n :: .int dp :: .ref a :: .int sp :: .ref a0 :: r) (wv x I J) = _
  unfold mAcp
  dsimp only
  rw [if_pos ⟨Nat.succ_pos d, hr, hb.1, hb.2.1, hb.2.2.1⟩]
  unfold mCpy
  rw [h0, h1]
  exact if_neg (by omega)
theorem wt_tab {df lo hi : Int} {offs : Array Int} {len nn : Nat} {x1 : Int32} (hc : cod mi pc = some (.tableswitch df lo hi offs, len)) (hn : offs.size = nn ∧ hi = lo + (nn : Int) - 1) (kd : x1.toInt < lo ∨ hi < x1.toInt → wp S d mi (mTgt pc df) Lo r (wv x I J) Q) (ki : ∀ i : Nat, i < nn → x1.toInt = lo + (i : Int) → wp S d mi (mTgt pc (offs.getD i 0)) Lo r (wv x I J) Q) : wp S d mi pc Lo (.int x1 :: r) (wv x I J) Q := by
  refine wp_tab hc kd (fun off q ho => ?_) (fun q => by omega)
  have h1 := ki (x1.toInt - lo).toNat (by omega) (by omega)
  have h2 : offs.getD (x1.toInt - lo).toNat 0 = off := by rw [Array.getD_eq_getD_getElem?, ho]; rfl
  rw [h2] at h1
  exact h1
end VH
end
section
theorem hC2 : gCs.getD 2 [] = gC2 := rfl
theorem hC3 : gCs.getD 3 [] = gC3 := rfl
theorem hC4 : gCs.getD 4 [] = gC4 := rfl
theorem hC6 : gCs.getD 6 [] = gC6 := rfl
theorem hC7 : gCs.getD 7 [] = gC7 := rfl
theorem hC8 : gCs.getD 8 [] = gC8 := rfl
theorem hC9 : gCs.getD 9 [] = gC9 := rfl
theorem hC10 : gCs.getD 10 [] = gC10 := rfl
theorem hC11 : gCs.getD 11 [] = gC11 := rfl
theorem hC12 : gCs.getD 12 [] = gC12 := rfl
theorem hC14 : gCs.getD 14 [] = gC14 := rfl
theorem hC15 : gCs.getD 15 [] = gC15 := rfl
theorem hC16 : gCs.getD 16 [] = gC16 := rfl
theorem hC17 : gCs.getD 17 [] = gC17 := rfl
theorem hC18 : gCs.getD 18 [] = gC18 := rfl
theorem hC19 : gCs.getD 19 [] = gC19 := rfl
theorem hC21 : gCs.getD 21 [] = gC21 := rfl
theorem hC22 : gCs.getD 22 [] = gC22 := rfl
theorem hC23 : gCs.getD 23 [] = gC23 := rfl
theorem hC24 : gCs.getD 24 [] = gC24 := rfl
theorem hC25 : gCs.getD 25 [] = gC25 := rfl
theorem hC26 : gCs.getD 26 [] = gC26 := rfl
theorem hC28 : gCs.getD 28 [] = gC28 := rfl
theorem hC29 : gCs.getD 29 [] = gC29 := rfl
theorem hC30 : gCs.getD 30 [] = gC30 := rfl
theorem hC31 : gCs.getD 31 [] = gC31 := rfl
theorem hC32 : gCs.getD 32 [] = gC32 := rfl
theorem hC33 : gCs.getD 33 [] = gC33 := rfl
theorem hC34 : gCs.getD 34 [] = gC34 := rfl
theorem hC36 : gCs.getD 36 [] = gC36 := rfl
theorem hC37 : gCs.getD 37 [] = gC37 := rfl
theorem hC38 : gCs.getD 38 [] = gC38 := rfl
theorem hC39 : gCs.getD 39 [] = gC39 := rfl
theorem hC40 : gCs.getD 40 [] = gC40 := rfl
theorem hC41 : gCs.getD 41 [] = gC41 := rfl
theorem hC42 : gCs.getD 42 [] = gC42 := rfl
theorem hC43 : gCs.getD 43 [] = gC43 := rfl
theorem hC44 : gCs.getD 44 [] = gC44 := rfl
theorem hC45 : gCs.getD 45 [] = gC45 := rfl
theorem hC46 : gCs.getD 46 [] = gC46 := rfl
theorem hC47 : gCs.getD 47 [] = gC47 := rfl
theorem hC48 : gCs.getD 48 [] = gC48 := rfl
theorem hC50 : gCs.getD 50 [] = gC50 := rfl
theorem hC51 : gCs.getD 51 [] = gC51 := rfl
theorem hC52 : gCs.getD 52 [] = gC52 := rfl
theorem hC53 : gCs.getD 53 [] = gC53 := rfl
theorem hC54 : gCs.getD 54 [] = gC54 := rfl
theorem hC55 : gCs.getD 55 [] = gC55 := rfl
theorem hC56 : gCs.getD 56 [] = gC56 := rfl
theorem hC57 : gCs.getD 57 [] = gC57 := rfl
theorem hC58 : gCs.getD 58 [] = gC58 := rfl
theorem hC59 : gCs.getD 59 [] = gC59 := rfl
theorem hC60 : gCs.getD 60 [] = gC60 := rfl
theorem hC61 : gCs.getD 61 [] = gC61 := rfl
theorem hC62 : gCs.getD 62 [] = gC62 := rfl
theorem hC63 : gCs.getD 63 [] = gC63 := rfl
theorem hC64 : gCs.getD 64 [] = gC64 := rfl
theorem hC66 : gCs.getD 66 [] = gC66 := rfl
theorem hC67 : gCs.getD 67 [] = gC67 := rfl
theorem hC69 : gCs.getD 69 [] = gC69 := rfl
theorem hC70 : gCs.getD 70 [] = gC70 := rfl
theorem hC71 : gCs.getD 71 [] = gC71 := rfl
theorem hC72 : gCs.getD 72 [] = gC72 := rfl
theorem hC73 : gCs.getD 73 [] = gC73 := rfl
theorem hC74 : gCs.getD 74 [] = gC74 := rfl
theorem hC75 : gCs.getD 75 [] = gC75 := rfl
theorem hC76 : gCs.getD 76 [] = gC76 := rfl
theorem hC77 : gCs.getD 77 [] = gC77 := rfl
theorem hC78 : gCs.getD 78 [] = gC78 := rfl
theorem hC80 : gCs.getD 80 [] = gC80 := rfl
theorem hC81 : gCs.getD 81 [] = gC81 := rfl
theorem hC82 : gCs.getD 82 [] = gC82 := rfl
theorem hC83 : gCs.getD 83 [] = gC83 := rfl
theorem hC84 : gCs.getD 84 [] = gC84 := rfl
theorem hC85 : gCs.getD 85 [] = gC85 := rfl
theorem hC86 : gCs.getD 86 [] = gC86 := rfl
theorem hC87 : gCs.getD 87 [] = gC87 := rfl
theorem hC88 : gCs.getD 88 [] = gC88 := rfl
theorem hC89 : gCs.getD 89 [] = gC89 := rfl
theorem hC90 : gCs.getD 90 [] = gC90 := rfl
theorem hC92 : gCs.getD 92 [] = gC92 := rfl
theorem hC93 : gCs.getD 93 [] = gC93 := rfl
theorem hC94 : gCs.getD 94 [] = gC94 := rfl
theorem hC95 : gCs.getD 95 [] = gC95 := rfl
theorem hC96 : gCs.getD 96 [] = gC96 := rfl
theorem hC97 : gCs.getD 97 [] = gC97 := rfl
theorem hC99 : gCs.getD 99 [] = gC99 := rfl
theorem hC100 : gCs.getD 100 [] = gC100 := rfl
theorem hC101 : gCs.getD 101 [] = gC101 := rfl
theorem hC102 : gCs.getD 102 [] = gC102 := rfl
theorem hC104 : gCs.getD 104 [] = gC104 := rfl
theorem hC105 : gCs.getD 105 [] = gC105 := rfl
theorem hC106 : gCs.getD 106 [] = gC106 := rfl
theorem hC107 : gCs.getD 107 [] = gC107 := rfl
theorem hC109 : gCs.getD 109 [] = gC109 := rfl
theorem hC110 : gCs.getD 110 [] = gC110 := rfl
theorem hC111 : gCs.getD 111 [] = gC111 := rfl
theorem hC112 : gCs.getD 112 [] = gC112 := rfl
theorem hC113 : gCs.getD 113 [] = gC113 := rfl
theorem hC114 : gCs.getD 114 [] = gC114 := rfl
theorem hC115 : gCs.getD 115 [] = gC115 := rfl
theorem hC116 : gCs.getD 116 [] = gC116 := rfl
theorem hC117 : gCs.getD 117 [] = gC117 := rfl
theorem hC118 : gCs.getD 118 [] = gC118 := rfl
theorem hC119 : gCs.getD 119 [] = gC119 := rfl
theorem hC120 : gCs.getD 120 [] = gC120 := rfl
theorem hC121 : gCs.getD 121 [] = gC121 := rfl
theorem hC122 : gCs.getD 122 [] = gC122 := rfl
theorem hC123 : gCs.getD 123 [] = gC123 := rfl
theorem hC125 : gCs.getD 125 [] = gC125 := rfl
theorem hC126 : gCs.getD 126 [] = gC126 := rfl
theorem hC127 : gCs.getD 127 [] = gC127 := rfl
theorem hC128 : gCs.getD 128 [] = gC128 := rfl
theorem hC129 : gCs.getD 129 [] = gC129 := rfl
theorem hC130 : gCs.getD 130 [] = gC130 := rfl
theorem hC131 : gCs.getD 131 [] = gC131 := rfl
theorem hC132 : gCs.getD 132 [] = gC132 := rfl
theorem hC133 : gCs.getD 133 [] = gC133 := rfl
theorem hC134 : gCs.getD 134 [] = gC134 := rfl
theorem hC135 : gCs.getD 135 [] = gC135 := rfl
theorem hC136 : gCs.getD 136 [] = gC136 := rfl
theorem hC139 : gCs.getD 139 [] = gC139 := rfl
theorem hC140 : gCs.getD 140 [] = gC140 := rfl
theorem hC141 : gCs.getD 141 [] = gC141 := rfl
theorem hC142 : gCs.getD 142 [] = gC142 := rfl
theorem hC143 : gCs.getD 143 [] = gC143 := rfl
theorem hC144 : gCs.getD 144 [] = gC144 := rfl
theorem hC145 : gCs.getD 145 [] = gC145 := rfl
theorem hC146 : gCs.getD 146 [] = gC146 := rfl
theorem hC147 : gCs.getD 147 [] = gC147 := rfl
theorem hC148 : gCs.getD 148 [] = gC148 := rfl
theorem hC149 : gCs.getD 149 [] = gC149 := rfl
theorem hC150 : gCs.getD 150 [] = gC150 := rfl
theorem hC151 : gCs.getD 151 [] = gC151 := rfl
theorem hC152 : gCs.getD 152 [] = gC152 := rfl
theorem hC153 : gCs.getD 153 [] = gC153 := rfl
theorem hC154 : gCs.getD 154 [] = gC154 := rfl
theorem hC155 : gCs.getD 155 [] = gC155 := rfl
theorem hC157 : gCs.getD 157 [] = gC157 := rfl
theorem hC158 : gCs.getD 158 [] = gC158 := rfl
theorem hC159 : gCs.getD 159 [] = gC159 := rfl
theorem hC160 : gCs.getD 160 [] = gC160 := rfl
theorem hC161 : gCs.getD 161 [] = gC161 := rfl
theorem hC162 : gCs.getD 162 [] = gC162 := rfl
theorem hC163 : gCs.getD 163 [] = gC163 := rfl
theorem hC164 : gCs.getD 164 [] = gC164 := rfl
theorem hC165 : gCs.getD 165 [] = gC165 := rfl
theorem hC166 : gCs.getD 166 [] = gC166 := rfl
theorem hC167 : gCs.getD 167 [] = gC167 := rfl
theorem hC168 : gCs.getD 168 [] = gC168 := rfl
theorem hC169 : gCs.getD 169 [] = gC169 := rfl
theorem hC170 : gCs.getD 170 [] = gC170 := rfl
theorem hC171 : gCs.getD 171 [] = gC171 := rfl
theorem hC172 : gCs.getD 172 [] = gC172 := rfl
theorem hC173 : gCs.getD 173 [] = gC173 := rfl
theorem hC174 : gCs.getD 174 [] = gC174 := rfl
theorem hC175 : gCs.getD 175 [] = gC175 := rfl
theorem hC176 : gCs.getD 176 [] = gC176 := rfl
theorem hC177 : gCs.getD 177 [] = gC177 := rfl
theorem hC178 : gCs.getD 178 [] = gC178 := rfl
theorem hC179 : gCs.getD 179 [] = gC179 := rfl
theorem hC180 : gCs.getD 180 [] = gC180 := rfl
theorem hC181 : gCs.getD 181 [] = gC181 := rfl
theorem hC182 : gCs.getD 182 [] = gC182 := rfl
theorem hC183 : gCs.getD 183 [] = gC183 := rfl
theorem hC184 : gCs.getD 184 [] = gC184 := rfl
theorem hC185 : gCs.getD 185 [] = gC185 := rfl
theorem hC186 : gCs.getD 186 [] = gC186 := rfl
theorem hC187 : gCs.getD 187 [] = gC187 := rfl
theorem hC188 : gCs.getD 188 [] = gC188 := rfl
theorem hC189 : gCs.getD 189 [] = gC189 := rfl
theorem hC190 : gCs.getD 190 [] = gC190 := rfl
theorem hC191 : gCs.getD 191 [] = gC191 := rfl
theorem hC192 : gCs.getD 192 [] = gC192 := rfl
theorem hC193 : gCs.getD 193 [] = gC193 := rfl
theorem hC194 : gCs.getD 194 [] = gC194 := rfl
theorem hC195 : gCs.getD 195 [] = gC195 := rfl
theorem hC196 : gCs.getD 196 [] = gC196 := rfl
theorem hC197 : gCs.getD 197 [] = gC197 := rfl
theorem hC198 : gCs.getD 198 [] = gC198 := rfl
theorem hC199 : gCs.getD 199 [] = gC199 := rfl
theorem hC200 : gCs.getD 200 [] = gC200 := rfl
theorem hC201 : gCs.getD 201 [] = gC201 := rfl
theorem hC202 : gCs.getD 202 [] = gC202 := rfl
theorem hC203 : gCs.getD 203 [] = gC203 := rfl
theorem hC204 : gCs.getD 204 [] = gC204 := rfl
theorem hC205 : gCs.getD 205 [] = gC205 := rfl
theorem hC206 : gCs.getD 206 [] = gC206 := rfl
theorem hC207 : gCs.getD 207 [] = gC207 := rfl
theorem hC208 : gCs.getD 208 [] = gC208 := rfl
theorem hC209 : gCs.getD 209 [] = gC209 := rfl
theorem hC210 : gCs.getD 210 [] = gC210 := rfl
theorem hC211 : gCs.getD 211 [] = gC211 := rfl
theorem hC212 : gCs.getD 212 [] = gC212 := rfl
theorem hC213 : gCs.getD 213 [] = gC213 := rfl
theorem hC214 : gCs.getD 214 [] = gC214 := rfl
theorem hC215 : gCs.getD 215 [] = gC215 := rfl
theorem hC216 : gCs.getD 216 [] = gC216 := rfl
theorem hC217 : gCs.getD 217 [] = gC217 := rfl
theorem hC218 : gCs.getD 218 [] = gC218 := rfl
theorem hC219 : gCs.getD 219 [] = gC219 := rfl
theorem hC220 : gCs.getD 220 [] = gC220 := rfl
theorem hC221 : gCs.getD 221 [] = gC221 := rfl
theorem hC222 : gCs.getD 222 [] = gC222 := rfl
theorem hC223 : gCs.getD 223 [] = gC223 := rfl
theorem hC224 : gCs.getD 224 [] = gC224 := rfl
theorem hC225 : gCs.getD 225 [] = gC225 := rfl
theorem hC226 : gCs.getD 226 [] = gC226 := rfl
theorem hC227 : gCs.getD 227 [] = gC227 := rfl
theorem hC228 : gCs.getD 228 [] = gC228 := rfl
theorem hC229 : gCs.getD 229 [] = gC229 := rfl
theorem hC230 : gCs.getD 230 [] = gC230 := rfl
theorem hC231 : gCs.getD 231 [] = gC231 := rfl
theorem hC232 : gCs.getD 232 [] = gC232 := rfl
theorem hC233 : gCs.getD 233 [] = gC233 := rfl
theorem hC234 : gCs.getD 234 [] = gC234 := rfl
theorem hC235 : gCs.getD 235 [] = gC235 := rfl
theorem hC236 : gCs.getD 236 [] = gC236 := rfl
theorem hC237 : gCs.getD 237 [] = gC237 := rfl
theorem hC238 : gCs.getD 238 [] = gC238 := rfl
theorem hC239 : gCs.getD 239 [] = gC239 := rfl
theorem hC240 : gCs.getD 240 [] = gC240 := rfl
theorem hC241 : gCs.getD 241 [] = gC241 := rfl
theorem hC242 : gCs.getD 242 [] = gC242 := rfl
theorem hC243 : gCs.getD 243 [] = gC243 := rfl
theorem hC244 : gCs.getD 244 [] = gC244 := rfl
theorem hC245 : gCs.getD 245 [] = gC245 := rfl
theorem hC249 : gCs.getD 249 [] = gC249 := rfl
theorem hC250 : gCs.getD 250 [] = gC250 := rfl
theorem hC251 : gCs.getD 251 [] = gC251 := rfl
theorem hC252 : gCs.getD 252 [] = gC252 := rfl
end
