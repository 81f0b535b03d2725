theorem gHelp0 : ∀ q ∈ gCall, 246 ≤ q.2.2.1 → q.2.2.1 ≤ 248 → q.2.2.2 = 0 := by decide +kernel
theorem mNotLaw2 {mj : Nat} (h0 : mj ≠ 0) (h1 : ¬ (246 ≤ mj ∧ mj ≤ 248)) : gLw mj = false := by
  cases h : gLw mj with
  | false => rfl
  | true =>
    exfalso
    unfold gLw at h
    simp only [Bool.or_eq_true] at h
    rcases h with ((h | h) | h) | h <;> (have h := Nat.eq_of_beq_eq_true h; omega)
theorem mNotLaw {mj : Nat} (hj : mj < 253) (hk : ¬ (gMe mj).2.2.2.2.2.2 = 0) : gLw mj = false := by
  cases h : gLw mj with
  | false => rfl
  | true =>
    exfalso
    unfold gLw at h
    simp only [Bool.or_eq_true] at h
    rcases h with ((h | h) | h) | h <;> (have h := Nat.eq_of_beq_eq_true h; subst h; exact hk rfl)
theorem mSpY {mj : Nat} (h : mj < 1000) : gSpY mj = (gMe mj).1 := by
  unfold gSpY
  split <;> first | omega | rfl
theorem st1_mono {S : Nat × (Nat → Int32)} {d mi : Nat} {i : Instr} {Lo Lo1 : mL} {st st1' : List Value} {w w1 : mW} (h : st1 S d mi i Lo st w = some (Lo1, st1', w1)) : w.1.length ≤ w1.1.length ∧ wZ w ≤ wZ w1 := by
  cases i
  case iconst n =>
    cases h
    exact ⟨Nat.le_refl _, Nat.le_refl _⟩
  case bipush n =>
    cases h
    exact ⟨Nat.le_refl _, Nat.le_refl _⟩
  case sipush n =>
    cases h
    exact ⟨Nat.le_refl _, Nat.le_refl _⟩
  case lconst n =>
    cases h
    exact ⟨Nat.le_refl _, Nat.le_refl _⟩
  case iload k =>
    obtain ⟨x, hv, hq⟩ := mLdI_inv h
    cases hq
    exact ⟨Nat.le_refl _, Nat.le_refl _⟩
  case iload_n k =>
    obtain ⟨x, hv, hq⟩ := mLdI_inv h
    cases hq
    exact ⟨Nat.le_refl _, Nat.le_refl _⟩
  case lload k =>
    obtain ⟨x, hv, hq⟩ := mLdL_inv h
    cases hq
    exact ⟨Nat.le_refl _, Nat.le_refl _⟩
  case lload_n k =>
    obtain ⟨x, hv, hq⟩ := mLdL_inv h
    cases hq
    exact ⟨Nat.le_refl _, Nat.le_refl _⟩
  case aload k =>
    obtain ⟨x, hv, hq⟩ := mLdA_inv h
    cases hq
    exact ⟨Nat.le_refl _, Nat.le_refl _⟩
  case aload_n k =>
    obtain ⟨x, hv, hq⟩ := mLdA_inv h
    cases hq
    exact ⟨Nat.le_refl _, Nat.le_refl _⟩
  case istore k =>
    obtain ⟨x, r, L, rfl, hL, hq⟩ := mStI_inv h
    cases hq
    exact ⟨Nat.le_refl _, Nat.le_refl _⟩
  case istore_n k =>
    obtain ⟨x, r, L, rfl, hL, hq⟩ := mStI_inv h
    cases hq
    exact ⟨Nat.le_refl _, Nat.le_refl _⟩
  case lstore k =>
    obtain ⟨x, r, L, rfl, hL, hq⟩ := mStL_inv h
    cases hq
    exact ⟨Nat.le_refl _, Nat.le_refl _⟩
  case lstore_n k =>
    obtain ⟨x, r, L, rfl, hL, hq⟩ := mStL_inv h
    cases hq
    exact ⟨Nat.le_refl _, Nat.le_refl _⟩
  case astore k =>
    obtain ⟨x, r, L, rfl, hL, hq⟩ := mStA_inv h
    cases hq
    exact ⟨Nat.le_refl _, Nat.le_refl _⟩
  case astore_n k =>
    obtain ⟨x, r, L, rfl, hL, hq⟩ := mStA_inv h
    cases hq
    exact ⟨Nat.le_refl _, Nat.le_refl _⟩
  case iinc k n =>
    obtain ⟨x, L, hv, hL, hq⟩ := mInc_inv h
    cases hq
    exact ⟨Nat.le_refl _, Nat.le_refl _⟩
  case iadd =>
    rcases mDef_inv (i := .iadd) h with ⟨x, y, r, v, rfl, hv, hq⟩ | ⟨x, y, r, v, rfl, hv, hq⟩ | ⟨x, y, r, v, rfl, hv, hq⟩ <;> cases hq <;> exact ⟨Nat.le_refl _, Nat.le_refl _⟩
  case isub =>
    rcases mDef_inv (i := .isub) h with ⟨x, y, r, v, rfl, hv, hq⟩ | ⟨x, y, r, v, rfl, hv, hq⟩ | ⟨x, y, r, v, rfl, hv, hq⟩ <;> cases hq <;> exact ⟨Nat.le_refl _, Nat.le_refl _⟩
  case imul =>
    rcases mDef_inv (i := .imul) h with ⟨x, y, r, v, rfl, hv, hq⟩ | ⟨x, y, r, v, rfl, hv, hq⟩ | ⟨x, y, r, v, rfl, hv, hq⟩ <;> cases hq <;> exact ⟨Nat.le_refl _, Nat.le_refl _⟩
  case iand =>
    rcases mDef_inv (i := .iand) h with ⟨x, y, r, v, rfl, hv, hq⟩ | ⟨x, y, r, v, rfl, hv, hq⟩ | ⟨x, y, r, v, rfl, hv, hq⟩ <;> cases hq <;> exact ⟨Nat.le_refl _, Nat.le_refl _⟩
  case ior =>
    rcases mDef_inv (i := .ior) h with ⟨x, y, r, v, rfl, hv, hq⟩ | ⟨x, y, r, v, rfl, hv, hq⟩ | ⟨x, y, r, v, rfl, hv, hq⟩ <;> cases hq <;> exact ⟨Nat.le_refl _, Nat.le_refl _⟩
  case ixor =>
    rcases mDef_inv (i := .ixor) h with ⟨x, y, r, v, rfl, hv, hq⟩ | ⟨x, y, r, v, rfl, hv, hq⟩ | ⟨x, y, r, v, rfl, hv, hq⟩ <;> cases hq <;> exact ⟨Nat.le_refl _, Nat.le_refl _⟩
  case ishl =>
    rcases mDef_inv (i := .ishl) h with ⟨x, y, r, v, rfl, hv, hq⟩ | ⟨x, y, r, v, rfl, hv, hq⟩ | ⟨x, y, r, v, rfl, hv, hq⟩ <;> cases hq <;> exact ⟨Nat.le_refl _, Nat.le_refl _⟩
  case ishr =>
    rcases mDef_inv (i := .ishr) h with ⟨x, y, r, v, rfl, hv, hq⟩ | ⟨x, y, r, v, rfl, hv, hq⟩ | ⟨x, y, r, v, rfl, hv, hq⟩ <;> cases hq <;> exact ⟨Nat.le_refl _, Nat.le_refl _⟩
  case iushr =>
    rcases mDef_inv (i := .iushr) h with ⟨x, y, r, v, rfl, hv, hq⟩ | ⟨x, y, r, v, rfl, hv, hq⟩ | ⟨x, y, r, v, rfl, hv, hq⟩ <;> cases hq <;> exact ⟨Nat.le_refl _, Nat.le_refl _⟩
  case idiv =>
    rcases mDef_inv (i := .idiv) h with ⟨x, y, r, v, rfl, hv, hq⟩ | ⟨x, y, r, v, rfl, hv, hq⟩ | ⟨x, y, r, v, rfl, hv, hq⟩ <;> cases hq <;> exact ⟨Nat.le_refl _, Nat.le_refl _⟩
  case irem =>
    rcases mDef_inv (i := .irem) h with ⟨x, y, r, v, rfl, hv, hq⟩ | ⟨x, y, r, v, rfl, hv, hq⟩ | ⟨x, y, r, v, rfl, hv, hq⟩ <;> cases hq <;> exact ⟨Nat.le_refl _, Nat.le_refl _⟩
  case ladd =>
    rcases mDef_inv (i := .ladd) h with ⟨x, y, r, v, rfl, hv, hq⟩ | ⟨x, y, r, v, rfl, hv, hq⟩ | ⟨x, y, r, v, rfl, hv, hq⟩ <;> cases hq <;> exact ⟨Nat.le_refl _, Nat.le_refl _⟩
  case lsub =>
    rcases mDef_inv (i := .lsub) h with ⟨x, y, r, v, rfl, hv, hq⟩ | ⟨x, y, r, v, rfl, hv, hq⟩ | ⟨x, y, r, v, rfl, hv, hq⟩ <;> cases hq <;> exact ⟨Nat.le_refl _, Nat.le_refl _⟩
  case lmul =>
    rcases mDef_inv (i := .lmul) h with ⟨x, y, r, v, rfl, hv, hq⟩ | ⟨x, y, r, v, rfl, hv, hq⟩ | ⟨x, y, r, v, rfl, hv, hq⟩ <;> cases hq <;> exact ⟨Nat.le_refl _, Nat.le_refl _⟩
  case land =>
    rcases mDef_inv (i := .land) h with ⟨x, y, r, v, rfl, hv, hq⟩ | ⟨x, y, r, v, rfl, hv, hq⟩ | ⟨x, y, r, v, rfl, hv, hq⟩ <;> cases hq <;> exact ⟨Nat.le_refl _, Nat.le_refl _⟩
  case lor =>
    rcases mDef_inv (i := .lor) h with ⟨x, y, r, v, rfl, hv, hq⟩ | ⟨x, y, r, v, rfl, hv, hq⟩ | ⟨x, y, r, v, rfl, hv, hq⟩ <;> cases hq <;> exact ⟨Nat.le_refl _, Nat.le_refl _⟩
  case lxor =>
    rcases mDef_inv (i := .lxor) h with ⟨x, y, r, v, rfl, hv, hq⟩ | ⟨x, y, r, v, rfl, hv, hq⟩ | ⟨x, y, r, v, rfl, hv, hq⟩ <;> cases hq <;> exact ⟨Nat.le_refl _, Nat.le_refl _⟩
  case ldiv =>
    rcases mDef_inv (i := .ldiv) h with ⟨x, y, r, v, rfl, hv, hq⟩ | ⟨x, y, r, v, rfl, hv, hq⟩ | ⟨x, y, r, v, rfl, hv, hq⟩ <;> cases hq <;> exact ⟨Nat.le_refl _, Nat.le_refl _⟩
  case lrem =>
    rcases mDef_inv (i := .lrem) h with ⟨x, y, r, v, rfl, hv, hq⟩ | ⟨x, y, r, v, rfl, hv, hq⟩ | ⟨x, y, r, v, rfl, hv, hq⟩ <;> cases hq <;> exact ⟨Nat.le_refl _, Nat.le_refl _⟩
  case lshl =>
    rcases mDef_inv (i := .lshl) h with ⟨x, y, r, v, rfl, hv, hq⟩ | ⟨x, y, r, v, rfl, hv, hq⟩ | ⟨x, y, r, v, rfl, hv, hq⟩ <;> cases hq <;> exact ⟨Nat.le_refl _, Nat.le_refl _⟩
  case lshr =>
    rcases mDef_inv (i := .lshr) h with ⟨x, y, r, v, rfl, hv, hq⟩ | ⟨x, y, r, v, rfl, hv, hq⟩ | ⟨x, y, r, v, rfl, hv, hq⟩ <;> cases hq <;> exact ⟨Nat.le_refl _, Nat.le_refl _⟩
  case lushr =>
    rcases mDef_inv (i := .lushr) h with ⟨x, y, r, v, rfl, hv, hq⟩ | ⟨x, y, r, v, rfl, hv, hq⟩ | ⟨x, y, r, v, rfl, hv, hq⟩ <;> cases hq <;> exact ⟨Nat.le_refl _, Nat.le_refl _⟩
  case ineg =>
    obtain ⟨x, r, rfl, hq⟩ := mUnI_inv h
    cases hq
    exact ⟨Nat.le_refl _, Nat.le_refl _⟩
  case i2l =>
    obtain ⟨x, r, rfl, hq⟩ := mUnI_inv h
    cases hq
    exact ⟨Nat.le_refl _, Nat.le_refl _⟩
  case i2b =>
    obtain ⟨x, r, rfl, hq⟩ := mUnI_inv h
    cases hq
    exact ⟨Nat.le_refl _, Nat.le_refl _⟩
  case lneg =>
    obtain ⟨x, r, rfl, hq⟩ := mUnL_inv h
    cases hq
    exact ⟨Nat.le_refl _, Nat.le_refl _⟩
  case l2i =>
    obtain ⟨x, r, rfl, hq⟩ := mUnL_inv h
    cases hq
    exact ⟨Nat.le_refl _, Nat.le_refl _⟩
  case lcmp =>
    obtain ⟨x, y, r, rfl, hq⟩ := mCmp_inv h
    cases hq
    exact ⟨Nat.le_refl _, Nat.le_refl _⟩
  case dup =>
    obtain ⟨v, r, rfl, hv, hq⟩ := mDup_inv h
    cases hq
    exact ⟨Nat.le_refl _, Nat.le_refl _⟩
  case pop =>
    obtain ⟨v, r, rfl, hv, hq⟩ := mPp_inv h
    cases hq
    exact ⟨Nat.le_refl _, Nat.le_refl _⟩
  case dup2 =>
    obtain ⟨x, y, r, rfl, hq⟩ := mDup2_inv h
    cases hq
    exact ⟨Nat.le_refl _, Nat.le_refl _⟩
  case ldc k =>
    rcases mLdc_inv h with ⟨v, hv, hq⟩ | ⟨v, hv, hq⟩ <;> cases hq <;> exact ⟨Nat.le_refl _, Nat.le_refl _⟩
  case ldc_w k =>
    obtain ⟨v, hv, hq⟩ := mLdcW_inv h
    cases hq
    exact ⟨Nat.le_refl _, Nat.le_refl _⟩
  case ldc2_w k =>
    obtain ⟨v, hv, hq⟩ := mLdc2_inv h
    cases hq
    exact ⟨Nat.le_refl _, Nat.le_refl _⟩
  case getfield k =>
    obtain ⟨a, r, ci, j, rfl, h1, h2, hq⟩ := mGet_inv h
    cases hq
    exact ⟨Nat.le_refl _, Nat.le_refl _⟩
  case putfield k =>
    obtain ⟨v, a, r, ci, j, w9, rfl, h1, h2, hq, hv⟩ := mPut_inv h
    cases hq
    rcases hv with ⟨z, rfl, hf, hk, rfl⟩ | ⟨z, rfl, hf, hk, rfl⟩ | ⟨z, rfl, hf, hk, hi, ho, rfl⟩ <;> exact ⟨Nat.le_refl _, Nat.le_refl _⟩
  case iaload =>
    obtain ⟨j, a, r, rfl, hv⟩ := mIal_inv h
    rcases hv with ⟨rfl, hm, ho, hq⟩ | ⟨n, hn, ho, hq⟩ <;> cases hq <;> exact ⟨Nat.le_refl _, Nat.le_refl _⟩
  case baload =>
    obtain ⟨j, a, r, n, rfl, hn, ho, hq⟩ := mBal_inv h
    cases hq
    exact ⟨Nat.le_refl _, Nat.le_refl _⟩
  case laload =>
    obtain ⟨j, a, r, n, rfl, hn, ho, hq⟩ := mLal_inv h
    cases hq
    exact ⟨Nat.le_refl _, Nat.le_refl _⟩
  case aaload =>
    obtain ⟨j, a, r, n, rfl, hn, ho, hq⟩ := mAal_inv h
    cases hq
    exact ⟨Nat.le_refl _, Nat.le_refl _⟩
  case iastore =>
    obtain ⟨v, j, a, r, n, rfl, hn, ho, hq⟩ := mIas_inv h
    cases hq
    exact ⟨Nat.le_refl _, Nat.le_refl _⟩
  case bastore =>
    obtain ⟨v, j, a, r, n, rfl, ho, hv⟩ := mBas_inv h
    rcases hv with ⟨hn, hq⟩ | ⟨hn, hq⟩ <;> cases hq <;> exact ⟨Nat.le_refl _, Nat.le_refl _⟩
  case lastore =>
    obtain ⟨v, j, a, r, n, rfl, hn, ho, hq⟩ := mLas_inv h
    cases hq
    exact ⟨Nat.le_refl _, Nat.le_refl _⟩
  case aastore =>
    obtain ⟨v, j, a, r, n, rfl, hn, ho, hv, hq⟩ := mAas_inv h
    cases hq
    exact ⟨Nat.le_refl _, Nat.le_refl _⟩
  case arraylength =>
    obtain ⟨a, r, rfl, hv⟩ := mAln_inv h
    rcases hv with ⟨rfl, hm, hq⟩ | ⟨n, hn, hq⟩ <;> cases hq <;> exact ⟨Nat.le_refl _, Nat.le_refl _⟩
  case newarray t =>
    obtain ⟨n, r, rfl, hn0, hn1, hlt, ht, hq⟩ := mNwa_inv h
    cases hq
    exact ⟨by show w.1.length ≤ (w.1 ++ _).length; rw [List.length_append]; omega, Nat.le_add_right _ _⟩
  case anewarray k =>
    obtain ⟨n, r, rfl, hn0, hn1, hlt, ht, hq⟩ := mNwq_inv h
    cases hq
    exact ⟨by show w.1.length ≤ (w.1 ++ _).length; rw [List.length_append]; omega, Nat.le_add_right _ _⟩
  case new k =>
    obtain ⟨ci, ht, hci, hlt, hq⟩ := mNwo_inv h
    cases hq
    exact ⟨by show w.1.length ≤ (w.1 ++ _).length; rw [List.length_append]; omega, Nat.le_add_right _ _⟩
  case invokespecial k =>
    obtain ⟨a, r, rfl, hm, hd0, hr, hq⟩ := mIsp_inv h
    cases hq
    exact ⟨Nat.le_refl _, Nat.le_refl _⟩
  case invokestatic k =>
    obtain ⟨mj, nn, hg, hv⟩ := mIst_inv h
    rcases hv with ⟨rfl, hv⟩ | ⟨rfl, hv⟩ | ⟨rfl, hv⟩ | ⟨rfl, hv⟩
    · obtain ⟨n, dp, a, sp, a0, r, n0, n1, rfl, hd0, hr, g1, g2, g3, g4, g5, hv⟩ := mAcp_inv hv
      rcases hv with ⟨s0, s1, hq⟩ | ⟨s0, s1, hq⟩ <;> cases hq <;> exact ⟨Nat.le_refl _, Nat.le_refl _⟩
    · obtain ⟨x, y, r, rfl, hd0, hr, hq⟩ := mM2_inv hv
      cases hq
      exact ⟨Nat.le_refl _, Nat.le_refl _⟩
    · obtain ⟨x, y, r, rfl, hd0, hr, hq⟩ := mM2_inv hv
      cases hq
      exact ⟨Nat.le_refl _, Nat.le_refl _⟩
    · obtain ⟨x, r, rfl, hd0, hr, hq⟩ := mM1_inv hv
      cases hq
      exact ⟨Nat.le_refl _, Nat.le_refl _⟩
  case invokevirtual k =>
    obtain ⟨mj, nn, hg, hv⟩ := mIvt_inv h
    rcases hv with ⟨rfl, hv⟩ | ⟨rfl, hv⟩
    · obtain ⟨a, r, rfl, hd0, hr, ha0, ha1, hq⟩ := mSln_inv hv
      cases hq
      exact ⟨Nat.le_refl _, Nat.le_refl _⟩
    · obtain ⟨j, a, r, rfl, hd0, hr, ha0, ha1, ho, hq⟩ := mSch_inv hv
      cases hq
      exact ⟨Nat.le_refl _, Nat.le_refl _⟩
  all_goals exact absurd h (by simp [st1])
theorem i32_le {x y : Int32} : x ≤ y ↔ ¬ y < x := by
  rw [Int32.le_iff_toInt_le, Int32.lt_iff_toInt_lt]
  omega
theorem mBr_map {α : Type} {c : Jvm.ClassFile.Cond} {x y : Int32} {A B r : α} {P P' : Prop} (hA : A = r → P) (hB : B = r → P') (h : mBr c x y A B = r) : mBr c x y P P' := by
  cases c with
  | eq =>
    have h : (if x = y then A else B) = r := h
    show if x = y then P else P'
    by_cases q : x = y
    · rw [if_pos q] at h ⊢; exact hA h
    · rw [if_neg q] at h ⊢; exact hB h
  | ne =>
    have h : (if x = y then B else A) = r := h
    show if x = y then P' else P
    by_cases q : x = y
    · rw [if_pos q] at h ⊢; exact hB h
    · rw [if_neg q] at h ⊢; exact hA h
  | lt =>
    have h : (if x < y then A else B) = r := h
    show if x < y then P else P'
    by_cases q : x < y
    · rw [if_pos q] at h ⊢; exact hA h
    · rw [if_neg q] at h ⊢; exact hB h
  | ge =>
    have h : (if x < y then B else A) = r := h
    show if x < y then P' else P
    by_cases q : x < y
    · rw [if_pos q] at h ⊢; exact hB h
    · rw [if_neg q] at h ⊢; exact hA h
  | gt =>
    have h : (if y < x then A else B) = r := h
    show if y < x then P else P'
    by_cases q : y < x
    · rw [if_pos q] at h ⊢; exact hA h
    · rw [if_neg q] at h ⊢; exact hB h
  | le =>
    have h : (if y < x then B else A) = r := h
    show if y < x then P' else P
    by_cases q : y < x
    · rw [if_pos q] at h ⊢; exact hB h
    · rw [if_neg q] at h ⊢; exact hA h
section BRW
variable {l : Launch} {p : Program} {e : Env} {R : Room} {s : State} {m : MethodId} {args : Array Value} {below : List Frame} {meth : Method} {c : Code} {H : Heap} {locs : List Loc} {cells slots : Nat} {Q : State → Prop} {cc : ByteArray} {pc : Nat} {ls : Array Slot} {rest : List Value}
theorem mBr_if (hx : p.tables.exec = Jvm.exec) (hb : c.code = cc) {cd : Jvm.ClassFile.Cond} {x : Int32} {off : Int} {tgt : Nat} (hdg : decode cc pc = .ok (.ifCond cd off, 3)) (ht : (pc : Int) + off = (tgt : Int)) (k : mBr cd x 0 (W p l e R s m args below meth c H locs cells slots Q (F0 m tgt ls rest)) (W p l e R s m args below meth c H locs cells slots Q (F0 m (pc + 3) ls rest))) : W p l e R s m args below meth c H locs cells slots Q (F0 m pc ls (.int x :: rest)) := by
  cases cd with
  | eq => exact lv_if_eq hx hb hdg ht (fun q => (if_pos q).mp k) (fun q => (if_neg q).mp k)
  | ne => exact lv_if_ne hx hb hdg ht (fun q => (if_neg q).mp k) (fun q => (if_pos q).mp k)
  | lt => exact lv_if_lt hx hb hdg ht (fun q => (if_pos q).mp k) (fun q => (if_neg q).mp k)
  | ge => exact lv_if_ge hx hb hdg ht (fun q => (if_neg (i32_le.mp q)).mp k) (fun q => (if_pos (Classical.not_not.mp (fun z => q (i32_le.mpr z)))).mp k)
  | gt => exact lv_if_gt hx hb hdg ht (fun q => (if_pos q).mp k) (fun q => (if_neg q).mp k)
  | le => exact lv_if_le hx hb hdg ht (fun q => (if_neg (i32_le.mp q)).mp k) (fun q => (if_pos (Classical.not_not.mp (fun z => q (i32_le.mpr z)))).mp k)
theorem mBr_ic (hx : p.tables.exec = Jvm.exec) (hb : c.code = cc) {cd : Jvm.ClassFile.Cond} {x y : Int32} {off : Int} {tgt : Nat} (hdg : decode cc pc = .ok (.if_icmp cd off, 3)) (ht : (pc : Int) + off = (tgt : Int)) (k : mBr cd x y (W p l e R s m args below meth c H locs cells slots Q (F0 m tgt ls rest)) (W p l e R s m args below meth c H locs cells slots Q (F0 m (pc + 3) ls rest))) : W p l e R s m args below meth c H locs cells slots Q (F0 m pc ls (.int y :: .int x :: rest)) := by
  cases cd with
  | eq => exact lv_icmp_eq hx hb hdg ht (fun q => (if_pos q).mp k) (fun q => (if_neg q).mp k)
  | ne => exact lv_icmp_ne hx hb hdg ht (fun q => (if_neg q).mp k) (fun q => (if_pos q).mp k)
  | lt => exact lv_icmp_lt hx hb hdg ht (fun q => (if_pos q).mp k) (fun q => (if_neg q).mp k)
  | ge => exact lv_icmp_ge hx hb hdg ht (fun q => (if_neg (i32_le.mp q)).mp k) (fun q => (if_pos (Classical.not_not.mp (fun z => q (i32_le.mpr z)))).mp k)
  | gt => exact lv_icmp_gt hx hb hdg ht (fun q => (if_pos q).mp k) (fun q => (if_neg q).mp k)
  | le => exact lv_icmp_le hx hb hdg ht (fun q => (if_neg (i32_le.mp q)).mp k) (fun q => (if_pos (Classical.not_not.mp (fun z => q (i32_le.mpr z)))).mp k)
end BRW
theorem mTgt_ok {pc : Nat} {off : Int} (h : decide (0 ≤ (pc : Int) + off) = true) : (pc : Int) + off = (mTgt pc off : Int) := (Int.toNat_of_nonneg (of_decide_eq_true h)).symm

section MAIN
variable {l : Launch} {dC : Nat → ClassId} {dI : Nat → Nat → Nat} {cy : Nat → ClassId} {base b : Nat} {adK : Nat → Nat} {S : Nat × (Nat → Int32)} {Sx : State → Prop}
/-- a state that goes on to another of the same method, with nothing new -/
theorem mGoes (P : Prop) (h : P) : P := h
set_option maxHeartbeats 4000000 in
set_option maxRecDepth 100000 in
theorem mSND (hSx : mSxOk base b adK Sx) (hstr : mStrOk l base b adK Sx) (hHelp : ∀ n, SND l dC dI cy base b adK S Sx n → HELP l dC dI cy base b adK S Sx n) : ∀ n, SND l dC dI cy base b adK S Sx n := by
  intro n
  induction n with
  | zero =>
    intro d mi pc Lo st w w' o hmi hlw hx
    cases hx
  | succ n ih =>
    intro d mi pc Lo st w w' o hmi hlw hx
    unfold ex at hx
    split at hx
    · cases hx
    · rename_i i len hcod
      obtain ⟨hdec, hfwd, hlen⟩ := gD_at hmi hcod
      split at hx
      · -- a plain instruction
        rename_i Lo1 st9 w1 hst
        obtain ⟨g1, g2⟩ := st1_mono hst
        obtain ⟨⟨g3, g4⟩, go⟩ := ih d mi (pc + len) Lo1 st9 w1 w' o hmi hlw hx
        refine ⟨⟨Nat.le_trans g1 g3, Nat.le_trans g2 g4⟩, fun p e R s m args below meth c H locs cells slots Q ls F X hc hz hret hthr => ?_⟩
        have hl9 : mLen i = len := by
          rcases hlen with h | h
          · exact h
          · exfalso
            cases i <;> simp only [mLen] at h <;> first | omega | (exact absurd hst (by simp [st1]))
        subst hl9
        refine mStep hSx hstr hdec F X hst (by omega) (by omega) (fun H1 locs1 ls1 cells1 slots1 e1 e2 X1 => ?_)
        refine go p e R s m args below meth c H1 locs1 cells1 slots1 Q ls1 F X1 (by omega) (by omega) ?_ ?_
        · intro v hv pc' ls' H' locs' cells' slots' hra q1 q2 q3 q4 q5 q6
          exact hret v hv pc' ls' H' locs' cells' slots' hra (by omega) (by omega) q3 q4 q5 q6
        · intro hv pc' x ls' st' w0 Lo0 H' locs' cells' slots' q1 q2 q3 q4 q8 q5 q6 q7
          exact hthr hv pc' x ls' st' w0 Lo0 H' locs' cells' slots' q1 q2 q3 q4 q8 (by omega) (by omega) q7
      · rename_i hst
        split at hx
        · -- goto
          rename_i off
          obtain ⟨g, go⟩ := ih d mi (mTgt pc off) Lo st w w' o hmi hlw hx
          refine ⟨g, fun p e R s m args below meth c H locs cells slots Q ls F X hc hz hret hthr => ?_⟩
          have hl9 : len = 3 := by rcases hlen with h | h <;> simp only [mLen] at h <;> omega
          subst hl9
          exact lv_goto F.1 F.2.1 hdec (mTgt_ok hfwd) (go p e R s m args below meth c H locs cells slots Q ls F X hc hz hret hthr)
        · -- ifCond
          rename_i cd off
          split at hx
          · rename_i x r
            have hl9 : len = 3 := by rcases hlen with h | h <;> simp only [mLen] at h <;> omega
            subst hl9
            have hmono : w.1.length ≤ w'.1.length ∧ wZ w ≤ wZ w' := by
              have := mBr_map (P := w.1.length ≤ w'.1.length ∧ wZ w ≤ wZ w') (P' := w.1.length ≤ w'.1.length ∧ wZ w ≤ wZ w') (fun h => (ih d mi (mTgt pc off) Lo r w w' o hmi hlw h).1) (fun h => (ih d mi (pc + 3) Lo r w w' o hmi hlw h).1) hx
              cases cd <;> (unfold mBr at this; dsimp only at this; split at this <;> exact this)
            refine ⟨hmono, fun p e R s m args below meth c H locs cells slots Q ls F X hc hz hret hthr => ?_⟩
            exact mBr_if F.1 F.2.1 hdec (mTgt_ok hfwd) (mBr_map (fun h => (ih d mi (mTgt pc off) Lo r w w' o hmi hlw h).2 p e R s m args below meth c H locs cells slots Q ls F X hc hz hret hthr) (fun h => (ih d mi (pc + 3) Lo r w w' o hmi hlw h).2 p e R s m args below meth c H locs cells slots Q ls F X hc hz hret hthr) hx)
          · cases hx
        · -- if_icmp
          rename_i cd off
          split at hx
          · rename_i y x r
            have hl9 : len = 3 := by rcases hlen with h | h <;> simp only [mLen] at h <;> omega
            subst hl9
            have hmono : w.1.length ≤ w'.1.length ∧ wZ w ≤ wZ w' := by
              have := mBr_map (P := w.1.length ≤ w'.1.length ∧ wZ w ≤ wZ w') (P' := w.1.length ≤ w'.1.length ∧ wZ w ≤ wZ w') (fun h => (ih d mi (mTgt pc off) Lo r w w' o hmi hlw h).1) (fun h => (ih d mi (pc + 3) Lo r w w' o hmi hlw h).1) hx
              cases cd <;> (unfold mBr at this; dsimp only at this; split at this <;> exact this)
            refine ⟨hmono, fun p e R s m args below meth c H locs cells slots Q ls F X hc hz hret hthr => ?_⟩
            exact mBr_ic F.1 F.2.1 hdec (mTgt_ok hfwd) (mBr_map (fun h => (ih d mi (mTgt pc off) Lo r w w' o hmi hlw h).2 p e R s m args below meth c H locs cells slots Q ls F X hc hz hret hthr) (fun h => (ih d mi (pc + 3) Lo r w w' o hmi hlw h).2 p e R s m args below meth c H locs cells slots Q ls F X hc hz hret hthr) hx)
          · cases hx
        · -- ifnonnull
          rename_i off
          have hl9 : len = 3 := by rcases hlen with h | h <;> simp only [mLen] at h <;> omega
          subst hl9
          split at hx
          · rename_i a r
            obtain ⟨g, go⟩ := ih d mi (mTgt pc off) Lo r w w' o hmi hlw hx
            refine ⟨g, fun p e R s m args below meth c H locs cells slots Q ls F X hc hz hret hthr => ?_⟩
            exact lv_ifnonnull F.1 F.2.1 hdec (mTgt_ok hfwd) (go p e R s m args below meth c H locs cells slots Q ls F X hc hz hret hthr)
          · rename_i r
            obtain ⟨g, go⟩ := ih d mi (pc + 3) Lo r w w' o hmi hlw hx
            refine ⟨g, fun p e R s m args below meth c H locs cells slots Q ls F X hc hz hret hthr => ?_⟩
            exact lv_ifnonnullN F.1 F.2.1 hdec (go p e R s m args below meth c H locs cells slots Q ls F X hc hz hret hthr)
          · cases hx
        · -- tableswitch
          rename_i df lo hi offs
          split at hx
          · rename_i x r
            have hf := (Bool.and_eq_true _ _ ▸ hfwd : _ ∧ _)
            split at hx
            · rename_i ho
              obtain ⟨g, go⟩ := ih d mi (mTgt pc df) Lo r w w' o hmi hlw hx
              refine ⟨g, fun p e R s m args below meth c H locs cells slots Q ls F X hc hz hret hthr => ?_⟩
              exact lv_tableOut F.1 F.2.1 hdec ho (mTgt_ok hf.1) (go p e R s m args below meth c H locs cells slots Q ls F X hc hz hret hthr)
            · rename_i ho
              split at hx
              · rename_i off hoff
                obtain ⟨g, go⟩ := ih d mi (mTgt pc off) Lo r w w' o hmi hlw hx
                refine ⟨g, fun p e R s m args below meth c H locs cells slots Q ls F X hc hz hret hthr => ?_⟩
                have hmem : off ∈ offs.toList := by
                  rw [← Array.getElem?_toList] at hoff
                  exact List.mem_of_getElem? hoff
                exact lv_tableIn F.1 F.2.1 hdec (fun z => ho (Or.inl z)) (fun z => ho (Or.inr z)) hoff (mTgt_ok (List.all_eq_true.mp hf.2 off hmem)) (go p e R s m args below meth c H locs cells slots Q ls F X hc hz hret hthr)
              · cases hx
          · cases hx
        · -- ireturn
          have hl9 : len = 1 := by rcases hlen with h | h <;> simp only [mLen] at h <;> omega
          subst hl9
          split at hx
          · rename_i v
            split at hx
            · rename_i hrt
              cases hx
              refine ⟨⟨Nat.le_refl _, Nat.le_refl _⟩, fun p e R s m args below meth c H locs cells slots Q ls F X hc hz hret hthr => ?_⟩
              exact hret _ rfl pc ls H locs cells slots (Or.inr (Or.inl ⟨v, rfl, hdec, hrt⟩)) rfl rfl X.2.2.1 X.2.2.2.1 X.2.1 X.1
            · cases hx
          · cases hx
        · -- lreturn
          have hl9 : len = 1 := by rcases hlen with h | h <;> simp only [mLen] at h <;> omega
          subst hl9
          split at hx
          · rename_i v
            split at hx
            · rename_i hrt
              cases hx
              refine ⟨⟨Nat.le_refl _, Nat.le_refl _⟩, fun p e R s m args below meth c H locs cells slots Q ls F X hc hz hret hthr => ?_⟩
              exact hret _ rfl pc ls H locs cells slots (Or.inr (Or.inr ⟨v, rfl, hdec, hrt⟩)) rfl rfl X.2.2.1 X.2.2.2.1 X.2.1 X.1
            · cases hx
          · cases hx
        · -- return
          have hl9 : len = 1 := by rcases hlen with h | h <;> simp only [mLen] at h <;> omega
          subst hl9
          split at hx
          · split at hx
            · rename_i hrt
              cases hx
              refine ⟨⟨Nat.le_refl _, Nat.le_refl _⟩, fun p e R s m args below meth c H locs cells slots Q ls F X hc hz hret hthr => ?_⟩
              exact hret _ rfl pc ls H locs cells slots (Or.inl ⟨rfl, hdec, hrt⟩) rfl rfl X.2.2.1 X.2.2.2.1 X.2.1 X.1
            · cases hx
          · cases hx
        · -- a throw
          rename_i x
          have hl9 : len = 3 := by rcases hlen with h | h <;> simp only [mLen] at h <;> omega
          subst hl9
          split at hx
          · rename_i hn
            cases hx
            refine ⟨⟨by show w.1.length ≤ (w.1 ++ _).length; rw [List.length_append]; omega, Nat.le_add_right _ _⟩, fun p e R s m args below meth c H locs cells slots Q ls F X hc hz hret hthr => ?_⟩
            exact hthr rfl pc x ls st w Lo H locs cells slots rfl hcod hn.1 hn.2.1 hn.2.2 rfl rfl X
          · cases hx
        · -- invokevirtual
          rename_i x
          have hl9 : len = 3 := by rcases hlen with h | h <;> simp only [mLen] at h <;> omega
          subst hl9
          split at hx
          · rename_i mj nest hg
            split at hx
            · rename_i a as r d1 hpop
              split at hx
              · rename_i hcd
                obtain ⟨hk1, hmj, rfl, hsh, hr8, harg⟩ := hcd
                split at hx
                · rename_i o1 w1 hcal
                  have hj : mj < 253 := by rcases (gC_ok hg).2.1 with h | h <;> omega
                  have hlwj : gLw mj = false := mNotLaw hj (by rw [hk1]; decide)
                  obtain ⟨k1, k2, k3, k4, k5, k6, k7, k8, k9, k10⟩ := gM_ok hj hlwj
                  obtain ⟨⟨c1, c2⟩, -⟩ := ih d1 mj 0 _ [] w w1 _ hj (fun z => absurd (z.symm.trans hlwj) (by decide)) hcal
                  obtain ⟨⟨g3, g4⟩, go⟩ := ih (d1 + 1) mi (pc + 3) Lo (o1.toList ++ r) w1 w' o hmi hlw hx
                  refine ⟨⟨Nat.le_trans c1 g3, Nat.le_trans c2 g4⟩, fun p e R s m args below meth c H locs cells slots Q ls F X hc hz hret hthr => ?_⟩
                  obtain ⟨hpe, hpl⟩ := mPop_eq hpop
                  refine mW_sz (fun hsz => ?_)
                  have hH : H.size = base + w.1.length := by
                    have := mSize X.2.1 (Nat.le_trans F.2.2.2.2.2.2.2.2.2.1 X.2.2.2.1.1) X.2.2.1
                    have := X.1
                    omega
                  have hpre := mPre hSx F X hH ((Value.ref a :: as).map (mCv (mAd base b adK)))
                  have hM := mMet (as := .ref a :: as) hSx ih hj hlwj hcal harg
                  have hsel := k5 hk1
                  have hgc : gOwn.getD (gO mj) "" = (gc (gO mj)).1 := gOwnC _ hsel.2
                  rw [hpe]
                  refine mCall (mc := w1.1.length - w.1.length) (ms := wZ w1 - wZ w) (va_runV (C := (gMe mj).1.cls) (Ts := lwG) (own := gOwn.getD (gO mi) "") (index := x) (b := mAd base b adK a) (As := as.map (mCv (mAd base b adK))) (rest := r.map (mCv (mAd base b adK))) ⟨F.1, F.2.1, F.2.2.1, F.2.2.2.1, F.2.2.2.2.1⟩ hM (cwV (gMe mj).2.2.2.2.2.1 F.2.2.2.2.1 (gGoodA ?_ (gGood k1)) rfl rfl rfl ⟨rfl, k7⟩ ?_) ⟨hpre.1, ?_, hpre.2⟩ rfl ?_ X.2.2.2.2.1.1 ?_ ?_ hdec ?_) X.2.2.2.1 (fun H1 locs1 n1 p1 s1 => ?_)
                  · intro q hq
                    simp only [List.mem_cons, List.not_mem_nil, or_false] at hq
                    rcases hq with rfl | rfl | rfl | rfl
                    · rcases (gC_ok hg).1 with ⟨-, h1⟩ | ⟨h0, -⟩
                      · rw [mSpY (by omega)] at h1; exact h1
                      · cases h0
                    · exact lwG_in (k4 (by rw [hk1]; decide)) rfl
                    · exact lwG_in hsel.1 rfl
                    · exact lwG_in k2 rfl
                  · have := F.2.2.2.2.2.2.2.2.1
                    exact ⟨this.1, by show 8 + ((gMe mj).2.2.1 + 11) + 60 * d1 ≤ R.locals; omega⟩
                  · rw [k9, hgc]
                    exact va_recv F.2.2.2.2.2.1 X.2.2.1 (gOkAll _ hsel.2).2.2.2.2.2.2.2.2.2 (q0 := a) (by rw [mWs_get (mSh hsh).1, mCell_o hsh])
                  · rw [List.length_map]
                    simp only [List.length_cons] at hpl
                    omega
                  · simp only [List.reverse_cons, List.map_append, List.map_reverse, List.append_assoc, List.map_cons, List.map_nil, List.singleton_append]
                    rfl
                  · exact lv_room (by rw [← mCats (mAd base b adK)] at hr8; exact hr8)
                  · exact ⟨by omega, by omega⟩
                  · have hst9 : (o1.map (mCv (mAd base b adK))).toList ++ r.map (mCv (mAd base b adK)) = (o1.toList ++ r).map (mCv (mAd base b adK)) := by
                      cases o1 <;> simp
                    rw [hst9]
                    refine go p e R s m args below meth c H1 locs1 _ _ Q ls F ⟨by have := X.1; omega, n1, p1, s1, X.2.2.2.2.1, X.2.2.2.2.2⟩ (by omega) (by omega) ?_ ?_
                    · intro v hv pc' ls' H' locs' cells' slots' hra q1 q2 q3 q4 q5 q6
                      exact hret v hv pc' ls' H' locs' cells' slots' hra (by omega) (by omega) q3 q4 q5 q6
                    · intro hv pc' x ls' st' w0 Lo0 H' locs' cells' slots' q1 q2 q3 q4 q8 q5 q6 q7
                      exact hthr hv pc' x ls' st' w0 Lo0 H' locs' cells' slots' q1 q2 q3 q4 q8 (by omega) (by omega) q7
                · cases hx
              · cases hx
            · cases hx
          · cases hx
        · -- invokespecial
          rename_i x
          have hl9 : len = 3 := by rcases hlen with h | h <;> simp only [mLen] at h <;> omega
          subst hl9
          split at hx
          · rename_i mj nest hg
            split at hx
            · rename_i a as r d1 hpop
              split at hx
              · rename_i hcd
                obtain ⟨hk1, hmj, hr8, harg⟩ := hcd
                split at hx
                · rename_i w1 hcal
                  have hj : mj < 253 := by rcases (gC_ok hg).2.1 with h | h <;> omega
                  have hlwj : gLw mj = false := mNotLaw hj (by rw [hk1]; decide)
                  obtain ⟨k1, k2, k3, k4, k5, k6, k7, k8, k9, k10⟩ := gM_ok hj hlwj
                  obtain ⟨⟨c1, c2⟩, -⟩ := ih d1 mj 0 _ [] w w1 _ hj (fun z => absurd (z.symm.trans hlwj) (by decide)) hcal
                  obtain ⟨⟨g3, g4⟩, go⟩ := ih (d1 + 1) mi (pc + 3) Lo r w1 w' o hmi hlw hx
                  refine ⟨⟨Nat.le_trans c1 g3, Nat.le_trans c2 g4⟩, fun p e R s m args below meth c H locs cells slots Q ls F X hc hz hret hthr => ?_⟩
                  obtain ⟨hpe, hpl⟩ := mPop_eq hpop
                  refine mW_sz (fun hsz => ?_)
                  have hH : H.size = base + w.1.length := by
                    have := mSize X.2.1 (Nat.le_trans F.2.2.2.2.2.2.2.2.2.1 X.2.2.2.1.1) X.2.2.1
                    have := X.1
                    omega
                  have hpre := mPre hSx F X hH ((Value.ref a :: as).map (mCv (mAd base b adK)))
                  have hM := mMet (as := .ref a :: as) hSx ih hj hlwj hcal harg
                  rw [hpe]
                  have hlen9 : (as.map (mCv (mAd base b adK))).length = (gMe mj).2.2.2.2.2.1 := by
                    rw [List.length_map]
                    simp only [List.length_cons] at hpl
                    omega
                  have hst9 : (F0 m pc ls (((Value.ref a :: as).reverse ++ r).map (mCv (mAd base b adK)))).stack = (as.map (mCv (mAd base b adK))).reverse ++ .ref (mAd base b adK a) :: r.map (mCv (mAd base b adK)) := by
                    simp only [List.reverse_cons, List.map_append, List.map_reverse, List.append_assoc, List.map_cons, List.map_nil, List.singleton_append]
                    rfl
                  have hroom := F.2.2.2.2.2.2.2.2.1
                  have hR9 : (mRm d1 (w1.1.length - w.1.length) (wZ w1 - wZ w)).frames + 1 ≤ R.frames ∧ 8 + ((gMe mj).2.2.1 + 11) + (mRm d1 (w1.1.length - w.1.length) (wZ w1 - wZ w)).locals ≤ R.locals := ⟨hroom.1, by show 8 + ((gMe mj).2.2.1 + 11) + 60 * d1 ≤ R.locals; omega⟩
                  have hcode : (Cond.code (gMe mj).1 (gMe mj).2.1 (gMe mj).2.2.1 (gMe mj).2.2.2.1 :: lwG) = Cond.code (gMe mj).1 (gMe mj).2.1 (gMe mj).2.2.1 none :: lwG := by rw [(k6 hk1).2]
                  have hin9 := F.2.2.2.2.1 _ (lwG_in (k4 (by rw [hk1]; decide)) rfl)
                  have hini9 := F.2.2.2.2.1 _ (lwG_in k2 rfl)
                  have hrun : va_Run p l e R s m args below meth c H locs cells slots (w1.1.length - w.1.length) (wZ w1 - wZ w) (F0 m pc ls (((Value.ref a :: as).reverse ++ r).map (mCv (mAd base b adK)))) (r.map (mCv (mAd base b adK))) (mQc dC dI cy base b adK none w1 (Value.ref (mAd base b adK a) :: as.map (mCv (mAd base b adK))).toArray) (fun q => base ≤ q) := by
                    rcases (gC_ok hg).1 with ⟨h0, h1⟩ | ⟨h0, -⟩
                    · rw [mSpY (by omega)] at h1
                      exact va_runI (Ts := lwG) (own := gOwn.getD (gO mi) "") (index := x) (b := mAd base b adK a) (As := as.map (mCv (mAd base b adK))) (rest := r.map (mCv (mAd base b adK))) ⟨F.1, F.2.1, F.2.2.1, F.2.2.2.1, F.2.2.2.2.1⟩ hM (cwI (gMe mj).2.2.2.2.2.1 F.2.2.2.2.1 (gGood k1) hcode rfl rfl hini9 (F.2.2.2.2.1 _ h1) hin9 (k6 hk1).1 k7 hR9) hpre rfl hlen9 X.2.2.2.2.1.1 hst9 (lv_room (by rw [← mCats (mAd base b adK)] at hr8; exact hr8)) hdec ⟨by omega, by omega⟩
                    · subst h0
                      have hnw := hSx.2.1 s F.2.2.2.2.2.2.1 _ _ _ hg
                      rw [mSpY (by omega)] at hnw
                      exact va_runIN (Ts := lwG) (own := gOwn.getD (gO mi) "") (host := "HouseClaps") (index := x) (b := mAd base b adK a) (As := as.map (mCv (mAd base b adK))) (rest := r.map (mCv (mAd base b adK))) ⟨F.1, F.2.1, F.2.2.1, F.2.2.2.1, F.2.2.2.2.1⟩ hM ⟨va_cnB (gMe mj).2.2.2.2.2.1 F.2.2.2.2.1 (gGood k1) hcode rfl rfl hnw hini9 k7 hR9, (k6 hk1).1, hin9⟩ hpre rfl hlen9 X.2.2.2.2.1.1 hst9 (lv_room (by rw [← mCats (mAd base b adK)] at hr8; exact hr8)) hdec ⟨by omega, by omega⟩
                  refine mCall hrun X.2.2.2.1 (fun H1 locs1 n1 p1 s1 => ?_)
                  refine go p e R s m args below meth c H1 locs1 _ _ Q ls F ⟨by have := X.1; omega, n1, p1, s1, X.2.2.2.2.1, X.2.2.2.2.2⟩ (by omega) (by omega) ?_ ?_
                  · intro v hv pc' ls' H' locs' cells' slots' hra q1 q2 q3 q4 q5 q6
                    exact hret v hv pc' ls' H' locs' cells' slots' hra (by omega) (by omega) q3 q4 q5 q6
                  · intro hv pc' x ls' st' w0 Lo0 H' locs' cells' slots' q1 q2 q3 q4 q8 q5 q6 q7
                    exact hthr hv pc' x ls' st' w0 Lo0 H' locs' cells' slots' q1 q2 q3 q4 q8 (by omega) (by omega) q7
                · cases hx
              · cases hx
            · cases hx
          · cases hx
        · -- invokestatic
          rename_i x
          have hl9 : len = 3 := by rcases hlen with h | h <;> simp only [mLen] at h <;> omega
          subst hl9
          split at hx
          · rename_i mj nest hg
            split at hx
            · rename_i as r d1 hpop
              split at hx
              · rename_i hcd
                obtain ⟨hk1, hmj, hr8, harg⟩ := hcd
                have hj : mj < 253 := by rcases (gC_ok hg).2.1 with h | h <;> omega
                obtain ⟨hpe, hpl⟩ := mPop_eq hpop
                split at hx
                · -- a helper of the law
                  rename_i hhlp
                  have hnest : nest = 0 := gHelp0 _ (mLk_mem hg) hhlp.1 hhlp.2
                  subst hnest
                  split at hx
                  · rename_i x0 p0 p1 q d2
                    split at hx
                    · rename_i hq4 hx9
                      have hhj : mHelp mj < 253 ∧ gLw (mHelp mj) = false := by
                        rcases (by omega : mj = 246 ∨ mj = 247 ∨ mj = 248) with rfl | rfl | rfl <;> decide
                      split at hx
                      · rename_i v w1 hcal
                        obtain ⟨⟨c1, c2⟩, -⟩ := ih (d2 + 6) (mHelp mj) 0 _ [] w w1 _ hhj.1 (fun z => absurd (z.symm.trans hhj.2) (by decide)) hcal
                        obtain ⟨⟨g3, g4⟩, go⟩ := ih (d2 + 7 + 1) mi (pc + 3) Lo (.int 0 :: r) (wsJ w1 (mSet (wJ w1) q 0 v.toInt64)) w' o hmi hlw hx
                        have g3 : w1.1.length ≤ w'.1.length := g3
                        have g4 : wZ w1 ≤ wZ w' := g4
                        refine ⟨⟨Nat.le_trans c1 g3, Nat.le_trans c2 g4⟩, fun p e R s m args below meth c H locs cells slots Q ls F X hc hz hret hthr => ?_⟩
                        rw [hpe]
                        refine hHelp n ih (d2 + 6) mj x0 q p0 p1 w w1 _ _ 0 hhlp.1 hhlp.2 (Nat.le_add_left 6 d2) hq4 hx9 hcal (Or.inl ⟨v, rfl, rfl, rfl⟩) p e R s m args below meth c H locs cells slots Q ls (d2 + 7 + 1) mi pc x Lo r (Nat.le_refl _) F X (by omega) (by omega) hr8 hg hdec (fun H1 locs1 ls1 cells1 slots1 e1 e2 X1 => ?_)
                        refine go p e R s m args below meth c H1 locs1 cells1 slots1 Q ls1 F X1 (by show cells1 + w'.1.length ≤ R.cells + w1.1.length; omega) (by show slots1 + wZ w' ≤ R.slots + wZ w1; omega) ?_ ?_
                        · intro v hv pc' ls' H' locs' cells' slots' hra q1 q2 q3 q4 q5 q6
                          have q1 : cells' + w1.1.length = cells1 + w'.1.length := q1
                          have q2 : slots' + wZ w1 = slots1 + wZ w' := q2
                          exact hret v hv pc' ls' H' locs' cells' slots' hra (by omega) (by omega) q3 q4 q5 q6
                        · intro hv pc' x ls' st' w0 Lo0 H' locs' cells' slots' q1 q2 q3 q4 q8 q5 q6 q7
                          have q5 : cells' + w1.1.length = cells1 + w0.1.length := q5
                          have q6 : slots' + wZ w1 = slots1 + wZ w0 := q6
                          exact hthr hv pc' x ls' st' w0 Lo0 H' locs' cells' slots' q1 q2 q3 q4 q8 (by omega) (by omega) q7
                      · rename_i w1 hcal
                        obtain ⟨⟨c1, c2⟩, -⟩ := ih (d2 + 6) (mHelp mj) 0 _ [] w w1 _ hhj.1 (fun z => absurd (z.symm.trans hhj.2) (by decide)) hcal
                        obtain ⟨⟨g3, g4⟩, go⟩ := ih (d2 + 7 + 1) mi (pc + 3) Lo (.int 1 :: r) w1 w' o hmi hlw hx
                        refine ⟨⟨Nat.le_trans c1 g3, Nat.le_trans c2 g4⟩, fun p e R s m args below meth c H locs cells slots Q ls F X hc hz hret hthr => ?_⟩
                        rw [hpe]
                        refine hHelp n ih (d2 + 6) mj x0 q p0 p1 w w1 _ _ 1 hhlp.1 hhlp.2 (Nat.le_add_left 6 d2) hq4 hx9 hcal (Or.inr ⟨rfl, rfl, rfl⟩) p e R s m args below meth c H locs cells slots Q ls (d2 + 7 + 1) mi pc x Lo r (Nat.le_refl _) F X (by omega) (by omega) hr8 hg hdec (fun H1 locs1 ls1 cells1 slots1 e1 e2 X1 => ?_)
                        refine go p e R s m args below meth c H1 locs1 cells1 slots1 Q ls1 F X1 (by omega) (by omega) ?_ ?_
                        · intro v hv pc' ls' H' locs' cells' slots' hra q1 q2 q3 q4 q5 q6
                          exact hret v hv pc' ls' H' locs' cells' slots' hra (by omega) (by omega) q3 q4 q5 q6
                        · intro hv pc' x ls' st' w0 Lo0 H' locs' cells' slots' q1 q2 q3 q4 q8 q5 q6 q7
                          exact hthr hv pc' x ls' st' w0 Lo0 H' locs' cells' slots' q1 q2 q3 q4 q8 (by omega) (by omega) q7
                      · cases hx
                    · cases hx
                  · cases hx
                · rename_i hhlp
                  split at hx
                  · rename_i o1 w1 hcal
                    have hlwj : gLw mj = false := mNotLaw2 (gC_ok hg).2.2 hhlp
                    obtain ⟨k1, k2, k3, k4, k5, k6, k7, k8, k9, k10⟩ := gM_ok hj hlwj
                    obtain ⟨⟨c1, c2⟩, -⟩ := ih d1 mj 0 _ [] w w1 _ hj (fun z => absurd (z.symm.trans hlwj) (by decide)) hcal
                    obtain ⟨⟨g3, g4⟩, go⟩ := ih (d1 + 1) mi (pc + 3) Lo (o1.toList ++ r) w1 w' o hmi hlw hx
                    refine ⟨⟨Nat.le_trans c1 g3, Nat.le_trans c2 g4⟩, fun p e R s m args below meth c H locs cells slots Q ls F X hc hz hret hthr => ?_⟩
                    refine mW_sz (fun hsz => ?_)
                    have hH : H.size = base + w.1.length := by
                      have := mSize X.2.1 (Nat.le_trans F.2.2.2.2.2.2.2.2.2.1 X.2.2.2.1.1) X.2.2.1
                      have := X.1
                      omega
                    have hpre := mPre hSx F X hH (as.map (mCv (mAd base b adK)))
                    have hM := mMet (as := as) hSx ih hj hlwj hcal harg
                    rw [hpe]
                    have hlen9 : (as.map (mCv (mAd base b adK))).length = (gMe mj).2.2.2.2.2.1 := by
                      rw [List.length_map]
                      exact hpl
                    have hst9 : (F0 m pc ls ((as.reverse ++ r).map (mCv (mAd base b adK)))).stack = (as.map (mCv (mAd base b adK))).reverse ++ r.map (mCv (mAd base b adK)) := by
                      simp only [List.map_append, List.map_reverse]
                    have hroom := F.2.2.2.2.2.2.2.2.1
                    have hR9 : (mRm d1 (w1.1.length - w.1.length) (wZ w1 - wZ w)).frames + 1 ≤ R.frames ∧ 8 + ((gMe mj).2.2.1 + 11) + (mRm d1 (w1.1.length - w.1.length) (wZ w1 - wZ w)).locals ≤ R.locals := ⟨hroom.1, by show 8 + ((gMe mj).2.2.1 + 11) + 60 * d1 ≤ R.locals; omega⟩
                    have hst8 := F.2.2.2.2.1 _ (lwG_in (k3 hk1) rfl)
                    have hini9 := F.2.2.2.2.1 _ (lwG_in k2 rfl)
                    have hrun : va_Run p l e R s m args below meth c H locs cells slots (w1.1.length - w.1.length) (wZ w1 - wZ w) (F0 m pc ls ((as.reverse ++ r).map (mCv (mAd base b adK)))) (r.map (mCv (mAd base b adK))) (mQc dC dI cy base b adK o1 w1 (as.map (mCv (mAd base b adK))).toArray) (fun q => base ≤ q) := by
                      rcases (gC_ok hg).1 with ⟨h0, h1⟩ | ⟨h0, -⟩
                      · rw [mSpY (by omega)] at h1
                        refine va_runS (Ts := lwG) (own := gOwn.getD (gO mi) "") (index := x) (As := as.map (mCv (mAd base b adK))) (rest := r.map (mCv (mAd base b adK))) ⟨F.1, F.2.1, F.2.2.1, F.2.2.2.1, F.2.2.2.2.1⟩ hM (va_cwS (gMe mj).2.2.2.2.2.1 F.2.2.2.2.1 (gGoodA ?_ (gGood k1)) rfl rfl rfl k7 hR9) hpre rfl hlen9 X.2.2.2.2.1.1 hst9 (lv_room (by rw [← mCats (mAd base b adK)] at hr8; exact hr8)) hdec ⟨by omega, by omega⟩
                        intro q hq
                        simp only [List.mem_cons, List.not_mem_nil, or_false] at hq
                        rcases hq with rfl | rfl | rfl
                        · exact h1
                        · exact lwG_in (k3 hk1) rfl
                        · exact lwG_in k2 rfl
                      · subst h0
                        have hnw := hSx.2.1 s F.2.2.2.2.2.2.1 _ _ _ hg
                        rw [mSpY (by omega)] at hnw
                        exact va_runSN (Ts := lwG) (own := gOwn.getD (gO mi) "") (host := "HouseClaps") (index := x) (As := as.map (mCv (mAd base b adK))) (rest := r.map (mCv (mAd base b adK))) ⟨F.1, F.2.1, F.2.2.1, F.2.2.2.1, F.2.2.2.2.1⟩ hM ⟨va_cnB (gMe mj).2.2.2.2.2.1 F.2.2.2.2.1 (gGood k1) rfl rfl rfl hnw hini9 k7 hR9, hst8, trivial⟩ hpre rfl hlen9 X.2.2.2.2.1.1 hst9 (lv_room (by rw [← mCats (mAd base b adK)] at hr8; exact hr8)) hdec ⟨by omega, by omega⟩
                    refine mCall hrun X.2.2.2.1 (fun H1 locs1 n1 p1 s1 => ?_)
                    have hsto : (o1.map (mCv (mAd base b adK))).toList ++ r.map (mCv (mAd base b adK)) = (o1.toList ++ r).map (mCv (mAd base b adK)) := by
                      cases o1 <;> simp
                    rw [hsto]
                    refine go p e R s m args below meth c H1 locs1 _ _ Q ls F ⟨by have := X.1; omega, n1, p1, s1, X.2.2.2.2.1, X.2.2.2.2.2⟩ (by omega) (by omega) ?_ ?_
                    · intro v hv pc' ls' H' locs' cells' slots' hra q1 q2 q3 q4 q5 q6
                      exact hret v hv pc' ls' H' locs' cells' slots' hra (by omega) (by omega) q3 q4 q5 q6
                    · intro hv pc' x ls' st' w0 Lo0 H' locs' cells' slots' q1 q2 q3 q4 q8 q5 q6 q7
                      exact hthr hv pc' x ls' st' w0 Lo0 H' locs' cells' slots' q1 q2 q3 q4 q8 (by omega) (by omega) q7
                  · cases hx
              · cases hx
            · cases hx
          · cases hx
        · cases hx
end MAIN
