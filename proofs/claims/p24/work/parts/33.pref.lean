theorem st1_pref {S : Nat × (Nat → Int32)} {d mi : Nat} {i : Instr} {Lo Lo1 : mL} {st st1' : List Value} {w w1 : mW} (h : st1 S d mi i Lo st w = some (Lo1, st1', w1)) : ∃ q, w1.1 = w.1 ++ q := by
  cases i
  case iconst n =>
    cases h
    exact ⟨[], (List.append_nil _).symm⟩
  case bipush n =>
    cases h
    exact ⟨[], (List.append_nil _).symm⟩
  case sipush n =>
    cases h
    exact ⟨[], (List.append_nil _).symm⟩
  case lconst n =>
    cases h
    exact ⟨[], (List.append_nil _).symm⟩
  case iload k =>
    obtain ⟨x, hv, hq⟩ := mLdI_inv h
    cases hq
    exact ⟨[], (List.append_nil _).symm⟩
  case iload_n k =>
    obtain ⟨x, hv, hq⟩ := mLdI_inv h
    cases hq
    exact ⟨[], (List.append_nil _).symm⟩
  case lload k =>
    obtain ⟨x, hv, hq⟩ := mLdL_inv h
    cases hq
    exact ⟨[], (List.append_nil _).symm⟩
  case lload_n k =>
    obtain ⟨x, hv, hq⟩ := mLdL_inv h
    cases hq
    exact ⟨[], (List.append_nil _).symm⟩
  case aload k =>
    obtain ⟨x, hv, hq⟩ := mLdA_inv h
    cases hq
    exact ⟨[], (List.append_nil _).symm⟩
  case aload_n k =>
    obtain ⟨x, hv, hq⟩ := mLdA_inv h
    cases hq
    exact ⟨[], (List.append_nil _).symm⟩
  case istore k =>
    obtain ⟨x, r, L, rfl, hL, hq⟩ := mStI_inv h
    cases hq
    exact ⟨[], (List.append_nil _).symm⟩
  case istore_n k =>
    obtain ⟨x, r, L, rfl, hL, hq⟩ := mStI_inv h
    cases hq
    exact ⟨[], (List.append_nil _).symm⟩
  case lstore k =>
    obtain ⟨x, r, L, rfl, hL, hq⟩ := mStL_inv h
    cases hq
    exact ⟨[], (List.append_nil _).symm⟩
  case lstore_n k =>
    obtain ⟨x, r, L, rfl, hL, hq⟩ := mStL_inv h
    cases hq
    exact ⟨[], (List.append_nil _).symm⟩
  case astore k =>
    obtain ⟨x, r, L, rfl, hL, hq⟩ := mStA_inv h
    cases hq
    exact ⟨[], (List.append_nil _).symm⟩
  case astore_n k =>
    obtain ⟨x, r, L, rfl, hL, hq⟩ := mStA_inv h
    cases hq
    exact ⟨[], (List.append_nil _).symm⟩
  case iinc k n =>
    obtain ⟨x, L, hv, hL, hq⟩ := mInc_inv h
    cases hq
    exact ⟨[], (List.append_nil _).symm⟩
  case iadd =>
    rcases mDef_inv (i := .iadd) h with ⟨x, y, r, v, rfl, hv, hq⟩ | ⟨x, y, r, v, rfl, hv, hq⟩ | ⟨x, y, r, v, rfl, hv, hq⟩ <;> cases hq <;> exact ⟨[], (List.append_nil _).symm⟩
  case isub =>
    rcases mDef_inv (i := .isub) h with ⟨x, y, r, v, rfl, hv, hq⟩ | ⟨x, y, r, v, rfl, hv, hq⟩ | ⟨x, y, r, v, rfl, hv, hq⟩ <;> cases hq <;> exact ⟨[], (List.append_nil _).symm⟩
  case imul =>
    rcases mDef_inv (i := .imul) h with ⟨x, y, r, v, rfl, hv, hq⟩ | ⟨x, y, r, v, rfl, hv, hq⟩ | ⟨x, y, r, v, rfl, hv, hq⟩ <;> cases hq <;> exact ⟨[], (List.append_nil _).symm⟩
  case iand =>
    rcases mDef_inv (i := .iand) h with ⟨x, y, r, v, rfl, hv, hq⟩ | ⟨x, y, r, v, rfl, hv, hq⟩ | ⟨x, y, r, v, rfl, hv, hq⟩ <;> cases hq <;> exact ⟨[], (List.append_nil _).symm⟩
  case ior =>
    rcases mDef_inv (i := .ior) h with ⟨x, y, r, v, rfl, hv, hq⟩ | ⟨x, y, r, v, rfl, hv, hq⟩ | ⟨x, y, r, v, rfl, hv, hq⟩ <;> cases hq <;> exact ⟨[], (List.append_nil _).symm⟩
  case ixor =>
    rcases mDef_inv (i := .ixor) h with ⟨x, y, r, v, rfl, hv, hq⟩ | ⟨x, y, r, v, rfl, hv, hq⟩ | ⟨x, y, r, v, rfl, hv, hq⟩ <;> cases hq <;> exact ⟨[], (List.append_nil _).symm⟩
  case ishl =>
    rcases mDef_inv (i := .ishl) h with ⟨x, y, r, v, rfl, hv, hq⟩ | ⟨x, y, r, v, rfl, hv, hq⟩ | ⟨x, y, r, v, rfl, hv, hq⟩ <;> cases hq <;> exact ⟨[], (List.append_nil _).symm⟩
  case ishr =>
    rcases mDef_inv (i := .ishr) h with ⟨x, y, r, v, rfl, hv, hq⟩ | ⟨x, y, r, v, rfl, hv, hq⟩ | ⟨x, y, r, v, rfl, hv, hq⟩ <;> cases hq <;> exact ⟨[], (List.append_nil _).symm⟩
  case iushr =>
    rcases mDef_inv (i := .iushr) h with ⟨x, y, r, v, rfl, hv, hq⟩ | ⟨x, y, r, v, rfl, hv, hq⟩ | ⟨x, y, r, v, rfl, hv, hq⟩ <;> cases hq <;> exact ⟨[], (List.append_nil _).symm⟩
  case idiv =>
    rcases mDef_inv (i := .idiv) h with ⟨x, y, r, v, rfl, hv, hq⟩ | ⟨x, y, r, v, rfl, hv, hq⟩ | ⟨x, y, r, v, rfl, hv, hq⟩ <;> cases hq <;> exact ⟨[], (List.append_nil _).symm⟩
  case irem =>
    rcases mDef_inv (i := .irem) h with ⟨x, y, r, v, rfl, hv, hq⟩ | ⟨x, y, r, v, rfl, hv, hq⟩ | ⟨x, y, r, v, rfl, hv, hq⟩ <;> cases hq <;> exact ⟨[], (List.append_nil _).symm⟩
  case ladd =>
    rcases mDef_inv (i := .ladd) h with ⟨x, y, r, v, rfl, hv, hq⟩ | ⟨x, y, r, v, rfl, hv, hq⟩ | ⟨x, y, r, v, rfl, hv, hq⟩ <;> cases hq <;> exact ⟨[], (List.append_nil _).symm⟩
  case lsub =>
    rcases mDef_inv (i := .lsub) h with ⟨x, y, r, v, rfl, hv, hq⟩ | ⟨x, y, r, v, rfl, hv, hq⟩ | ⟨x, y, r, v, rfl, hv, hq⟩ <;> cases hq <;> exact ⟨[], (List.append_nil _).symm⟩
  case lmul =>
    rcases mDef_inv (i := .lmul) h with ⟨x, y, r, v, rfl, hv, hq⟩ | ⟨x, y, r, v, rfl, hv, hq⟩ | ⟨x, y, r, v, rfl, hv, hq⟩ <;> cases hq <;> exact ⟨[], (List.append_nil _).symm⟩
  case land =>
    rcases mDef_inv (i := .land) h with ⟨x, y, r, v, rfl, hv, hq⟩ | ⟨x, y, r, v, rfl, hv, hq⟩ | ⟨x, y, r, v, rfl, hv, hq⟩ <;> cases hq <;> exact ⟨[], (List.append_nil _).symm⟩
  case lor =>
    rcases mDef_inv (i := .lor) h with ⟨x, y, r, v, rfl, hv, hq⟩ | ⟨x, y, r, v, rfl, hv, hq⟩ | ⟨x, y, r, v, rfl, hv, hq⟩ <;> cases hq <;> exact ⟨[], (List.append_nil _).symm⟩
  case lxor =>
    rcases mDef_inv (i := .lxor) h with ⟨x, y, r, v, rfl, hv, hq⟩ | ⟨x, y, r, v, rfl, hv, hq⟩ | ⟨x, y, r, v, rfl, hv, hq⟩ <;> cases hq <;> exact ⟨[], (List.append_nil _).symm⟩
  case ldiv =>
    rcases mDef_inv (i := .ldiv) h with ⟨x, y, r, v, rfl, hv, hq⟩ | ⟨x, y, r, v, rfl, hv, hq⟩ | ⟨x, y, r, v, rfl, hv, hq⟩ <;> cases hq <;> exact ⟨[], (List.append_nil _).symm⟩
  case lrem =>
    rcases mDef_inv (i := .lrem) h with ⟨x, y, r, v, rfl, hv, hq⟩ | ⟨x, y, r, v, rfl, hv, hq⟩ | ⟨x, y, r, v, rfl, hv, hq⟩ <;> cases hq <;> exact ⟨[], (List.append_nil _).symm⟩
  case lshl =>
    rcases mDef_inv (i := .lshl) h with ⟨x, y, r, v, rfl, hv, hq⟩ | ⟨x, y, r, v, rfl, hv, hq⟩ | ⟨x, y, r, v, rfl, hv, hq⟩ <;> cases hq <;> exact ⟨[], (List.append_nil _).symm⟩
  case lshr =>
    rcases mDef_inv (i := .lshr) h with ⟨x, y, r, v, rfl, hv, hq⟩ | ⟨x, y, r, v, rfl, hv, hq⟩ | ⟨x, y, r, v, rfl, hv, hq⟩ <;> cases hq <;> exact ⟨[], (List.append_nil _).symm⟩
  case lushr =>
    rcases mDef_inv (i := .lushr) h with ⟨x, y, r, v, rfl, hv, hq⟩ | ⟨x, y, r, v, rfl, hv, hq⟩ | ⟨x, y, r, v, rfl, hv, hq⟩ <;> cases hq <;> exact ⟨[], (List.append_nil _).symm⟩
  case ineg =>
    obtain ⟨x, r, rfl, hq⟩ := mUnI_inv h
    cases hq
    exact ⟨[], (List.append_nil _).symm⟩
  case i2l =>
    obtain ⟨x, r, rfl, hq⟩ := mUnI_inv h
    cases hq
    exact ⟨[], (List.append_nil _).symm⟩
  case i2b =>
    obtain ⟨x, r, rfl, hq⟩ := mUnI_inv h
    cases hq
    exact ⟨[], (List.append_nil _).symm⟩
  case lneg =>
    obtain ⟨x, r, rfl, hq⟩ := mUnL_inv h
    cases hq
    exact ⟨[], (List.append_nil _).symm⟩
  case l2i =>
    obtain ⟨x, r, rfl, hq⟩ := mUnL_inv h
    cases hq
    exact ⟨[], (List.append_nil _).symm⟩
  case lcmp =>
    obtain ⟨x, y, r, rfl, hq⟩ := mCmp_inv h
    cases hq
    exact ⟨[], (List.append_nil _).symm⟩
  case dup =>
    obtain ⟨v, r, rfl, hv, hq⟩ := mDup_inv h
    cases hq
    exact ⟨[], (List.append_nil _).symm⟩
  case pop =>
    obtain ⟨v, r, rfl, hv, hq⟩ := mPp_inv h
    cases hq
    exact ⟨[], (List.append_nil _).symm⟩
  case dup2 =>
    obtain ⟨x, y, r, rfl, hq⟩ := mDup2_inv h
    cases hq
    exact ⟨[], (List.append_nil _).symm⟩
  case ldc k =>
    rcases mLdc_inv h with ⟨v, hv, hq⟩ | ⟨v, hv, hq⟩ <;> cases hq <;> exact ⟨[], (List.append_nil _).symm⟩
  case ldc_w k =>
    obtain ⟨v, hv, hq⟩ := mLdcW_inv h
    cases hq
    exact ⟨[], (List.append_nil _).symm⟩
  case ldc2_w k =>
    obtain ⟨v, hv, hq⟩ := mLdc2_inv h
    cases hq
    exact ⟨[], (List.append_nil _).symm⟩
  case getfield k =>
    obtain ⟨a, r, ci, j, rfl, h1, h2, hq⟩ := mGet_inv h
    cases hq
    exact ⟨[], (List.append_nil _).symm⟩
  case putfield k =>
    obtain ⟨v, a, r, ci, j, w9, rfl, h1, h2, hq, hv⟩ := mPut_inv h
    cases hq
    rcases hv with ⟨z, rfl, hf, hk, rfl⟩ | ⟨z, rfl, hf, hk, rfl⟩ | ⟨z, rfl, hf, hk, hi, ho, rfl⟩ <;> exact ⟨[], (List.append_nil _).symm⟩
  case iaload =>
    obtain ⟨j, a, r, rfl, hv⟩ := mIal_inv h
    rcases hv with ⟨rfl, hm, ho, hq⟩ | ⟨n, hn, ho, hq⟩ <;> cases hq <;> exact ⟨[], (List.append_nil _).symm⟩
  case baload =>
    obtain ⟨j, a, r, n, rfl, hn, ho, hq⟩ := mBal_inv h
    cases hq
    exact ⟨[], (List.append_nil _).symm⟩
  case laload =>
    obtain ⟨j, a, r, n, rfl, hn, ho, hq⟩ := mLal_inv h
    cases hq
    exact ⟨[], (List.append_nil _).symm⟩
  case aaload =>
    obtain ⟨j, a, r, n, rfl, hn, ho, hq⟩ := mAal_inv h
    cases hq
    exact ⟨[], (List.append_nil _).symm⟩
  case iastore =>
    obtain ⟨v, j, a, r, n, rfl, hn, ho, hq⟩ := mIas_inv h
    cases hq
    exact ⟨[], (List.append_nil _).symm⟩
  case bastore =>
    obtain ⟨v, j, a, r, n, rfl, ho, hv⟩ := mBas_inv h
    rcases hv with ⟨hn, hq⟩ | ⟨hn, hq⟩ <;> cases hq <;> exact ⟨[], (List.append_nil _).symm⟩
  case lastore =>
    obtain ⟨v, j, a, r, n, rfl, hn, ho, hq⟩ := mLas_inv h
    cases hq
    exact ⟨[], (List.append_nil _).symm⟩
  case aastore =>
    obtain ⟨v, j, a, r, n, rfl, hn, ho, hv, hq⟩ := mAas_inv h
    cases hq
    exact ⟨[], (List.append_nil _).symm⟩
  case arraylength =>
    obtain ⟨a, r, rfl, hv⟩ := mAln_inv h
    rcases hv with ⟨rfl, hm, hq⟩ | ⟨n, hn, hq⟩ <;> cases hq <;> exact ⟨[], (List.append_nil _).symm⟩
  case newarray t =>
    obtain ⟨n, r, rfl, hn0, hn1, hlt, ht, hq⟩ := mNwa_inv h
    cases hq
    exact ⟨_, rfl⟩
  case anewarray k =>
    obtain ⟨n, r, rfl, hn0, hn1, hlt, ht, hq⟩ := mNwq_inv h
    cases hq
    exact ⟨_, rfl⟩
  case new k =>
    obtain ⟨ci, ht, hci, hlt, hq⟩ := mNwo_inv h
    cases hq
    exact ⟨_, rfl⟩
  case invokespecial k =>
    obtain ⟨a, r, rfl, hm, hd0, hr, hq⟩ := mIsp_inv h
    cases hq
    exact ⟨[], (List.append_nil _).symm⟩
  case invokestatic k =>
    obtain ⟨mj, nn, hg, hv⟩ := mIst_inv h
    rcases hv with ⟨rfl, hv⟩ | ⟨rfl, hv⟩ | ⟨rfl, hv⟩ | ⟨rfl, hv⟩
    · obtain ⟨n, dp, a, sp, a0, r, n0, n1, rfl, hd0, hr, g1, g2, g3, g4, g5, hv⟩ := mAcp_inv hv
      rcases hv with ⟨s0, s1, hq⟩ | ⟨s0, s1, hq⟩ <;> cases hq <;> exact ⟨[], (List.append_nil _).symm⟩
    · obtain ⟨x, y, r, rfl, hd0, hr, hq⟩ := mM2_inv hv
      cases hq
      exact ⟨[], (List.append_nil _).symm⟩
    · obtain ⟨x, y, r, rfl, hd0, hr, hq⟩ := mM2_inv hv
      cases hq
      exact ⟨[], (List.append_nil _).symm⟩
    · obtain ⟨x, r, rfl, hd0, hr, hq⟩ := mM1_inv hv
      cases hq
      exact ⟨[], (List.append_nil _).symm⟩
  case invokevirtual k =>
    obtain ⟨mj, nn, hg, hv⟩ := mIvt_inv h
    rcases hv with ⟨rfl, hv⟩ | ⟨rfl, hv⟩
    · obtain ⟨a, r, rfl, hd0, hr, ha0, ha1, hq⟩ := mSln_inv hv
      cases hq
      exact ⟨[], (List.append_nil _).symm⟩
    · obtain ⟨j, a, r, rfl, hd0, hr, ha0, ha1, ho, hq⟩ := mSch_inv hv
      cases hq
      exact ⟨[], (List.append_nil _).symm⟩
  all_goals exact absurd h (by simp [st1])

section PREF
variable {S : Nat × (Nat → Int32)}
set_option maxHeartbeats 1000000 in
theorem ex_pref : ∀ (n d mi pc : Nat) (Lo : mL) (st : List Value) (w : mW) (r : mO × mW), ex S n d mi pc Lo st w = some r → ∃ q, r.2.1 = w.1 ++ q := by
  intro n
  induction n with
  | zero =>
    intro d mi pc Lo st w r h
    cases h
  | succ n ih =>
    intro d mi pc Lo st w r h
    have tr : ∀ {a b c : List (Nat × Nat)}, (∃ q, b = a ++ q) → (∃ q, c = b ++ q) → ∃ q, c = a ++ q := by
      intro a b c h1 h2
      obtain ⟨q1, rfl⟩ := h1
      obtain ⟨q2, rfl⟩ := h2
      exact ⟨q1 ++ q2, by rw [List.append_assoc]⟩
    have brk : ∀ {c : Jvm.ClassFile.Cond} {x y : Int32} {A B : Option (mO × mW)}, (A = some r → ∃ q, r.2.1 = w.1 ++ q) → (B = some r → ∃ q, r.2.1 = w.1 ++ q) → mBr c x y A B = some r → ∃ q, r.2.1 = w.1 ++ q := by
      intro c x y A B hA hB h
      cases c <;> (unfold mBr at h; dsimp only at h; split at h <;> first | exact hA h | exact hB h)
    unfold ex at h
    split at h
    · cases h
    · split at h
      · rename_i hs
        exact tr (st1_pref hs) (ih _ _ _ _ _ _ _ h)
      · split at h
        · exact ih _ _ _ _ _ _ _ h
        · split at h
          · exact brk (ih _ _ _ _ _ _ _) (ih _ _ _ _ _ _ _) h
          · cases h
        · split at h
          · exact brk (ih _ _ _ _ _ _ _) (ih _ _ _ _ _ _ _) h
          · cases h
        · split at h
          · exact ih _ _ _ _ _ _ _ h
          · exact ih _ _ _ _ _ _ _ h
          · cases h
        · split at h
          · split at h
            · exact ih _ _ _ _ _ _ _ h
            · split at h
              · exact ih _ _ _ _ _ _ _ h
              · cases h
          · cases h
        · split at h
          · split at h
            · cases h; exact ⟨[], (List.append_nil _).symm⟩
            · cases h
          · cases h
        · split at h
          · split at h
            · cases h; exact ⟨[], (List.append_nil _).symm⟩
            · cases h
          · cases h
        · split at h
          · split at h
            · cases h; exact ⟨[], (List.append_nil _).symm⟩
            · cases h
          · cases h
        · split at h
          · cases h; exact ⟨_, rfl⟩
          · cases h
        · split at h
          · split at h
            · split at h
              · split at h
                · rename_i hcal
                  exact tr (ih _ _ _ _ _ _ _ hcal) (ih _ _ _ _ _ _ _ h)
                · cases h
              · cases h
            · cases h
          · cases h
        · split at h
          · split at h
            · split at h
              · split at h
                · rename_i hcal
                  exact tr (ih _ _ _ _ _ _ _ hcal) (ih _ _ _ _ _ _ _ h)
                · cases h
              · cases h
            · cases h
          · cases h
        · split at h
          · split at h
            · split at h
              · split at h
                · split at h
                  · split at h
                    · split at h
                      · rename_i hcal
                        have h2 := ih _ _ _ _ _ _ _ h
                        exact tr (ih _ _ _ _ _ _ _ hcal) h2
                      · rename_i hcal
                        exact tr (ih _ _ _ _ _ _ _ hcal) (ih _ _ _ _ _ _ _ h)
                      · cases h
                    · cases h
                  · cases h
                · split at h
                  · rename_i hcal
                    exact tr (ih _ _ _ _ _ _ _ hcal) (ih _ _ _ _ _ _ _ h)
                  · cases h
              · cases h
            · cases h
          · cases h
        · cases h
theorem ex_shape {n d mi pc : Nat} {Lo : mL} {st : List Value} {w : mW} {r : mO × mW} (h : ex S n d mi pc Lo st w = some r) {a : Nat} {q : Nat × Nat} (hq : (wS w)[a]? = some q) : (wS r.2)[a]? = some q := by
  obtain ⟨l, hl⟩ := ex_pref _ _ _ _ _ _ _ _ h
  show r.2.1[a]? = some q
  rw [hl, List.getElem?_append_left (List.getElem?_eq_some_iff.mp hq).1]
  exact hq
end PREF
