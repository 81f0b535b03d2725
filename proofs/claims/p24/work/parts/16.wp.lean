/-! THE SMALL MACHINE, GOAL FIRST: wp: from here it comes to an end with Q -/
section WPS
variable {S : Nat × (Nat → Int32)}
set_option maxHeartbeats 1000000 in
theorem ex_up : ∀ (n d mi pc : Nat) (Lo : mL) (st : List Value) (w : mW) (r : mO × mW), ex S n d mi pc Lo st w = some r → ex S (n + 1) d mi pc Lo st w = some r := by
  intro n
  induction n with
  | zero =>
    intro d mi pc Lo st w r h
    cases h
  | succ n ih =>
    intro d mi pc Lo st w r h
    have brk : ∀ {c : Jvm.ClassFile.Cond} {x y : Int32} {A B A' B' : Option (mO × mW)}, (A = some r → A' = some r) → (B = some r → B' = some r) → mBr c x y A B = some r → mBr c x y A' B' = some r := by
      intro c x y A B A' B' hA hB h
      cases c <;> (unfold mBr at h ⊢; dsimp only at h ⊢; split at h <;> rename_i q <;> simp only [q, if_true, if_false] <;> first | exact hA h | exact hB h)
    unfold ex at h ⊢
    cases hc : cod mi pc with
    | none => rw [hc] at h; cases h
    | some q =>
      obtain ⟨i, len⟩ := q
      rw [hc] at h
      dsimp only at h ⊢
      cases hs : st1 S d mi i Lo st w with
      | some q =>
        obtain ⟨Lo1, st9, w1⟩ := q
        rw [hs] at h
        dsimp only at h ⊢
        exact ih _ _ _ _ _ _ _ h
      | none =>
        rw [hs] at h
        dsimp only at h ⊢
        split at h
        · exact ih _ _ _ _ _ _ _ h
        · split at h
          · exact brk (ih _ _ _ _ _ _ _) (ih _ _ _ _ _ _ _) h
          · cases h
        · split at h
          · exact brk (ih _ _ _ _ _ _ _) (ih _ _ _ _ _ _ _) h
          · cases h
        · split at h
          · exact ih _ _ _ _ _ _ _ h
          · exact ih _ _ _ _ _ _ _ h
          · cases h
        · split at h
          · split at h
            · rename_i q
              try dsimp only
              try rw [if_pos q]
              exact ih _ _ _ _ _ _ _ h
            · rename_i q
              try dsimp only
              try rw [if_neg q]
              split at h
              · rename_i off ho
                try rw [ho]
                exact ih _ _ _ _ _ _ _ h
              · cases h
          · cases h
        · exact h
        · exact h
        · exact h
        · exact h
        · split at h
          · rename_i hg
            try rw [hg]
            try dsimp only
            split at h
            · rename_i hp
              try rw [hp]
              try dsimp only
              split at h
              · rename_i q
                try rw [if_pos q]
                split at h
                · rename_i hcal
                  rw [ih _ _ _ _ _ _ _ hcal]
                  exact ih _ _ _ _ _ _ _ h
                · cases h
              · cases h
            · cases h
          · cases h
        · split at h
          · rename_i hg
            try rw [hg]
            try dsimp only
            split at h
            · rename_i hp
              try rw [hp]
              try dsimp only
              split at h
              · rename_i q
                try rw [if_pos q]
                split at h
                · rename_i hcal
                  rw [ih _ _ _ _ _ _ _ hcal]
                  exact ih _ _ _ _ _ _ _ h
                · cases h
              · cases h
            · cases h
          · cases h
        · split at h
          · rename_i hg
            try rw [hg]
            try dsimp only
            split at h
            · rename_i hp
              try rw [hp]
              try dsimp only
              split at h
              · rename_i q
                try rw [if_pos q]
                split at h
                · rename_i q2
                  try rw [if_pos q2]
                  split at h
                  · try dsimp only
                    split at h
                    · rename_i h4 h9
                      try rw [h4, h9]
                      try dsimp only
                      split at h
                      · rename_i hcal
                        rw [ih _ _ _ _ _ _ _ hcal]
                        exact ih _ _ _ _ _ _ _ h
                      · rename_i hcal
                        rw [ih _ _ _ _ _ _ _ hcal]
                        exact ih _ _ _ _ _ _ _ h
                      · cases h
                    · cases h
                  · cases h
                · rename_i q2
                  try rw [if_neg q2]
                  split at h
                  · rename_i hcal
                    rw [ih _ _ _ _ _ _ _ hcal]
                    exact ih _ _ _ _ _ _ _ h
                  · cases h
              · cases h
            · cases h
          · cases h
        · cases h
theorem ex_le {n k d mi pc : Nat} {Lo : mL} {st : List Value} {w : mW} {r : mO × mW} (h : ex S n d mi pc Lo st w = some r) (hk : n ≤ k) : ex S k d mi pc Lo st w = some r := by
  induction k with
  | zero =>
    have : n = 0 := by omega
    subst this
    exact h
  | succ k ih =>
    rcases Nat.lt_or_ge k n with hl | hl
    · have : n = k + 1 := by omega
      subst this
      exact h
    · exact ex_up _ _ _ _ _ _ _ _ (ih hl)
end WPS
section WPR
variable {S : Nat × (Nat → Int32)} {d mi pc : Nat} {Lo : mL} {st r : List Value} {w : mW} {Q : mO → mW → Prop}
def wp (S : Nat × (Nat → Int32)) (d mi pc : Nat) (Lo : mL) (st : List Value) (w : mW) (Q : mO → mW → Prop) : Prop := ∃ n o w', ex S n d mi pc Lo st w = some (o, w') ∧ Q o w'
/-- a call of method mj: its answer and the world behind it -/
def wc (S : Nat × (Nat → Int32)) (d mj : Nat) (as : List Value) (w : mW) (Q : mO → mW → Prop) : Prop := wp S d mj 0 (mIni (gMe mj).2.2.1 as) [] w Q
theorem wp_mono {Q' : mO → mW → Prop} (h : wp S d mi pc Lo st w Q) (hq : ∀ o w', Q o w' → Q' o w') : wp S d mi pc Lo st w Q' := by
  obtain ⟨n, o, w', h1, h2⟩ := h
  exact ⟨n, o, w', h1, hq o w' h2⟩
theorem wc_mono {mj : Nat} {as : List Value} {Q' : mO → mW → Prop} (h : wc S d mj as w Q) (hq : ∀ o w', Q o w' → Q' o w') : wc S d mj as w Q' := wp_mono h hq
theorem wp_st {i : Instr} {len : Nat} {Lo1 : mL} {st1' : List Value} {w1 : mW} (hc : cod mi pc = some (i, len)) (hs : st1 S d mi i Lo st w = some (Lo1, st1', w1)) (k : wp S d mi (pc + len) Lo1 st1' w1 Q) : wp S d mi pc Lo st w Q := by
  obtain ⟨n, o, w', h1, h2⟩ := k
  refine ⟨n + 1, o, w', ?_, h2⟩
  unfold ex
  rw [hc]
  dsimp only
  rw [hs]
  exact h1
theorem wp_goto {off : Int} {len : Nat} (hc : cod mi pc = some (.goto off, len)) (k : wp S d mi (mTgt pc off) Lo st w Q) : wp S d mi pc Lo st w Q := by
  obtain ⟨n, o, w', h1, h2⟩ := k
  refine ⟨n + 1, o, w', ?_, h2⟩
  unfold ex
  rw [hc]
  exact h1
theorem wp_br {c : Jvm.ClassFile.Cond} {x y : Int32} {A B : Option (mO × mW)} {T F : Prop} {r : mO × mW} (hT : T → A = some r) (hF : F → B = some r) (h : mBr c x y T F) : mBr c x y A B = some r := by
  cases c <;> (unfold mBr at h ⊢; dsimp only at h ⊢; split at h <;> rename_i q <;> simp only [q, if_true, if_false] <;> first | exact hT h | exact hF h)
/-- the two ways of a branch, as goals -/
def wBr (c : Jvm.ClassFile.Cond) (x y : Int32) (T F : Prop) : Prop := match c with
  | .eq => (x = y → T) ∧ (¬ x = y → F)
  | .ne => (x = y → F) ∧ (¬ x = y → T)
  | .lt => (x < y → T) ∧ (¬ x < y → F)
  | .ge => (x < y → F) ∧ (¬ x < y → T)
  | .gt => (y < x → T) ∧ (¬ y < x → F)
  | .le => (y < x → F) ∧ (¬ y < x → T)
theorem wp_b2 {c : Jvm.ClassFile.Cond} {x y : Int32} {A B : Nat → Option (mO × mW)} {T F : Prop} (hT : T → ∃ n o w', A n = some (o, w') ∧ Q o w') (hF : F → ∃ n o w', B n = some (o, w') ∧ Q o w') (h : wBr c x y T F) : ∃ n o w', mBr c x y (A n) (B n) = some (o, w') ∧ Q o w' := by
  cases c
  · by_cases q : x = y
    · obtain ⟨n, o, w', h1, h2⟩ := hT (h.1 q); exact ⟨n, o, w', (if_pos q).trans h1, h2⟩
    · obtain ⟨n, o, w', h1, h2⟩ := hF (h.2 q); exact ⟨n, o, w', (if_neg q).trans h1, h2⟩
  · by_cases q : x = y
    · obtain ⟨n, o, w', h1, h2⟩ := hF (h.1 q); exact ⟨n, o, w', (if_pos q).trans h1, h2⟩
    · obtain ⟨n, o, w', h1, h2⟩ := hT (h.2 q); exact ⟨n, o, w', (if_neg q).trans h1, h2⟩
  · by_cases q : x < y
    · obtain ⟨n, o, w', h1, h2⟩ := hT (h.1 q); exact ⟨n, o, w', (if_pos q).trans h1, h2⟩
    · obtain ⟨n, o, w', h1, h2⟩ := hF (h.2 q); exact ⟨n, o, w', (if_neg q).trans h1, h2⟩
  · by_cases q : x < y
    · obtain ⟨n, o, w', h1, h2⟩ := hF (h.1 q); exact ⟨n, o, w', (if_pos q).trans h1, h2⟩
    · obtain ⟨n, o, w', h1, h2⟩ := hT (h.2 q); exact ⟨n, o, w', (if_neg q).trans h1, h2⟩
  · by_cases q : y < x
    · obtain ⟨n, o, w', h1, h2⟩ := hT (h.1 q); exact ⟨n, o, w', (if_pos q).trans h1, h2⟩
    · obtain ⟨n, o, w', h1, h2⟩ := hF (h.2 q); exact ⟨n, o, w', (if_neg q).trans h1, h2⟩
  · by_cases q : y < x
    · obtain ⟨n, o, w', h1, h2⟩ := hF (h.1 q); exact ⟨n, o, w', (if_pos q).trans h1, h2⟩
    · obtain ⟨n, o, w', h1, h2⟩ := hT (h.2 q); exact ⟨n, o, w', (if_neg q).trans h1, h2⟩
theorem wp_if {c : Jvm.ClassFile.Cond} {off : Int} {len : Nat} {x : Int32} (hc : cod mi pc = some (.ifCond c off, len)) (k : wBr c x 0 (wp S d mi (mTgt pc off) Lo r w Q) (wp S d mi (pc + len) Lo r w Q)) : wp S d mi pc Lo (.int x :: r) w Q := by
  obtain ⟨n, o, w', h1, h2⟩ := wp_b2 (A := fun n => ex S n d mi (mTgt pc off) Lo r w) (B := fun n => ex S n d mi (pc + len) Lo r w) id id k
  refine ⟨n + 1, o, w', ?_, h2⟩
  unfold ex
  rw [hc]
  exact h1
theorem wp_ic {c : Jvm.ClassFile.Cond} {off : Int} {len : Nat} {x y : Int32} (hc : cod mi pc = some (.if_icmp c off, len)) (k : wBr c x y (wp S d mi (mTgt pc off) Lo r w Q) (wp S d mi (pc + len) Lo r w Q)) : wp S d mi pc Lo (.int y :: .int x :: r) w Q := by
  obtain ⟨n, o, w', h1, h2⟩ := wp_b2 (A := fun n => ex S n d mi (mTgt pc off) Lo r w) (B := fun n => ex S n d mi (pc + len) Lo r w) id id k
  refine ⟨n + 1, o, w', ?_, h2⟩
  unfold ex
  rw [hc]
  exact h1
theorem wp_nn {off : Int} {len a : Nat} (hc : cod mi pc = some (.ifnonnull off, len)) (k : wp S d mi (mTgt pc off) Lo r w Q) : wp S d mi pc Lo (.ref a :: r) w Q := by
  obtain ⟨n, o, w', h1, h2⟩ := k
  refine ⟨n + 1, o, w', ?_, h2⟩
  unfold ex
  rw [hc]
  exact h1
theorem wp_nl {off : Int} {len : Nat} (hc : cod mi pc = some (.ifnonnull off, len)) (k : wp S d mi (pc + len) Lo r w Q) : wp S d mi pc Lo (.null :: r) w Q := by
  obtain ⟨n, o, w', h1, h2⟩ := k
  refine ⟨n + 1, o, w', ?_, h2⟩
  unfold ex
  rw [hc]
  exact h1
theorem wp_tab {df lo hi : Int} {offs : Array Int} {len : Nat} {x : Int32} (hc : cod mi pc = some (.tableswitch df lo hi offs, len)) (k0 : x.toInt < lo ∨ hi < x.toInt → wp S d mi (mTgt pc df) Lo r w Q) (k1 : ∀ off, ¬ (x.toInt < lo ∨ hi < x.toInt) → offs[(x.toInt - lo).toNat]? = some off → wp S d mi (mTgt pc off) Lo r w Q) (k2 : ¬ (x.toInt < lo ∨ hi < x.toInt) → (x.toInt - lo).toNat < offs.size) : wp S d mi pc Lo (.int x :: r) w Q := by
  by_cases q : x.toInt < lo ∨ hi < x.toInt
  · obtain ⟨n, o, w', h1, h2⟩ := k0 q
    refine ⟨n + 1, o, w', ?_, h2⟩
    unfold ex
    rw [hc]
    show (if x.toInt < lo ∨ hi < x.toInt then _ else _) = _
    rw [if_pos q]
    exact h1
  · have hl := k2 q
    obtain ⟨n, o, w', h1, h2⟩ := k1 _ q (Array.getElem?_eq_getElem hl)
    refine ⟨n + 1, o, w', ?_, h2⟩
    unfold ex
    rw [hc]
    show (if x.toInt < lo ∨ hi < x.toInt then _ else _) = _
    rw [if_neg q, Array.getElem?_eq_getElem hl]
    exact h1
theorem wp_iret {len : Nat} {v : Int32} (hc : cod mi pc = some (.ireturn, len)) (hr : (gMe mi).2.2.2.1 = some .int ∨ ((gMe mi).2.2.2.1 = some .boolean ∧ (v = 0 ∨ v = 1))) (k : Q (some (some (.int v))) w) : wp S d mi pc Lo [.int v] w Q := by
  refine ⟨1, _, _, ?_, k⟩
  unfold ex
  rw [hc]
  exact if_pos hr
theorem wp_lret {len : Nat} {v : Int64} (hc : cod mi pc = some (.lreturn, len)) (hr : (gMe mi).2.2.2.1 = some .long) (k : Q (some (some (.long v))) w) : wp S d mi pc Lo [.long v] w Q := by
  refine ⟨1, _, _, ?_, k⟩
  unfold ex
  rw [hc]
  exact if_pos hr
theorem wp_vret {len : Nat} (hc : cod mi pc = some (.return_, len)) (hr : (gMe mi).2.2.2.1 = none) (k : Q (some none) w) : wp S d mi pc Lo [] w Q := by
  refine ⟨1, _, _, ?_, k⟩
  unfold ex
  rw [hc]
  exact if_pos hr
theorem wp_thr {x len : Nat} (hc : cod mi pc = some (.new x, len)) (hn : mLk gNew (gO mi) x = some 11) (hl : (wS w).length < mScr) (h8 : mCat st ≤ 8) (k : Q none (mNew w (0, 11) 6)) : wp S d mi pc Lo st w Q := by
  refine ⟨1, _, _, ?_, k⟩
  have hs : st1 S d mi (.new x) Lo st w = none := by
    show mNwo mi x Lo st w = none
    unfold mNwo
    rw [hn]
    exact if_pos (Or.inl (by decide))
  unfold ex
  rw [hc]
  dsimp only
  rw [hs]
  exact if_pos ⟨hn, hl, h8⟩
/-- a call: the callee's wp, then what comes behind it -/
theorem wp_cv {x len mj a d1 : Nat} {as : List Value} (hc : cod mi pc = some (.invokevirtual x, len)) (hg : mLk gCall (gO mi) x = some (mj, 0)) (hp : mPop ((gMe mj).2.2.2.2.2.1 + 1) st = some (.ref a :: as, r)) (hk : (gMe mj).2.2.2.2.2.2 = 1 ∧ mj < 1000 ∧ mCat r ≤ 8 ∧ (mArg (.ref a :: as)).length ≤ (gMe mj).2.2.1) (hs : (wS w)[a]? = some (0, gO mj)) (k : wc S d1 mj (.ref a :: as) w (fun o w' => ∃ v, o = some v ∧ wp S (d1 + 1) mi (pc + len) Lo (v.toList ++ r) w' Q)) : wp S (d1 + 1) mi pc Lo st w Q := by
  obtain ⟨n1, o1, w1, h1, v, rfl, n2, o2, w2, h2, h3⟩ := k
  refine ⟨n1 + n2 + 1, o2, w2, ?_, h3⟩
  have hst : st1 S (d1 + 1) mi (.invokevirtual x) Lo st w = none := by
    show mIvt (d1 + 1) mi x Lo st w = none
    unfold mIvt
    rw [hg]
    have : mj ≠ 1002 ∧ mj ≠ 1003 := by omega
    split
    · rename_i h; cases h; exact absurd rfl this.1
    · rename_i h; cases h; exact absurd rfl this.2
    · rfl
  unfold ex
  rw [hc]
  dsimp only
  rw [hst, hg]
  dsimp only
  rw [hp]
  dsimp only
  rw [if_pos ⟨hk.1, hk.2.1, rfl, hs, hk.2.2.1, hk.2.2.2⟩, ex_le h1 (by omega : n1 ≤ n1 + n2)]
  exact ex_le h2 (by omega)
theorem wp_cs {x len mj nn d1 : Nat} {as : List Value} (hc : cod mi pc = some (.invokestatic x, len)) (hg : mLk gCall (gO mi) x = some (mj, nn)) (hp : mPop (gMe mj).2.2.2.2.2.1 st = some (as, r)) (hk : (gMe mj).2.2.2.2.2.2 = 0 ∧ mj < 1000 ∧ mCat r ≤ 8 ∧ (mArg as).length ≤ (gMe mj).2.2.1) (hh : ¬ (246 ≤ mj ∧ mj ≤ 248)) (k : wc S d1 mj as w (fun o w' => ∃ v, o = some v ∧ wp S (d1 + 1) mi (pc + len) Lo (v.toList ++ r) w' Q)) : wp S (d1 + 1) mi pc Lo st w Q := by
  obtain ⟨n1, o1, w1, h1, v, rfl, n2, o2, w2, h2, h3⟩ := k
  refine ⟨n1 + n2 + 1, o2, w2, ?_, h3⟩
  have hst : st1 S (d1 + 1) mi (.invokestatic x) Lo st w = none := by
    show mIst (d1 + 1) mi x Lo st w = none
    unfold mIst
    rw [hg]
    have : mj ≠ 1001 ∧ mj ≠ 1005 ∧ mj ≠ 1006 ∧ mj ≠ 1007 := by omega
    split
    · rename_i h; cases h; exact absurd rfl this.1
    · rename_i h; cases h; exact absurd rfl this.2.1
    · rename_i h; cases h; exact absurd rfl this.2.2.1
    · rename_i h; cases h; exact absurd rfl this.2.2.2
    · rfl
  unfold ex
  rw [hc]
  dsimp only
  rw [hst, hg]
  dsimp only
  rw [hp]
  dsimp only
  rw [if_pos hk, if_neg hh, ex_le h1 (by omega : n1 ≤ n1 + n2)]
  exact ex_le h2 (by omega)
theorem wp_ci {x len mj nn a d1 : Nat} {as : List Value} (hc : cod mi pc = some (.invokespecial x, len)) (hg : mLk gCall (gO mi) x = some (mj, nn)) (hp : mPop ((gMe mj).2.2.2.2.2.1 + 1) st = some (.ref a :: as, r)) (hk : (gMe mj).2.2.2.2.2.2 = 2 ∧ mj < 1000 ∧ mCat r ≤ 8 ∧ (mArg (.ref a :: as)).length ≤ (gMe mj).2.2.1) (k : wc S d1 mj (.ref a :: as) w (fun o w' => o = some none ∧ wp S (d1 + 1) mi (pc + len) Lo r w' Q)) : wp S (d1 + 1) mi pc Lo st w Q := by
  obtain ⟨n1, o1, w1, h1, rfl, n2, o2, w2, h2, h3⟩ := k
  refine ⟨n1 + n2 + 1, o2, w2, ?_, h3⟩
  have hst : st1 S (d1 + 1) mi (.invokespecial x) Lo st w = none := by
    show mIsp (d1 + 1) mi x Lo st w = none
    unfold mIsp
    split
    · rw [hg]
      refine if_neg (fun z => ?_)
      have : mj = 1000 := Option.some.inj z.1
      omega
    · rfl
  unfold ex
  rw [hc]
  dsimp only
  rw [hst, hg]
  dsimp only
  rw [hp]
  dsimp only
  rw [if_pos hk, ex_le h1 (by omega : n1 ≤ n1 + n2)]
  exact ex_le h2 (by omega)
/-- straight stretches at once -/
def stN (S : Nat × (Nat → Int32)) (d mi : Nat) (C : List (Nat × Instr × Nat)) : Nat → Nat → mL → List Value → mW → Option (Nat × mL × List Value × mW)
  | 0, pc, Lo, st, w => some (pc, Lo, st, w)
  | k + 1, pc, Lo, st, w => match mFind C pc with
    | some (i, len) => match st1 S d mi i Lo st w with
      | some (Lo1, st1, w1) => stN S d mi C k (pc + len) Lo1 st1 w1
      | none => match i with
        | .goto off => stN S d mi C k (mTgt pc off) Lo st w
        | _ => none
    | none => none
theorem wp_seg {C : List (Nat × Instr × Nat)} {pc1 : Nat} {Lo1 : mL} {st1' : List Value} {w1 : mW} (hC : gCs.getD mi [] = C) : ∀ (k : Nat) {pc : Nat} {Lo : mL} {st : List Value} {w : mW}, stN S d mi C k pc Lo st w = some (pc1, Lo1, st1', w1) → wp S d mi pc1 Lo1 st1' w1 Q → wp S d mi pc Lo st w Q := by
  intro k
  induction k with
  | zero =>
    intro pc Lo st w h kk
    cases h
    exact kk
  | succ k ih =>
    intro pc Lo st w h kk
    unfold stN at h
    split at h
    · rename_i i len hf
      have hc : cod mi pc = some (i, len) := by unfold cod; rw [hC]; exact hf
      split at h
      · rename_i Lo2 st2 w2 hs
        exact wp_st hc hs (ih h kk)
      · split at h
        · rename_i off hs
          exact wp_goto hc (ih h kk)
        · cases h
    · cases h
end WPR
