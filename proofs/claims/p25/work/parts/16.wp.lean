section
/-! THE SMALL MACHINE, GOAL FIRST: wp: from here it comes to an end with Q -/
section WPS
variable {S : Nat × (Nat → Int32)}
set_option maxHeartbeats 1000000 in
theorem ex_up : ∀ (n d mi pc : Nat) (Lo : mL) (st : List Value) (w : mW) (r : mO × mW), ex S n d mi pc Lo st w = some r → ex S (n + 1) d mi pc Lo st w = some r := by
  intro n
  induction n with
  | zero =>
    intro d mi pc Lo st w r h
    cases h
  | succ n ih =>
    intro d mi pc Lo st w r h
    have brk : ∀ {c : Jvm.ClassFile.Cond} {x y : Int32} {A B A' B' : Option (mO × mW)}, (A = some r → A' = some r) → (B = some r → B' = some r) → mBr c x y A B = some r → mBr c x y A' B' = some r := by
      intro c x y A B A' B' hA hB h
      cases c <;> (unfold mBr at h ⊢; dsimp only at h ⊢; split at h <;> rename_i q <;> simp only [q, if_true, if_false] <;> first | exact hA h | exact hB h)
    unfold ex at h ⊢
    cases hc : cod mi pc with
    | none => rw [hc] at h; cases h
    | some q =>
      obtain ⟨i, len⟩ := q
      rw [hc] at h
      dsimp only at h ⊢
      cases hs : st1 S d mi i Lo st w with
      | some q =>
        obtain ⟨Lo1, st9, w1⟩ := q
        rw [hs] at h
        dsimp only at h ⊢
        exact ih _ _ _ _ _ _ _ h
      | none =>
        rw [hs] at h
        dsimp only at h ⊢
        split at h
        · exact ih _ _ _ _ _ _ _ h
        · split at h
          · exact brk (ih _ _ _ _ _ _ _) (ih _ _ _ _ _ _ _) h
          · cases h
        · split at h
          · exact brk (ih _ _ _ _ _ _ _) (ih _ _ _ _ _ _ _) h
          · cases h
        · split at h
          · exact ih _ _ _ _ _ _ _ h
          · exact ih _ _ _ _ _ _ _ h
          · cases h
        · split at h
          · split at h
            · rename_i q
              try dsimp only
              try rw [if_pos q]
              exact ih _ _ _ _ _ _ _ h
            · rename_i q
              try dsimp only
              try rw [if_neg q]
              split at h
              · rename_i off ho
                try rw [ho]
                exact ih _ _ _ _ _ _ _ h
              · cases h
          · cases h
        · exact h
        · exact h
        · exact h
        · exact h
        · split at h
          · rename_i hg
            try rw [hg]
            try dsimp only
            split at h
            · rename_i hp
              try rw [hp]
              try dsimp only
              split at h
              · rename_i q
                try rw [if_pos q]
                split at h
                · rename_i hcal
                  rw [ih _ _ _ _ _ _ _ hcal]
                  exact ih _ _ _ _ _ _ _ h
                · cases h
              · cases h
            · cases h
          · cases h
        · split at h
          · rename_i hg
            try rw [hg]
            try dsimp only
            split at h
            · rename_i hp
              try rw [hp]
              try dsimp only
              split at h
              · rename_i q
                try rw [if_pos q]
                split at h
                · rename_i hcal
                  rw [ih _ _ _ _ _ _ _ hcal]
                  exact ih _ _ _ _ _ _ _ h
                · cases h
              · cases h
            · cases h
          · cases h
        · split at h
          · rename_i hg
            try rw [hg]
            try dsimp only
            split at h
            · rename_i hp
              try rw [hp]
              try dsimp only
              split at h
              · rename_i q
                try rw [if_pos q]
                split at h
                · rename_i q2
                  try rw [if_pos q2]
                  split at h
                  · try dsimp only
                    split at h
                    · rename_i h4 h9
                      try rw [h4, h9]
                      try dsimp only
                      split at h
                      · rename_i hcal
                        rw [ih _ _ _ _ _ _ _ hcal]
                        exact ih _ _ _ _ _ _ _ h
                      · rename_i hcal
                        rw [ih _ _ _ _ _ _ _ hcal]
                        exact ih _ _ _ _ _ _ _ h
                      · cases h
                    · cases h
                  · cases h
                · rename_i q2
                  try rw [if_neg q2]
                  split at h
                  · rename_i hcal
                    rw [ih _ _ _ _ _ _ _ hcal]
                    exact ih _ _ _ _ _ _ _ h
                  · cases h
              · cases h
            · cases h
          · cases h
        · cases h
theorem ex_le {n k d mi pc : Nat} {Lo : mL} {st : List Value} {w : mW} {r : mO × mW} (h : ex S n d mi pc Lo st w = some r) (hk : n ≤ k) : ex S k d mi pc Lo st w = some r := by
  induction k with
  | zero =>
    have : n = 0 := by omega
    subst this
    exact h
  | succ k ih =>
    rcases Nat.lt_or_ge k n with hl | hl
    · have : n = k + 1 := by omega
      subst this
      exact h
    · exact ex_up _ _ _ _ _ _ _ _ (ih hl)
end WPS
section WPR
variable {S : Nat × (Nat → Int32)} {d mi pc : Nat} {Lo : mL} {st r : List Value} {w : mW} {Q : mO → mW → Prop}
def wp (S : Nat × (Nat → Int32)) (d mi pc : Nat) (Lo : mL) (st : List Value) (w : mW) (Q : mO → mW → Prop) : Prop := ∃ n o w', ex S n d mi pc Lo st w = some (o, w') ∧ Q o w'
/-- a call of method mj: its answer and the world behind it -/
def wc (S : Nat × (Nat → Int32)) (d mj : Nat) (as : List Value) (w : mW) (Q : mO → mW → Prop) : Prop := wp S d mj 0 (mIni (gMe mj).2.2.1 as) [] w Q
theorem wp_mono {Q' : mO → mW → Prop} (h : wp S d mi pc Lo st w Q) (hq : ∀ o w', Q o w' → Q' o w') : wp S d mi pc Lo st w Q' := by
  obtain ⟨n, o, w', h1, h2⟩ := h
  exact ⟨n, o, w', h1, hq o w' h2⟩
theorem wc_mono {mj : Nat} {as : List Value} {Q' : mO → mW → Prop} (h : wc S d mj as w Q) (hq : ∀ o w', Q o w' → Q' o w') : wc S d mj as w Q' := wp_mono h hq
theorem wp_st {i : Instr} {len : Nat} {Lo1 : mL} {st1' : List Value} {w1 : mW} (hc : cod mi pc = some (i, len)) (hs : st1 S d mi i Lo st w = some (Lo1, st1', w1)) (k : wp S d mi (pc + len) Lo1 st1' w1 Q) : wp S d mi pc Lo st w Q := by
  obtain ⟨n, o, w', h1, h2⟩ := k
  refine ⟨n + 1, o, w', ?_, h2⟩
  unfold ex
  rw [hc]
  dsimp only
  rw [hs]
  exact h1
theorem wp_goto {off : Int} {len : Nat} (hc : cod mi pc = some (.goto off, len)) (k : wp S d mi (mTgt pc off) Lo st w Q) : wp S d mi pc Lo st w Q := by
  obtain ⟨n, o, w', h1, h2⟩ := k
  refine ⟨n + 1, o, w', ?_, h2⟩
  unfold ex
  rw [hc]
  exact h1
theorem wp_br {c : Jvm.ClassFile.Cond} {x y : Int32} {A B : Option (mO × mW)} {T F : Prop} {r : mO × mW} (hT : T → A = some r) (hF : F → B = some r) (h : mBr c x y T F) : mBr c x y A B = some r := by
  cases c <;> (unfold mBr at h ⊢; dsimp only at h ⊢; split at h <;> rename_i q <;> simp only [q, if_true, if_false] <;> first | exact hT h | exact hF h)
/-- the two ways of a branch, as goals -/
def wBr (c : Jvm.ClassFile.Cond) (x y : Int32) (T F : Prop) : Prop := match c with
  | .eq => (x = y → T) ∧ (¬ x = y → F)
  | .ne => (x = y → F) ∧ (¬ x = y → T)
  | .lt => (x < y → T) ∧ (¬ x < y → F)
  | .ge => (x < y → F) ∧ (¬ x < y → T)
  | .gt => (y < x → T) ∧ (¬ y < x → F)
  | .le => (y < x → F) ∧ (¬ y < x → T)
theorem wp_b2 {c : Jvm.ClassFile.Cond} {x y : Int32} {A B : Nat → Option (mO × mW)} {T F : Prop} (hT : T → ∃ n o w', A n = some (o, w') ∧ Q o w') (hF : F → ∃ n o w', B n = some (o, w') ∧ Q o w') (h : wBr c x y T F) : ∃ n o w', mBr c x y (A n) (B n) = some (o, w') ∧ Q o w' := by
  cases c
  · by_cases q : x = y
    · obtain ⟨n, o, w', h1, h2⟩ := hT (h.1 q); exact ⟨n, o, w', (if_pos q).trans h1, h2⟩
    · obtain ⟨n, o, w', h1, h2⟩ := hF (h.2 q); exact ⟨n, o, w', (if_neg q).trans h1, h2⟩
  · by_cases q : x = y
    · obtain ⟨n, o, w', h1, h2⟩ := hF (h.1 q); exact ⟨n, o, w', (if_pos q).trans h1, h2⟩
    · obtain ⟨n, o, w', h1, h2⟩ := hT (h.2 q); exact ⟨n, o, w', (if_neg q).trans h1, h2⟩
  · by_cases q : x < y
    · obtain ⟨n, o, w', h1, h2⟩ := hT (h.1 q); exact ⟨n, o, w', (if_pos q).trans h1, h2⟩
    · obtain ⟨n, o, w', h1, h2⟩ := hF (h.2 q); exact ⟨n, o, w', (if_neg q).trans h1, h2⟩
  · by_cases q : x < y
    · obtain ⟨n, o, w', h1, h2⟩ := hF (h.1 q); exact ⟨n, o, w', (if_pos q).trans h1, h2⟩
    · obtain ⟨n, o, w', h1, h2⟩ := hT (h.2 q); exact ⟨n, o, w', (if_neg q).trans h1, h2⟩
  · by_cases q : y < x
    · obtain ⟨n, o, w', h1, h2⟩ := hT (h.1 q); exact ⟨n, o, w', (if_pos q).trans h1, h2⟩
    · obtain ⟨n, o, w', h1, h2⟩ := hF (h.2 q); exact ⟨n, o, w', (if_neg q).trans h1, h2⟩
  · by_cases q : y < x
    · obtain ⟨n, o, w', h1, h2⟩ := hF (h.1 q); exact ⟨n, o, w', (if_pos q).trans h1, h2⟩
    · obtain ⟨n, o, w', h1, h2⟩ := hT (h.2 q); exact ⟨n, o, w', (if_neg q).trans h1, h2⟩
theorem wp_if {c : Jvm.ClassFile.Cond} {off : Int} {len : Nat} {x : Int32} (hc : cod mi pc = some (.ifCond c off, len)) (k : wBr c x 0 (wp S d mi (mTgt pc off) Lo r w Q) (wp S d mi (pc + len) Lo r w Q)) : wp S d mi pc Lo (.int x :: r) w Q := by
  obtain ⟨n, o, w', h1, h2⟩ := wp_b2 (A := fun n => ex S n d mi (mTgt pc off) Lo r w) (B := fun n => ex S n d mi (pc + len) Lo r w) id id k
  refine ⟨n + 1, o, w', ?_, h2⟩
  unfold ex
  rw [hc]
  exact h1
theorem wp_ic {c : Jvm.ClassFile.Cond} {off : Int} {len : Nat} {x y : Int32} (hc : cod mi pc = some (.if_icmp c off, len)) (k : wBr c x y (wp S d mi (mTgt pc off) Lo r w Q) (wp S d mi (pc + len) Lo r w Q)) : wp S d mi pc Lo (.int y :: .int x :: r) w Q := by
  obtain ⟨n, o, w', h1, h2⟩ := wp_b2 (A := fun n => ex S n d mi (mTgt pc off) Lo r w) (B := fun n => ex S n d mi (pc + len) Lo r w) id id k
  refine ⟨n + 1, o, w', ?_, h2⟩
  unfold ex
  rw [hc]
  exact h1
theorem wp_nn {off : Int} {len a : Nat} (hc : cod mi pc = some (.ifnonnull off, len)) (k : wp S d mi (mTgt pc off) Lo r w Q) : wp S d mi pc Lo (.ref a :: r) w Q := by
  obtain ⟨n, o, w', h1, h2⟩ := k
  refine ⟨n + 1, o, w', ?_, h2⟩
  unfold ex
  rw [hc]
  exact h1
theorem wp_nl {off : Int} {len : Nat} (hc : cod mi pc = some (.ifnonnull off, len)) (k : wp S d mi (pc + len) Lo r w Q) : wp S d mi pc Lo (.null :: r) w Q := by
  obtain ⟨n, o, w', h1, h2⟩ := k
  refine ⟨n + 1, o, w', ?_, h2⟩
  unfold ex
  rw [hc]
  exact h1
theorem wp_tab {df lo hi : Int} {offs : Array Int} {len : Nat} {x : Int32} (hc : cod mi pc = some (.tableswitch df lo hi offs, len)) (k0 : x.toInt < lo ∨ hi < x.toInt → wp S d mi (mTgt pc df) Lo r w Q) (k1 : ∀ off, ¬ (x.toInt < lo ∨ hi < x.toInt) → offs[(x.toInt - lo).toNat]? = some off → wp S d mi (mTgt pc off) Lo r w Q) (k2 : ¬ (x.toInt < lo ∨ hi < x.toInt) → (x.toInt - lo).toNat < offs.size) : wp S d mi pc Lo (.int x :: r) w Q := by
  by_cases q : x.toInt < lo ∨ hi < x.toInt
  · obtain ⟨n, o, w', h1, h2⟩ := k0 q
    refine ⟨n + 1, o, w', ?_, h2⟩
    unfold ex
    rw [hc]
    show (if x.toInt < lo ∨ hi < x.toInt then _ else _) = _
    rw [if_pos q]
    exact h1
  · have hl := k2 q
    obtain ⟨n, o, w', h1, h2⟩ := k1 _ q (Array.getElem?_eq_getElem hl)
    refine ⟨n + 1, o, w', ?_, h2⟩
    unfold ex
    rw [hc]
    show (if x.toInt < lo ∨ hi < x.toInt then _ else _) = _
    rw [if_neg q, Array.getElem?_eq_getElem hl]
    exact h1
theorem wp_iret {len : Nat} {v : Int32} (hc : cod mi pc = some (.ireturn, len)) (hr : (gMe mi).2.2.2.1 = some .int ∨ ((gMe mi).2.2.2.1 = some .boolean ∧ (v = 0 ∨ v = 1))) (k : Q (some (some (.int v))) w) : wp S d mi pc Lo [.int v] w Q := by
  refine ⟨1, _, _, ?_, k⟩
  unfold ex
  rw [hc]
  exact if_pos hr
theorem wp_lret {len : Nat} {v : Int64} (hc : cod mi pc = some (.lreturn, len)) (hr : (gMe mi).2.2.2.1 = some .long) (k : Q (some (some (.long v))) w) : wp S d mi pc Lo [.long v] w Q := by
  refine ⟨1, _, _, ?_, k⟩
  unfold ex
  rw [hc]
  exact if_pos hr
theorem wp_vret {len : Nat} (hc : cod mi pc = some (.return_, len)) (hr : (gMe mi).2.2.2.1 = none) (k : Q (some none) w) : wp S d mi pc Lo [] w Q := by
  refine ⟨1, _, _, ?_, k⟩
  unfold ex
  rw [hc]
  exact if_pos hr
theorem wp_thr {x len : Nat} (hc : cod mi pc = some (.new x, len)) (hn : mLk gNew (gO mi) x = some 11) (hl : (wS w).length < mScr) (h8 : mCat st ≤ 8) (k : Q none (mNew w (0, 11) 6)) : wp S d mi pc Lo st w Q := by
  refine ⟨1, _, _, ?_, k⟩
  have hs : st1 S d mi (.new x) Lo st w = none := by
    show mNwo mi x Lo st w = none
    unfold mNwo
    rw [hn]
    exact if_pos (Or.inl (by decide))
  unfold ex
  rw [hc]
  dsimp only
  rw [hs]
  exact if_pos ⟨hn, hl, h8⟩
/-- a call: the callee's wp, then what comes behind it -/
theorem wp_cv {x len mj a d1 : Nat} {as : List Value} (hc : cod mi pc = some (.invokevirtual x, len)) (hg : mLk gCall (gO mi) x = some (mj, 0)) (hp : mPop ((gMe mj).2.2.2.2.2.1 + 1) st = some (.ref a :: as, r)) (hk : (gMe mj).2.2.2.2.2.2 = 1 ∧ mj < 1000 ∧ mCat r ≤ 8 ∧ (mArg (.ref a :: as)).length ≤ (gMe mj).2.2.1) (hs : (wS w)[a]? = some (0, gO mj)) (k : wc S d1 mj (.ref a :: as) w (fun o w' => ∃ v, o = some v ∧ wp S (d1 + 1) mi (pc + len) Lo (v.toList ++ r) w' Q)) : wp S (d1 + 1) mi pc Lo st w Q := by
  obtain ⟨n1, o1, w1, h1, v, rfl, n2, o2, w2, h2, h3⟩ := k
  refine ⟨n1 + n2 + 1, o2, w2, ?_, h3⟩
  have hst : st1 S (d1 + 1) mi (.invokevirtual x) Lo st w = none := by
    show mIvt (d1 + 1) mi x Lo st w = none
    unfold mIvt
    rw [hg]
    have : mj ≠ 1002 ∧ mj ≠ 1003 := by omega
    split
    · rename_i h; cases h; exact absurd rfl this.1
    · rename_i h; cases h; exact absurd rfl this.2
    · rfl
  unfold ex
  rw [hc]
  dsimp only
  rw [hst, hg]
  dsimp only
  rw [hp]
  dsimp only
  rw [if_pos ⟨hk.1, hk.2.1, rfl, hs, hk.2.2.1, hk.2.2.2⟩, ex_le h1 (by omega : n1 ≤ n1 + n2)]
  exact ex_le h2 (by omega)
theorem wp_cs {x len mj nn d1 : Nat} {as : List Value} (hc : cod mi pc = some (.invokestatic x, len)) (hg : mLk gCall (gO mi) x = some (mj, nn)) (hp : mPop (gMe mj).2.2.2.2.2.1 st = some (as, r)) (hk : (gMe mj).2.2.2.2.2.2 = 0 ∧ mj < 1000 ∧ mCat r ≤ 8 ∧ (mArg as).length ≤ (gMe mj).2.2.1) (hh : ¬ (246 ≤ mj ∧ mj ≤ 248)) (k : wc S d1 mj as w (fun o w' => ∃ v, o = some v ∧ wp S (d1 + 1) mi (pc + len) Lo (v.toList ++ r) w' Q)) : wp S (d1 + 1) mi pc Lo st w Q := by
  obtain ⟨n1, o1, w1, h1, v, rfl, n2, o2, w2, h2, h3⟩ := k
  refine ⟨n1 + n2 + 1, o2, w2, ?_, h3⟩
  have hst : st1 S (d1 + 1) mi (.invokestatic x) Lo st w = none := by
    show mIst (d1 + 1) mi x Lo st w = none
    unfold mIst
    rw [hg]
    have : mj ≠ 1001 ∧ mj ≠ 1005 ∧ mj ≠ 1006 ∧ mj ≠ 1007 := by omega
    split
    · rename_i h; cases h; exact absurd rfl this.1
    · rename_i h; cases h; exact absurd rfl this.2.1
    · rename_i h; cases h; exact absurd rfl this.2.2.1
    · rename_i h; cases h; exact absurd rfl this.2.2.2
    · rfl
  unfold ex
  rw [hc]
  dsimp only
  rw [hst, hg]
  dsimp only
  rw [hp]
  dsimp only
  rw [if_pos hk, if_neg hh, ex_le h1 (by omega : n1 ≤ n1 + n2)]
  exact ex_le h2 (by omega)
theorem wp_ci {x len mj nn a d1 : Nat} {as : List Value} (hc : cod mi pc = some (.invokespecial x, len)) (hg : mLk gCall (gO mi) x = some (mj, nn)) (hp : mPop ((gMe mj).2.2.2.2.2.1 + 1) st = some (.ref a :: as, r)) (hk : (gMe mj).2.2.2.2.2.2 = 2 ∧ mj < 1000 ∧ mCat r ≤ 8 ∧ (mArg (.ref a :: as)).length ≤ (gMe mj).2.2.1) (k : wc S d1 mj (.ref a :: as) w (fun o w' => o = some none ∧ wp S (d1 + 1) mi (pc + len) Lo r w' Q)) : wp S (d1 + 1) mi pc Lo st w Q := by
  obtain ⟨n1, o1, w1, h1, rfl, n2, o2, w2, h2, h3⟩ := k
  refine ⟨n1 + n2 + 1, o2, w2, ?_, h3⟩
  have hst : st1 S (d1 + 1) mi (.invokespecial x) Lo st w = none := by
    show mIsp (d1 + 1) mi x Lo st w = none
    unfold mIsp
    split
    · rw [hg]
      refine if_neg (fun z => ?_)
      have : mj = 1000 := Option.some.inj z.1
      omega
    · rfl
  unfold ex
  rw [hc]
  dsimp only
  rw [hst, hg]
  dsimp only
  rw [hp]
  dsimp only
  rw [if_pos hk, ex_le h1 (by omega : n1 ≤ n1 + n2)]
  exact ex_le h2 (by omega)
/-- straight stretches at once -/
def stN (S : Nat × (Nat → Int32)) (d mi : Nat) (C : List (Nat × Instr × Nat)) : Nat → Nat → mL → List Value → mW → Option (Nat × mL × List Value × mW)
  | 0, pc, Lo, st, w => some (pc, Lo, st, w)
  | k + 1, pc, Lo, st, w => match mFind C pc with
    | some (i, len) => match st1 S d mi i Lo st w with
      | some (Lo1, st1, w1) => stN S d mi C k (pc + len) Lo1 st1 w1
      | none => match i with
        | .goto off => stN S d mi C k (mTgt pc off) Lo st w
        | _ => none
    | none => none
theorem wp_seg {C : List (Nat × Instr × Nat)} {pc1 : Nat} {Lo1 : mL} {st1' : List Value} {w1 : mW} (hC : gCs.getD mi [] = C) : ∀ (k : Nat) {pc : Nat} {Lo : mL} {st : List Value} {w : mW}, stN S d mi C k pc Lo st w = some (pc1, Lo1, st1', w1) → wp S d mi pc1 Lo1 st1' w1 Q → wp S d mi pc Lo st w Q := by
  intro k
  induction k with
  | zero =>
    intro pc Lo st w h kk
    cases h
    exact kk
  | succ k ih =>
    intro pc Lo st w h kk
    unfold stN at h
    split at h
    · rename_i i len hf
      have hc : cod mi pc = some (i, len) := by unfold cod; rw [hC]; exact hf
      split at h
      · rename_i Lo2 st2 w2 hs
        exact wp_st hc hs (ih h kk)
      · split at h
        · rename_i off hs
          exact wp_goto hc (ih h kk)
        · cases h
    · cases h
end WPR
end
section
/-! the 68 cells that the constructors make: 0 to 42 the class's, 43 to 66 the reference's, 67 the law's own array -/
def SHL : List (Nat × Nat) := [(0, 9), (0, 6), (1, 940), (0, 2), (0, 3), (1, 64), (4, 6), (1, 8), (1, 8), (1, 12), (1, 240), (4, 384), (1, 30), (1, 30), (1, 30), (0, 2), (0, 3), (1, 64), (4, 6), (1, 8), (1, 8), (1, 12), (1, 240), (4, 384), (1, 30), (1, 30), (1, 30), (5, 2), (0, 7), (0, 4), (0, 0), (0, 1), (4, 601), (4, 601), (4, 601), (4, 601), (0, 5), (0, 8), (1, 256), (1, 256), (1, 8), (0, 5), (0, 5), (0, 10), (2, 940), (1, 681), (1, 590), (1, 90), (1, 64), (1, 30), (3, 64), (4, 384), (4, 601), (4, 601), (4, 601), (4, 601), (1, 14), (3, 256), (1, 256), (4, 8), (1, 3), (4, 61), (4, 61), (1, 1362), (4, 2), (4, 2), (3, 2), (4, 1)]
def RRl : List (List (Option Nat)) := [[some 1, some 3, some 15, some 27, some 28, some 29, some 30, some 31, some 37], [some 2], [], [some 4, some 12, some 13, some 14], [none, none, none, none, none, none, some 5, some 6, some 7, some 8, some 9, some 10, some 11], [], [], [], [], [], [], [], [], [], [], [some 16, some 24, some 25, some 26], [none, none, none, none, none, none, some 17, some 18, some 19, some 20, some 21, some 22, some 23], [], [], [], [], [], [], [], [], [], [], [], [some 2], [some 28, some 16], [some 28, some 4, some 15], [some 3, some 36, some 32, some 33, some 34, some 35], [], [], [], [], [some 3, some 4], [some 3, some 2, some 41, some 42, some 38, some 39, some 40], [], [], [], [some 3, some 4], [some 3, some 4], [none, some 44, none, none, none, none, some 45, some 46, some 47, none, none, none, none, none, none, none, none, none, none, none, none, none, none, some 48, some 49, some 50, none, none, none, some 51, none, none, some 52, some 53, some 54, some 55, none, none, none, none, none, none, none, none, none, none, some 56, none, none, some 57, some 58, some 59, none, none, some 60, none, none, none, none, none, none, some 61, some 62, none, none, some 63, some 64, some 65, some 66], [], [], [], [], [], [], [], [], [], [], [], [], [], [], [], [], [], [], [], [], [], [], [], []]
abbrev rI0 : Type := Nat → Nat → Int32
abbrev rJ0 : Type := Nat → Nat → Int64
/-- what may come behind them: more cells, the two kept evenings, the counts -/
abbrev mX : Type := List (Nat × Nat) × (Nat → Nat → Option Nat) × Nat × Nat
def RRk (kf : Nat → Nat → Option Nat) (a : Nat) : Nat → Option Nat := match (Nat.beq a 27 || Nat.ble 68 a) with
  | true => kf a
  | false => fun k => (RRl.getD a []).getD k none
def wv (x : mX) (I : rI0) (J : rJ0) : mW := (SHL ++ x.1, I, J, RRk x.2.1, x.2.2)
def rI (x : mX) (Q : Int32 → rI0 → rJ0 → Prop) : mO → mW → Prop := fun o w => ∃ v I J, o = some (some (.int v)) ∧ w = wv x I J ∧ Q v I J
def rJ (x : mX) (Q : Int64 → rI0 → rJ0 → Prop) : mO → mW → Prop := fun o w => ∃ v I J, o = some (some (.long v)) ∧ w = wv x I J ∧ Q v I J
def rV (x : mX) (Q : rI0 → rJ0 → Prop) : mO → mW → Prop := fun o w => ∃ I J, o = some none ∧ w = wv x I J ∧ Q I J
section LAY
variable {S : Nat × (Nat → Int32)} {d mi pc : Nat} {Lo : mL} {st r : List Value} {x : mX} {I : rI0} {J : rJ0} {Q : mO → mW → Prop}
abbrev wcI (S : Nat × (Nat → Int32)) (d mj : Nat) (as : List Value) (x : mX) (I : rI0) (J : rJ0) (Q : Int32 → rI0 → rJ0 → Prop) : Prop := wc S d mj as (wv x I J) (rI x Q)
abbrev wcJ (S : Nat × (Nat → Int32)) (d mj : Nat) (as : List Value) (x : mX) (I : rI0) (J : rJ0) (Q : Int64 → rI0 → rJ0 → Prop) : Prop := wc S d mj as (wv x I J) (rJ x Q)
abbrev wcV (S : Nat × (Nat → Int32)) (d mj : Nat) (as : List Value) (x : mX) (I : rI0) (J : rJ0) (Q : rI0 → rJ0 → Prop) : Prop := wc S d mj as (wv x I J) (rV x Q)
theorem wcI_mono {mj : Nat} {as : List Value} {Q Q' : Int32 → rI0 → rJ0 → Prop} (h : wcI S d mj as x I J Q) (hq : ∀ v I J, Q v I J → Q' v I J) : wcI S d mj as x I J Q' := wc_mono h (fun _ _ ⟨v, I, J, h1, h2, h3⟩ => ⟨v, I, J, h1, h2, hq v I J h3⟩)
theorem wcJ_mono {mj : Nat} {as : List Value} {Q Q' : Int64 → rI0 → rJ0 → Prop} (h : wcJ S d mj as x I J Q) (hq : ∀ v I J, Q v I J → Q' v I J) : wcJ S d mj as x I J Q' := wc_mono h (fun _ _ ⟨v, I, J, h1, h2, h3⟩ => ⟨v, I, J, h1, h2, hq v I J h3⟩)
theorem wcV_mono {mj : Nat} {as : List Value} {Q Q' : rI0 → rJ0 → Prop} (h : wcV S d mj as x I J Q) (hq : ∀ I J, Q I J → Q' I J) : wcV S d mj as x I J Q' := wc_mono h (fun _ _ ⟨I, J, h1, h2, h3⟩ => ⟨I, J, h1, h2, hq I J h3⟩)
theorem wi_eq {off : Int} {tgt : Nat} {x1 : Int32} (hc : cod mi pc = some (.ifCond .eq off, 3)) (ht : mTgt pc off = tgt) (k1 : x1 = 0 → wp S d mi tgt Lo r (wv x I J) Q) (k2 : ¬ x1 = 0 → wp S d mi (pc + 3) Lo r (wv x I J) Q) : wp S d mi pc Lo (.int x1 :: r) (wv x I J) Q := wp_if hc (ht ▸ ⟨k1, k2⟩)
theorem wj_eq {off : Int} {tgt : Nat} {x1 y1 : Int32} (hc : cod mi pc = some (.if_icmp .eq off, 3)) (ht : mTgt pc off = tgt) (k1 : x1 = y1 → wp S d mi tgt Lo r (wv x I J) Q) (k2 : ¬ x1 = y1 → wp S d mi (pc + 3) Lo r (wv x I J) Q) : wp S d mi pc Lo (.int y1 :: .int x1 :: r) (wv x I J) Q := wp_ic hc (ht ▸ ⟨k1, k2⟩)
theorem wi_ne {off : Int} {tgt : Nat} {x1 : Int32} (hc : cod mi pc = some (.ifCond .ne off, 3)) (ht : mTgt pc off = tgt) (k1 : x1 = 0 → wp S d mi (pc + 3) Lo r (wv x I J) Q) (k2 : ¬ x1 = 0 → wp S d mi tgt Lo r (wv x I J) Q) : wp S d mi pc Lo (.int x1 :: r) (wv x I J) Q := wp_if hc (ht ▸ ⟨k1, k2⟩)
theorem wj_ne {off : Int} {tgt : Nat} {x1 y1 : Int32} (hc : cod mi pc = some (.if_icmp .ne off, 3)) (ht : mTgt pc off = tgt) (k1 : x1 = y1 → wp S d mi (pc + 3) Lo r (wv x I J) Q) (k2 : ¬ x1 = y1 → wp S d mi tgt Lo r (wv x I J) Q) : wp S d mi pc Lo (.int y1 :: .int x1 :: r) (wv x I J) Q := wp_ic hc (ht ▸ ⟨k1, k2⟩)
theorem wi_lt {off : Int} {tgt : Nat} {x1 : Int32} (hc : cod mi pc = some (.ifCond .lt off, 3)) (ht : mTgt pc off = tgt) (k1 : x1 < 0 → wp S d mi tgt Lo r (wv x I J) Q) (k2 : ¬ x1 < 0 → wp S d mi (pc + 3) Lo r (wv x I J) Q) : wp S d mi pc Lo (.int x1 :: r) (wv x I J) Q := wp_if hc (ht ▸ ⟨k1, k2⟩)
theorem wj_lt {off : Int} {tgt : Nat} {x1 y1 : Int32} (hc : cod mi pc = some (.if_icmp .lt off, 3)) (ht : mTgt pc off = tgt) (k1 : x1 < y1 → wp S d mi tgt Lo r (wv x I J) Q) (k2 : ¬ x1 < y1 → wp S d mi (pc + 3) Lo r (wv x I J) Q) : wp S d mi pc Lo (.int y1 :: .int x1 :: r) (wv x I J) Q := wp_ic hc (ht ▸ ⟨k1, k2⟩)
theorem wi_ge {off : Int} {tgt : Nat} {x1 : Int32} (hc : cod mi pc = some (.ifCond .ge off, 3)) (ht : mTgt pc off = tgt) (k1 : x1 < 0 → wp S d mi (pc + 3) Lo r (wv x I J) Q) (k2 : ¬ x1 < 0 → wp S d mi tgt Lo r (wv x I J) Q) : wp S d mi pc Lo (.int x1 :: r) (wv x I J) Q := wp_if hc (ht ▸ ⟨k1, k2⟩)
theorem wj_ge {off : Int} {tgt : Nat} {x1 y1 : Int32} (hc : cod mi pc = some (.if_icmp .ge off, 3)) (ht : mTgt pc off = tgt) (k1 : x1 < y1 → wp S d mi (pc + 3) Lo r (wv x I J) Q) (k2 : ¬ x1 < y1 → wp S d mi tgt Lo r (wv x I J) Q) : wp S d mi pc Lo (.int y1 :: .int x1 :: r) (wv x I J) Q := wp_ic hc (ht ▸ ⟨k1, k2⟩)
theorem wi_gt {off : Int} {tgt : Nat} {x1 : Int32} (hc : cod mi pc = some (.ifCond .gt off, 3)) (ht : mTgt pc off = tgt) (k1 : 0 < x1 → wp S d mi tgt Lo r (wv x I J) Q) (k2 : ¬ 0 < x1 → wp S d mi (pc + 3) Lo r (wv x I J) Q) : wp S d mi pc Lo (.int x1 :: r) (wv x I J) Q := wp_if hc (ht ▸ ⟨k1, k2⟩)
theorem wj_gt {off : Int} {tgt : Nat} {x1 y1 : Int32} (hc : cod mi pc = some (.if_icmp .gt off, 3)) (ht : mTgt pc off = tgt) (k1 : y1 < x1 → wp S d mi tgt Lo r (wv x I J) Q) (k2 : ¬ y1 < x1 → wp S d mi (pc + 3) Lo r (wv x I J) Q) : wp S d mi pc Lo (.int y1 :: .int x1 :: r) (wv x I J) Q := wp_ic hc (ht ▸ ⟨k1, k2⟩)
theorem wi_le {off : Int} {tgt : Nat} {x1 : Int32} (hc : cod mi pc = some (.ifCond .le off, 3)) (ht : mTgt pc off = tgt) (k1 : 0 < x1 → wp S d mi (pc + 3) Lo r (wv x I J) Q) (k2 : ¬ 0 < x1 → wp S d mi tgt Lo r (wv x I J) Q) : wp S d mi pc Lo (.int x1 :: r) (wv x I J) Q := wp_if hc (ht ▸ ⟨k1, k2⟩)
theorem wj_le {off : Int} {tgt : Nat} {x1 y1 : Int32} (hc : cod mi pc = some (.if_icmp .le off, 3)) (ht : mTgt pc off = tgt) (k1 : y1 < x1 → wp S d mi (pc + 3) Lo r (wv x I J) Q) (k2 : ¬ y1 < x1 → wp S d mi tgt Lo r (wv x I J) Q) : wp S d mi pc Lo (.int y1 :: .int x1 :: r) (wv x I J) Q := wp_ic hc (ht ▸ ⟨k1, k2⟩)
theorem wa_i {a n : Nat} {j : Int32} (hc : cod mi pc = some (.iaload, 1)) (hn : ¬ a = mScr) (hs : (SHL ++ x.1)[a]? = some (1, n)) (ho : ¬ mOut j n) (k : wp S d mi (pc + 1) Lo (.int (I a j.toNatClampNeg) :: r) (wv x I J) Q) : wp S d mi pc Lo (.int j :: .ref a :: r) (wv x I J) Q := by
  refine wp_st hc ?_ k
  show mIal S mi Lo (.int j :: .ref a :: r) (wv x I J) = _
  have hs : (wS (wv x I J))[a]? = some (1, n) := hs
  unfold mIal
  dsimp only
  rw [if_neg (fun z => hn z.1), hs]
  exact if_neg ho
theorem wa_l {a n : Nat} {j : Int32} (hc : cod mi pc = some (.laload, 1)) (hs : (SHL ++ x.1)[a]? = some (4, n)) (ho : ¬ mOut j n) (k : wp S d mi (pc + 1) Lo (.long (J a j.toNatClampNeg) :: r) (wv x I J) Q) : wp S d mi pc Lo (.int j :: .ref a :: r) (wv x I J) Q := by
  refine wp_st hc ?_ k
  show mLal Lo (.int j :: .ref a :: r) (wv x I J) = _
  have hs : (wS (wv x I J))[a]? = some (4, n) := hs
  unfold mLal
  dsimp only
  rw [hs]
  exact if_neg ho
theorem wa_b {a n : Nat} {j : Int32} (hc : cod mi pc = some (.baload, 1)) (hs : (SHL ++ x.1)[a]? = some (2, n) ∨ (SHL ++ x.1)[a]? = some (3, n)) (ho : ¬ mOut j n) (k : wp S d mi (pc + 1) Lo (.int (I a j.toNatClampNeg) :: r) (wv x I J) Q) : wp S d mi pc Lo (.int j :: .ref a :: r) (wv x I J) Q := by
  refine wp_st hc ?_ k
  show mBal Lo (.int j :: .ref a :: r) (wv x I J) = _
  have hs : (wS (wv x I J))[a]? = some (2, n) ∨ (wS (wv x I J))[a]? = some (3, n) := hs
  unfold mBal
  dsimp only
  rcases hs with hs | hs <;> (rw [hs]; exact if_neg ho)
theorem ws_i {a n : Nat} {j v : Int32} (hc : cod mi pc = some (.iastore, 1)) (hs : (SHL ++ x.1)[a]? = some (1, n)) (ho : ¬ mOut j n) (k : wp S d mi (pc + 1) Lo r (wv x (mSet I a j.toNatClampNeg v) J) Q) : wp S d mi pc Lo (.int v :: .int j :: .ref a :: r) (wv x I J) Q := by
  refine wp_st hc ?_ k
  show mIas Lo (.int v :: .int j :: .ref a :: r) (wv x I J) = _
  have hs : (wS (wv x I J))[a]? = some (1, n) := hs
  unfold mIas
  dsimp only
  rw [hs]
  exact if_neg ho
theorem ws_b {a n : Nat} {j v : Int32} (hc : cod mi pc = some (.bastore, 1)) (hs : (SHL ++ x.1)[a]? = some (2, n)) (ho : ¬ mOut j n) (k : wp S d mi (pc + 1) Lo r (wv x (mSet I a j.toNatClampNeg (vp_nar .byte v)) J) Q) : wp S d mi pc Lo (.int v :: .int j :: .ref a :: r) (wv x I J) Q := by
  refine wp_st hc ?_ k
  show mBas Lo (.int v :: .int j :: .ref a :: r) (wv x I J) = _
  have hs : (wS (wv x I J))[a]? = some (2, n) := hs
  unfold mBas
  dsimp only
  rw [hs]
  exact if_neg ho
theorem ws_z {a n : Nat} {j v : Int32} (hc : cod mi pc = some (.bastore, 1)) (hs : (SHL ++ x.1)[a]? = some (3, n)) (ho : ¬ mOut j n) (k : wp S d mi (pc + 1) Lo r (wv x (mSet I a j.toNatClampNeg (vp_nar .boolean v)) J) Q) : wp S d mi pc Lo (.int v :: .int j :: .ref a :: r) (wv x I J) Q := by
  refine wp_st hc ?_ k
  show mBas Lo (.int v :: .int j :: .ref a :: r) (wv x I J) = _
  have hs : (wS (wv x I J))[a]? = some (3, n) := hs
  unfold mBas
  dsimp only
  rw [hs]
  exact if_neg ho
theorem ws_l {a n : Nat} {j : Int32} {v : Int64} (hc : cod mi pc = some (.lastore, 1)) (hs : (SHL ++ x.1)[a]? = some (4, n)) (ho : ¬ mOut j n) (k : wp S d mi (pc + 1) Lo r (wv x I (mSet J a j.toNatClampNeg v)) Q) : wp S d mi pc Lo (.long v :: .int j :: .ref a :: r) (wv x I J) Q := by
  refine wp_st hc ?_ k
  show mLas Lo (.long v :: .int j :: .ref a :: r) (wv x I J) = _
  have hs : (wS (wv x I J))[a]? = some (4, n) := hs
  unfold mLas
  dsimp only
  rw [hs]
  exact if_neg ho
theorem wd_i {y1 x1 : Int32} (hc : cod mi pc = some (.idiv, 1)) (hy : ¬ y1 = 0) (k : wp S d mi (pc + 1) Lo (.int (x1 / y1) :: r) (wv x I J) Q) : wp S d mi pc Lo (.int y1 :: .int x1 :: r) (wv x I J) Q := by
  refine wp_st hc ?_ k
  show mDef .idiv Lo (.int y1 :: .int x1 :: r) (wv x I J) = _
  unfold mDef mBin
  dsimp only
  rw [if_neg hy]
theorem wd_r {y1 x1 : Int32} (hc : cod mi pc = some (.irem, 1)) (hy : ¬ y1 = 0) (k : wp S d mi (pc + 1) Lo (.int (x1 - x1 / y1 * y1) :: r) (wv x I J) Q) : wp S d mi pc Lo (.int y1 :: .int x1 :: r) (wv x I J) Q := by
  refine wp_st hc ?_ k
  show mDef .irem Lo (.int y1 :: .int x1 :: r) (wv x I J) = _
  unfold mDef mBin
  dsimp only
  rw [if_neg hy]
theorem wd_l {y1 x1 : Int64} (hc : cod mi pc = some (.ldiv, 1)) (hy : ¬ y1 = 0) (k : wp S d mi (pc + 1) Lo (.long (x1 / y1) :: r) (wv x I J) Q) : wp S d mi pc Lo (.long y1 :: .long x1 :: r) (wv x I J) Q := by
  refine wp_st hc ?_ k
  show mDef .ldiv Lo (.long y1 :: .long x1 :: r) (wv x I J) = _
  unfold mDef mBiL
  dsimp only
  rw [if_neg hy]
theorem wd_m {y1 x1 : Int64} (hc : cod mi pc = some (.lrem, 1)) (hy : ¬ y1 = 0) (k : wp S d mi (pc + 1) Lo (.long (x1 - x1 / y1 * y1) :: r) (wv x I J) Q) : wp S d mi pc Lo (.long y1 :: .long x1 :: r) (wv x I J) Q := by
  refine wp_st hc ?_ k
  show mDef .lrem Lo (.long y1 :: .long x1 :: r) (wv x I J) = _
  unfold mDef mBiL
  dsimp only
  rw [if_neg hy]
theorem wz_put {k1 a ci k : Nat} {v : Int32} (hc : cod mi pc = some (.putfield k1, 3)) (hf : mLk gF (gO mi) k1 = some (ci, k)) (hs : (SHL ++ x.1)[a]? = some (0, ci)) (hk : gFi ci k = false ∧ gKi ci k = 3) (hv : v = 0 ∨ v = 1) (kk : wp S d mi (pc + 3) Lo r (wv x (mSet I a k v) J) Q) : wp S d mi pc Lo (.int v :: .ref a :: r) (wv x I J) Q := by
  refine wp_st hc ?_ kk
  show mPut mi k1 Lo (.int v :: .ref a :: r) (wv x I J) = _
  have hs : (wS (wv x I J))[a]? = some (0, ci) := hs
  unfold mPut
  dsimp only
  rw [hf]
  exact if_pos ⟨hs, hk.1, Or.inr ⟨hk.2, hv⟩⟩
theorem we_i {v : Int32} {Q : Int32 → rI0 → rJ0 → Prop} (hc : cod mi pc = some (.ireturn, 1)) (hr : (gMe mi).2.2.2.1 = some .int) (k : Q v I J) : wp S d mi pc Lo [.int v] (wv x I J) (rI x Q) := wp_iret hc (Or.inl hr) ⟨v, I, J, rfl, rfl, k⟩
theorem we_z {v : Int32} {Q : Int32 → rI0 → rJ0 → Prop} (hc : cod mi pc = some (.ireturn, 1)) (hr : (gMe mi).2.2.2.1 = some .boolean) (hv : v = 0 ∨ v = 1) (k : Q v I J) : wp S d mi pc Lo [.int v] (wv x I J) (rI x Q) := wp_iret hc (Or.inr ⟨hr, hv⟩) ⟨v, I, J, rfl, rfl, k⟩
theorem we_l {v : Int64} {Q : Int64 → rI0 → rJ0 → Prop} (hc : cod mi pc = some (.lreturn, 1)) (hr : (gMe mi).2.2.2.1 = some .long) (k : Q v I J) : wp S d mi pc Lo [.long v] (wv x I J) (rJ x Q) := wp_lret hc hr ⟨v, I, J, rfl, rfl, k⟩
theorem we_v {Q : rI0 → rJ0 → Prop} (hc : cod mi pc = some (.return_, 1)) (hr : (gMe mi).2.2.2.1 = none) (k : Q I J) : wp S d mi pc Lo [] (wv x I J) (rV x Q) := wp_vret hc hr ⟨I, J, rfl, rfl, k⟩
theorem cv_I {k1 mj a : Nat} {as : List Value} (hc : cod mi pc = some (.invokevirtual k1, 3)) (hg : mLk gCall (gO mi) k1 = some (mj, 0)) (hp : mPop ((gMe mj).2.2.2.2.2.1 + 1) st = some (.ref a :: as, r)) (hk : (gMe mj).2.2.2.2.2.2 = 1 ∧ mj < 1000 ∧ mCat r ≤ 8 ∧ (mArg (.ref a :: as)).length ≤ (gMe mj).2.2.1) (hs : (SHL ++ x.1)[a]? = some (0, gO mj)) (k : wcI S d mj (.ref a :: as) x I J (fun v I J => wp S (d + 1) mi (pc + 3) Lo (.int v :: r) (wv x I J) Q)) : wp S (d + 1) mi pc Lo st (wv x I J) Q := wp_cv hc hg hp hk hs (wc_mono k (fun _ _ ⟨v, I1, J1, h1, h2, h3⟩ => ⟨some (.int v), h1, h2 ▸ h3⟩))
theorem cs_I {k1 mj nn : Nat} {as : List Value} (hc : cod mi pc = some (.invokestatic k1, 3)) (hg : mLk gCall (gO mi) k1 = some (mj, nn)) (hp : mPop (gMe mj).2.2.2.2.2.1 st = some (as, r)) (hk : (gMe mj).2.2.2.2.2.2 = 0 ∧ mj < 1000 ∧ mCat r ≤ 8 ∧ (mArg as).length ≤ (gMe mj).2.2.1) (hh : ¬ (246 ≤ mj ∧ mj ≤ 248)) (k : wcI S d mj as x I J (fun v I J => wp S (d + 1) mi (pc + 3) Lo (.int v :: r) (wv x I J) Q)) : wp S (d + 1) mi pc Lo st (wv x I J) Q := wp_cs hc hg hp hk hh (wc_mono k (fun _ _ ⟨v, I1, J1, h1, h2, h3⟩ => ⟨some (.int v), h1, h2 ▸ h3⟩))
theorem cv_J {k1 mj a : Nat} {as : List Value} (hc : cod mi pc = some (.invokevirtual k1, 3)) (hg : mLk gCall (gO mi) k1 = some (mj, 0)) (hp : mPop ((gMe mj).2.2.2.2.2.1 + 1) st = some (.ref a :: as, r)) (hk : (gMe mj).2.2.2.2.2.2 = 1 ∧ mj < 1000 ∧ mCat r ≤ 8 ∧ (mArg (.ref a :: as)).length ≤ (gMe mj).2.2.1) (hs : (SHL ++ x.1)[a]? = some (0, gO mj)) (k : wcJ S d mj (.ref a :: as) x I J (fun v I J => wp S (d + 1) mi (pc + 3) Lo (.long v :: r) (wv x I J) Q)) : wp S (d + 1) mi pc Lo st (wv x I J) Q := wp_cv hc hg hp hk hs (wc_mono k (fun _ _ ⟨v, I1, J1, h1, h2, h3⟩ => ⟨some (.long v), h1, h2 ▸ h3⟩))
theorem cs_J {k1 mj nn : Nat} {as : List Value} (hc : cod mi pc = some (.invokestatic k1, 3)) (hg : mLk gCall (gO mi) k1 = some (mj, nn)) (hp : mPop (gMe mj).2.2.2.2.2.1 st = some (as, r)) (hk : (gMe mj).2.2.2.2.2.2 = 0 ∧ mj < 1000 ∧ mCat r ≤ 8 ∧ (mArg as).length ≤ (gMe mj).2.2.1) (hh : ¬ (246 ≤ mj ∧ mj ≤ 248)) (k : wcJ S d mj as x I J (fun v I J => wp S (d + 1) mi (pc + 3) Lo (.long v :: r) (wv x I J) Q)) : wp S (d + 1) mi pc Lo st (wv x I J) Q := wp_cs hc hg hp hk hh (wc_mono k (fun _ _ ⟨v, I1, J1, h1, h2, h3⟩ => ⟨some (.long v), h1, h2 ▸ h3⟩))
theorem cv_V {k1 mj a : Nat} {as : List Value} (hc : cod mi pc = some (.invokevirtual k1, 3)) (hg : mLk gCall (gO mi) k1 = some (mj, 0)) (hp : mPop ((gMe mj).2.2.2.2.2.1 + 1) st = some (.ref a :: as, r)) (hk : (gMe mj).2.2.2.2.2.2 = 1 ∧ mj < 1000 ∧ mCat r ≤ 8 ∧ (mArg (.ref a :: as)).length ≤ (gMe mj).2.2.1) (hs : (SHL ++ x.1)[a]? = some (0, gO mj)) (k : wcV S d mj (.ref a :: as) x I J (fun I J => wp S (d + 1) mi (pc + 3) Lo (r) (wv x I J) Q)) : wp S (d + 1) mi pc Lo st (wv x I J) Q := wp_cv hc hg hp hk hs (wc_mono k (fun _ _ ⟨I1, J1, h1, h2, h3⟩ => ⟨none, h1, h2 ▸ h3⟩))
theorem cs_V {k1 mj nn : Nat} {as : List Value} (hc : cod mi pc = some (.invokestatic k1, 3)) (hg : mLk gCall (gO mi) k1 = some (mj, nn)) (hp : mPop (gMe mj).2.2.2.2.2.1 st = some (as, r)) (hk : (gMe mj).2.2.2.2.2.2 = 0 ∧ mj < 1000 ∧ mCat r ≤ 8 ∧ (mArg as).length ≤ (gMe mj).2.2.1) (hh : ¬ (246 ≤ mj ∧ mj ≤ 248)) (k : wcV S d mj as x I J (fun I J => wp S (d + 1) mi (pc + 3) Lo (r) (wv x I J) Q)) : wp S (d + 1) mi pc Lo st (wv x I J) Q := wp_cs hc hg hp hk hh (wc_mono k (fun _ _ ⟨I1, J1, h1, h2, h3⟩ => ⟨none, h1, h2 ▸ h3⟩))
theorem wm_2 {k1 sp nn : Nat} {x1 y1 : Int32} {f : Int32 → Int32 → Int32} (hc : cod mi pc = some (.invokestatic k1, 3)) (hg : mLk gCall (gO mi) k1 = some (sp, nn)) (hf : (sp = 1005 ∧ f = fun x y => if x < y then y else x) ∨ (sp = 1006 ∧ f = fun x y => if y < x then y else x)) (hr : mCat r ≤ 8) (k : wp S (d + 1) mi (pc + 3) Lo (.int (f x1 y1) :: r) (wv x I J) Q) : wp S (d + 1) mi pc Lo (.int y1 :: .int x1 :: r) (wv x I J) Q := by
  refine wp_st hc ?_ k
  show mIst (d + 1) mi k1 Lo (.int y1 :: .int x1 :: r) (wv x I J) = _
  unfold mIst
  rw [hg]
  rcases hf with ⟨rfl, rfl⟩ | ⟨rfl, rfl⟩ <;> exact if_pos ⟨Nat.succ_pos d, hr⟩
theorem wm_1 {k1 nn : Nat} {x1 : Int32} (hc : cod mi pc = some (.invokestatic k1, 3)) (hg : mLk gCall (gO mi) k1 = some (1007, nn)) (hr : mCat r ≤ 8) (k : wp S (d + 1) mi (pc + 3) Lo (.int (if 0 ≤ x1 then x1 else 0 - x1) :: r) (wv x I J) Q) : wp S (d + 1) mi pc Lo (.int x1 :: r) (wv x I J) Q := by
  refine wp_st hc ?_ k
  show mIst (d + 1) mi k1 Lo (.int x1 :: r) (wv x I J) = _
  unfold mIst
  rw [hg]
  exact if_pos ⟨Nat.succ_pos d, hr⟩
end LAY
end
