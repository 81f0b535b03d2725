section TN0
variable {S : Nat × (Nat → Int32)} {d : Nat} {x : mX} {I : rI0} {J : rJ0} {b : Nat → Int32} {n lim p : Nat}
theorem Nst.pos {i : Nat} (h : Nst b n lim p I) (hi : i < 940) : 0 ≤ (b i).toInt ∧ (b i).toInt ≤ 255 := by
  rw [← h.2.2.2.1 i hi]
  exact i_and (I 44 i) (m := 255) 8 (by decide)
def NxQ (b : Nat → Int32) (n lim q : Nat) (I0 : rI0) (J0 : rJ0) (I' : rI0) (J' : rJ0) : Prop := Nf5 I0 J0 I' J' ∧ I' 43 4 = nI (tkE b n lim q) ∧ I' 43 10 = nI (tkA n lim q) ∧ I' 43 9 = tokOf (tkK b n lim q) ∧ (tkK b n lim q = 2 → I' 43 11 = nI (tRn b n q - q) ∧ J' 43 15 = tPk b q (tRn b n q - q)) ∧ (tkK b n lim q = 3 → I' 43 12 = tVl b q (tRn b n q - q)) ∧ (tokOf (tkK b n lim q) = 3 → I' 43 12 = tkK b n lim q)
/-- behind the blanks, ahead of the limit or with a text that is not too long -/
theorem nx80 {q : Nat} {Q : rI0 → rJ0 → Prop} (hs : Nst b n lim q I) (hl : lim < n → q < lim) (e10 : I 43 10 = nI q) (e11 : I 43 11 = 0) (k : ∀ I' J', NxQ b n lim q I J I' J' → Q I' J') : wp S (d + 1) 161 80 [some (.ref 43), none, none, none] [] (wv x I J) (rV x Q) := by
  have hn := hs.1
  have hq := hs.2.2.1
  have e4 := hs.2.2.2.2.2.2
  by_cases z : q < n
  · have hm : q < min n lim := by omega
    have ec : chr b n q = b q := if_pos z
    have eA : tkA n lim q = q := by
      unfold tkA
      rw [if_neg (by omega)]
    have ps := hs.pos (i := q) (by omega)
    have v0 : (0 : Int32).toInt = 0 := by decide
    by_cases al : tAln (b q) = true
    · have hr : q < tRn b n q := by
        have e : tRn b n q = tRn b n (q + 1) := tGo_s z al
        have := (tRn_le (b := b) (n := n) (p := q + 1)).1
        omega
      have eE : tkE b n lim q = tRn b n q := by
        unfold tkE
        rw [if_neg (by omega), if_neg (by omega)]
      have fin : ∀ I' J', NxE b n lim q (tRn b n q) (mSet I 43 12 0) (mSet J 43 15 0) I' J' → Q I' J' := by
        intro I' J' ⟨o, a4, a10, a9, a11, a12, a15⟩
        refine k I' J' ⟨(Nf5.s (by omega)).tr (Nf5.w.tr o), by rw [a4, eE], by rw [a10, eA]; exact e10, a9, fun h2 => ?_, fun h3 => ?_, fun hk => ?_⟩
        · have l8 : tRn b n q - q ≤ 8 := by
            rcases Nat.lt_or_ge 8 (tRn b n q - q) with w | w
            · rw [tkK_run hm hr] at h2
              split at h2
              · rw [if_neg (by omega)] at h2
                exact absurd h2 (by decide)
              · split at h2 <;> exact absurd h2 (by decide)
            · exact w
          rw [Nat.min_eq_right l8] at a15
          exact ⟨a11, a15⟩
        · have l3 : tRn b n q - q ≤ 3 := by
            rcases Nat.lt_or_ge 3 (tRn b n q - q) with w | w
            · rw [tkK_run hm hr] at h3
              split at h3
              · split at h3 <;> exact absurd h3 (by decide)
              · rw [if_neg (by omega)] at h3
                exact absurd h3 (by decide)
            · exact w
          rw [Nat.min_eq_right l3] at a12
          exact a12
        · exfalso
          rw [tkK_run hm hr] at hk
          revert hk
          split
          · split <;> decide
          · split <;> decide
      have w : ∀ (l1 l2 : Int32), ((l2 = 1 ∧ tAlp (b q) = true) ∨ (l2 = 0 ∧ tAlp (b q) = false)) → wp S (d + 1) 161 181 [some (.ref 43), some (.int l1), some (.int l2), some (.int (1 : Int32))] [] (wv x (mSet I 43 12 0) (mSet J 43 15 0)) (rV x Q) := by
        intro l1 l2 h2
        refine nx181 hm hr h2 (n - q) q 1 _ _ (by omega) (Nat.le_refl _) rfl (hs.mv hq (mSet_ne (by decide)) rfl rfl e4) (by rw [Nat.sub_self]; exact e11) (by rw [Nat.sub_self]; rfl) (by rw [Nat.sub_self]; rfl) (Or.inl ⟨rfl, fun i hi => absurd hi (by omega)⟩) fin
      refine v161_43_80 (peekS hs ⟨fun y => ?_, fun _ => smallS (fun y => ⟨fun y => absurd y (by decide), fun _ => smallS (fun _ => w _ _ (Or.inl ⟨rfl, by rw [ec] at y; exact y⟩)) (fun y2 => absurd (y.symm.trans y2) (by decide))⟩) (fun y => ⟨fun _ => digitS (fun y2 => ⟨fun y => absurd y (by decide), fun _ => smallS (fun y2 => absurd (y2.symm.trans y) (by decide)) (fun _ => w _ _ (Or.inr ⟨rfl, by rw [ec] at y; exact y⟩))⟩) (fun y2 => ?_), fun y => absurd rfl y⟩)⟩)
      · rw [ec, c_lt v0] at y
        omega
      · rw [ec] at y y2
        have := tAln_x al
        rw [y, y2] at this
        cases this
    · have eR : tRn b n q = q := tGo_e (fun y => al y.2)
      have na : tAlp (b q) = false ∧ tDgt (b q) = false := by
        unfold tAln at al
        cases q1 : tAlp (b q)
        · cases q2 : tDgt (b q)
          · exact ⟨rfl, rfl⟩
          · rw [q1, q2] at al; exact absurd rfl al
        · rw [q1] at al; exact absurd rfl al
      have eE : tkE b n lim q = q + 1 := by
        unfold tkE
        rw [if_neg (by omega), if_pos eR]
      have eK : tkK b n lim q = (if b q = 59 ∨ b q = 40 ∨ b q = 41 ∨ (¬ b q < 60 ∧ ¬ 62 < b q) then b q else 0) := by
        unfold tkK
        rw [if_neg (by omega), if_pos eR]
      have nk : ∀ v : Int32, v.toInt = 2 ∨ v.toInt = 3 → ¬ tkK b n lim q = v := by
        intro v hv
        rw [eK]
        have v60 : (60 : Int32).toInt = 60 := by decide
        split
        · rename_i y
          rcases y with y | y | y | y
          · rw [y]; intro h; rw [← h] at hv; exact absurd hv (by decide)
          · rw [y]; intro h; rw [← h] at hv; exact absurd hv (by decide)
          · rw [y]; intro h; rw [← h] at hv; exact absurd hv (by decide)
          · intro h
            have := i_nlt y.1
            rw [h, v60] at this
            omega
        · intro h
          rw [← h] at hv
          exact absurd hv (by decide)
      have f1 : ∀ v : Int32, v = tokOf (tkK b n lim q) → (tokOf (tkK b n lim q) = 3 → b q = tkK b n lim q) → Q (mSet (mSet (mSet I 43 9 v) 43 12 (chr b n q)) 43 4 (I 43 4 + 1)) J := by
        intro v hv h3
        refine k _ _ ⟨(Nf5.s (by omega)).tr ((Nf5.s (by omega)).tr (Nf5.s (by omega))), ?_, ?_, hv, fun h => absurd h (nk 2 (by decide)), fun h => absurd h (nk 3 (by decide)), fun h => ?_⟩
        · show I 43 4 + 1 = _
          rw [e4, eE, nI_succ]
        · show I 43 10 = _
          rw [e10, eA]
        · show chr b n q = _
          rw [ec]
          exact h3 h
      have f : ∀ v : Int32, (v = 3 ∧ (b q = 59 ∨ b q = 40 ∨ b q = 41 ∨ (¬ b q < 60 ∧ ¬ 62 < b q))) ∨ (v = 4 ∧ ¬ (b q = 59 ∨ b q = 40 ∨ b q = 41 ∨ (¬ b q < 60 ∧ ¬ 62 < b q))) → Q (mSet (mSet (mSet I 43 9 v) 43 12 (chr b n q)) 43 4 (I 43 4 + 1)) J := by
        rintro v (⟨rfl, y⟩ | ⟨rfl, y⟩)
        · refine f1 3 ?_ (fun _ => ?_)
          · rw [eK, if_pos y, tokOf_s y]
          · rw [eK, if_pos y]
        · refine f1 4 ?_ (fun h => ?_)
          · rw [eK, if_neg y]; rfl
          · rw [eK, if_neg y] at h
            exact absurd h (by decide)
      refine v161_43_80 (peekS hs ⟨fun y => ?_, fun _ => smallS (fun y => absurd y (by rw [ec, na.1]; decide)) (fun y => ⟨fun _ => digitS (fun y => absurd y (by rw [ec, na.2]; decide)) (fun y2 => ⟨fun _ => ?_, fun y => absurd rfl y⟩), fun y => absurd rfl y⟩)⟩)
      · rw [ec, c_lt v0] at y
        omega
      · refine ⟨fun h => f 3 (Or.inl ⟨rfl, Or.inl (ec ▸ h)⟩), fun h1 => ⟨fun h => f 3 (Or.inl ⟨rfl, Or.inr (Or.inl (ec ▸ h))⟩), fun h2 => ⟨fun h => f 3 (Or.inl ⟨rfl, Or.inr (Or.inr (Or.inl (ec ▸ h)))⟩), fun h3 => ⟨fun h => f 4 (Or.inr ⟨rfl, ?_⟩), fun h4 => ⟨fun h => f 4 (Or.inr ⟨rfl, ?_⟩), fun h5 => f 3 (Or.inl ⟨rfl, Or.inr (Or.inr (Or.inr ⟨ec ▸ h4, ec ▸ h5⟩))⟩)⟩⟩⟩⟩⟩
        · rw [ec] at h h1 h2 h3
          rintro (y | y | y | y)
          · exact h1 y
          · exact h2 y
          · exact h3 y
          · exact y.1 h
        · rw [ec] at h h1 h2 h3
          rintro (y | y | y | y)
          · exact h1 y
          · exact h2 y
          · exact h3 y
          · exact y.2 h
  · have hq2 : q = n := by omega
    have hl2 : ¬ lim < n := fun y => by have := hl y; omega
    have ec : chr b n q = -1 := if_neg z
    have eK : tkK b n lim q = 1 := by
      unfold tkK
      rw [if_pos (by omega), if_neg hl2]
    have eA : tkA n lim q = q := by
      unfold tkA
      rw [if_pos (by omega)]
      omega
    have eE : tkE b n lim q = q := by
      unfold tkE
      rw [if_pos (by omega)]
    refine v161_43_80 (peekS hs ⟨fun y => k _ _ ⟨Nf5.s (by omega), ?_, ?_, ?_, fun h => ?_, fun h => ?_, fun h => ?_⟩, fun y => absurd (by rw [ec]; decide) y⟩)
    · show I 43 4 = _
      rw [e4, eE]
    · show I 43 10 = _
      rw [e10, eA]
    · rw [eK]; rfl
    · rw [eK] at h; exact absurd h (by decide)
    · rw [eK] at h; exact absurd h (by decide)
    · rw [eK] at h; exact absurd h (by decide)
theorem nx0 {Q : rI0 → rJ0 → Prop} : ∀ (m st : Nat) (I : rI0) (J : rJ0), st + m = n → Nst b n lim st I → (∀ I' J', NxQ b n lim (tSk b n st) I J I' J' → Q I' J') → wp S (d + 1) 161 0 [some (.ref 43), none, none, none] [] (wv x I J) (rV x Q) := by
  intro m
  induction m with
  | zero =>
    intro st I J hm hs k
    have e : tSk b n st = st := tGo_e (fun z => by omega)
    rw [e] at k
    have hn := hs.1
    have e4 := hs.2.2.2.2.2.2
    have e5 := hs.2.2.2.2.2.1
    have e3 := hs.2.2.2.2.1
    have hl := hs.2.1
    have ec : chr b n st = -1 := if_neg (by omega)
    have w : (lim < n → st < lim) → wp S (d + 1) 161 80 [some (.ref 43), none, none, none] [] (wv x (mSet (mSet I 43 10 (I 43 4)) 43 11 0) J) (rV x Q) := fun h => nx80 (hs.mv hs.2.2.1 (by rw [mSet_ne (by decide), mSet_ne (by decide)]) rfl rfl e4) h e4 rfl (fun I' J' h => k I' J' ⟨(Nf5.s (by omega)).tr ((Nf5.s (by omega)).tr h.1), h.2⟩)
    refine v161_43_0 (peekS hs ⟨fun y => absurd y (by rw [ec]; decide), fun _ => peekS hs ⟨fun y => absurd y (by rw [ec]; decide), fun _ => ⟨fun y => ⟨fun y2 => ?_, fun y2 => ?_⟩, fun y => w (fun h => absurd (by rw [e5, e3]; exact nI_lt h (by omega)) y)⟩⟩⟩)
    · rw [e4, e5] at y2
      have : st < lim := by
        rcases Nat.lt_or_ge st lim with q | q
        · exact q
        · exact absurd y2 (nI_nlt q (by omega))
      exact w (fun _ => this)
    · rw [e5, e3] at y
      rw [e4, e5] at y2
      have h1 : lim < n := by
        rcases Nat.lt_or_ge lim n with q | q
        · exact q
        · exact absurd y (nI_nlt q (by omega))
      have h2 : lim ≤ st := by
        rcases Nat.lt_or_ge st lim with q | q
        · exact absurd (nI_lt q (by omega)) y2
        · exact q
      have eK : tkK b n lim st = 0 := by
        unfold tkK
        rw [if_pos (by omega), if_pos h1]
      refine k _ _ ⟨(Nf5.s (by omega)).tr ((Nf5.s (by omega)).tr ((Nf5.s (by omega)).tr (Nf5.s (by omega)))), ?_, ?_, ?_, fun h => ?_, fun h => ?_, fun h => ?_⟩
      · show I 43 4 = _
        unfold tkE
        rw [e4, if_pos (by omega)]
      · show I 43 5 = _
        unfold tkA
        rw [e5, if_pos (by omega), Nat.min_eq_right (by omega)]
      · rw [eK]; rfl
      · rw [eK] at h; exact absurd h (by decide)
      · rw [eK] at h; exact absurd h (by decide)
      · rw [eK] at h; exact absurd h (by decide)
  | succ m ih =>
    intro st I J hm hs k
    have hn := hs.1
    have e4 := hs.2.2.2.2.2.2
    have e5 := hs.2.2.2.2.2.1
    have e3 := hs.2.2.2.2.1
    have hl := hs.2.1
    have ec : chr b n st = b st := if_pos (by omega)
    have tr : tBlk (b st) = true → wp S (d + 1) 161 0 [some (.ref 43), none, none, none] [] (wv x (mSet I 43 4 (I 43 4 + 1)) J) (rV x Q) := by
      intro z
      have e : tSk b n st = tSk b n (st + 1) := tGo_s (by omega) z
      rw [e] at k
      exact ih (st + 1) _ _ (by omega) (hs.mv (by omega) (mSet_ne (by decide)) rfl rfl (by show I 43 4 + 1 = _; rw [e4, nI_succ])) (fun I' J' h => k I' J' ⟨(Nf5.s (by omega)).tr h.1, h.2⟩)
    refine v161_43_0 (peekS hs ⟨fun y => tr ?_, fun z1 => peekS hs ⟨fun y => tr ?_, fun z2 => ?_⟩⟩)
    · rw [ec] at y
      unfold tBlk
      rw [y]
      rfl
    · rw [ec] at y
      unfold tBlk
      rw [y]
      rfl
    · rw [ec] at z1 z2
      have nb : ¬ tBlk (b st) = true := by
        unfold tBlk
        rw [Bool.or_eq_true, decide_eq_true_iff, decide_eq_true_iff]
        rintro (q | q)
        · exact z1 q
        · exact z2 q
      have e : tSk b n st = st := tGo_e (fun z => nb z.2)
      rw [e] at k
      have w : (lim < n → st < lim) → wp S (d + 1) 161 80 [some (.ref 43), none, none, none] [] (wv x (mSet (mSet I 43 10 (I 43 4)) 43 11 0) J) (rV x Q) := fun h => nx80 (hs.mv hs.2.2.1 (by rw [mSet_ne (by decide), mSet_ne (by decide)]) rfl rfl e4) h e4 rfl (fun I' J' h => k I' J' ⟨(Nf5.s (by omega)).tr ((Nf5.s (by omega)).tr h.1), h.2⟩)
      refine ⟨fun y => ⟨fun y2 => ?_, fun y2 => ?_⟩, fun y => w (fun h => absurd (by rw [e5, e3]; exact nI_lt h (by omega)) y)⟩
      · rw [e4, e5] at y2
        have : st < lim := by
          rcases Nat.lt_or_ge st lim with q | q
          · exact q
          · exact absurd y2 (nI_nlt q (by omega))
        exact w (fun _ => this)
      · rw [e5, e3] at y
        rw [e4, e5] at y2
        have h1 : lim < n := by
          rcases Nat.lt_or_ge lim n with q | q
          · exact q
          · exact absurd y (nI_nlt q (by omega))
        have h2 : lim ≤ st := by
          rcases Nat.lt_or_ge st lim with q | q
          · exact absurd (nI_lt q (by omega)) y2
          · exact q
        have eK : tkK b n lim st = 0 := by
          unfold tkK
          rw [if_pos (by omega), if_pos h1]
        refine k _ _ ⟨(Nf5.s (by omega)).tr ((Nf5.s (by omega)).tr ((Nf5.s (by omega)).tr (Nf5.s (by omega)))), ?_, ?_, ?_, fun h => ?_, fun h => ?_, fun h => ?_⟩
        · show I 43 4 = _
          unfold tkE
          rw [e4, if_pos (by omega)]
        · show I 43 5 = _
          unfold tkA
          rw [e5, if_pos (by omega), Nat.min_eq_right (by omega)]
        · rw [eK]; rfl
        · rw [eK] at h; exact absurd h (by decide)
        · rw [eK] at h; exact absurd h (by decide)
        · rw [eK] at h; exact absurd h (by decide)
theorem nextS {Q : rI0 → rJ0 → Prop} (h : Nst b n lim p I) (k : ∀ I' J', Nf5 I J I' J' → Nck b n lim p I' J' → Q I' J') : wcV S (d + 1) 161 [.ref 43] x I J Q := by
  show wp S (d + 1) 161 0 [some (.ref 43), none, none, none] [] (wv x I J) (rV x Q)
  have hp := h.2.2.1
  refine nx0 (n - p) p I J (by omega) h (fun I' J' g => k I' J' g.1 ⟨hp, h.mv (uE_le hp).2 (g.1.1 44 (by decide)) (g.1.2.1 3 (by omega)) (g.1.2.1 5 (by omega)) g.2.1, g.2.2.2.1, g.2.2.1, g.2.2.2.2.1, g.2.2.2.2.2.1, g.2.2.2.2.2.2⟩)
/-! the small readers -/
theorem lg_eq {a c : Int64} : lg_cmp a c = 0 ↔ a = c := by
  unfold lg_cmp
  constructor
  · intro h
    split at h
    · exact absurd h (by decide)
    · split at h
      · assumption
      · exact absurd h (by decide)
  · intro h
    subst h
    rw [if_neg (fun q => Int64.lt_irrefl q), if_pos rfl]
theorem tokOf_2 {K : Int32} : tokOf K = 1 ↔ K = 2 := by
  unfold tokOf
  constructor
  · intro h
    split at h
    · exact absurd h (by decide)
    · split at h
      · exact absurd h (by decide)
      · split at h
        · assumption
        · split at h <;> exact absurd h (by decide)
  · intro h
    subst h
    rfl
theorem tokOf_3 {K : Int32} : tokOf K = 2 ↔ K = 3 := by
  unfold tokOf
  constructor
  · intro h
    split at h
    · exact absurd h (by decide)
    · split at h
      · exact absurd h (by decide)
      · split at h
        · exact absurd h (by decide)
        · split at h
          · assumption
          · exact absurd h (by decide)
  · intro h
    subst h
    rfl
theorem tokOf_1 {K : Int32} : tokOf K = 0 ↔ K = 1 := by
  unfold tokOf
  constructor
  · intro h
    split at h
    · exact absurd h (by decide)
    · split at h
      · assumption
      · split at h
        · exact absurd h (by decide)
        · split at h <;> exact absurd h (by decide)
  · intro h
    subst h
    rfl
theorem wordR {W : Int64} {Q : Int32 → rI0 → rJ0 → Prop} (hW : ¬ W = 0) (h : Nck b n lim p I J) (k1 : uW b n lim p = W → Q 1 I J) (k0 : ¬ uW b n lim p = W → Q 0 I J) : wcI S d 163 [.ref 43, .long W] x I J Q := by
  refine c163_43 ⟨fun z => ?_, fun z => ?_⟩
  · have z : uK b n lim p = 2 := tokOf_2.mp (h.2.2.1.symm.trans z)
    have e := (h.2.2.2.2.1 z).2
    rw [← uW_2 z] at e
    exact ⟨fun y => k1 (by rw [e] at y; exact lg_eq.mp y), fun y => k0 (fun q => y (by rw [e]; exact lg_eq.mpr q))⟩
  · have z : ¬ uK b n lim p = 2 := fun q => z (by rw [h.2.2.1, q]; rfl)
    exact k0 (by rw [uW_n z]; exact fun q => hW q.symm)
theorem signR {c : Int32} {Q : Int32 → rI0 → rJ0 → Prop} (hc : tokOf c = 3) (h : Nck b n lim p I J) (k1 : uK b n lim p = c → Q 1 I J) (k0 : ¬ uK b n lim p = c → Q 0 I J) : wcI S d 164 [.ref 43, .int c] x I J Q := by
  refine c164_43 ⟨fun z => ?_, fun z => k0 (fun q => z (by rw [h.2.2.1, q, hc]))⟩
  have e := h.2.2.2.2.2.2 (h.2.2.1.symm.trans z)
  exact ⟨fun y => k1 (e.symm.trans y), fun y => k0 (fun q => y (e.trans q))⟩
/-- what bad() leaves -/
abbrev bdI (I : rI0) (v : Int32) : rI0 := mSet (mSet I 43 13 v) 43 14 (I 43 10)
theorem badR {v : Int32} {Q : Int32 → rI0 → rJ0 → Prop} (k : Q 0 (bdI I v) J) : wcI S d 162 [.ref 43, .int v] x I J Q := c162_43 k
theorem inR {v l h : Int32} {Q : Int32 → rI0 → rJ0 → Prop} (k1 : ¬ v < l → ¬ h < v → Q 1 I J) (k0 : v < l ∨ h < v → Q 0 I J) : wcI S d 151 [.int v, .int l, .int h] x I J Q :=
  c151 ⟨fun z => k0 (Or.inl z), fun z => ⟨fun y => k0 (Or.inr y), fun y => k1 z y⟩⟩
theorem takesR {p1 p2 : Int32} {Q : Int32 → rI0 → rJ0 → Prop} (h : Nck b n lim p I J) (k1 : ¬ uK b n lim p = 3 → Q 0 (bdI I 1) J) (k2 : uK b n lim p = 3 → (uV b n p < p1 ∨ p2 < uV b n p) → Q 0 (bdI I 2) J) (k3 : uK b n lim p = 3 → ¬ uV b n p < p1 → ¬ p2 < uV b n p → ∀ I' J', Nf5 (mSet I 43 18 (uV b n p)) J I' J' → Nck b n lim (uE b n lim p) I' J' → Q 1 I' J') : wcI S (d + 2) 166 [.ref 43, .int p1, .int p2] x I J Q := by
  refine c166_43 ⟨fun z => ?_, fun z => badR ⟨Or.inl rfl, k1 (fun q => z (by rw [h.2.2.1, q]; rfl))⟩⟩
  have z : uK b n lim p = 3 := tokOf_3.mp (h.2.2.1.symm.trans z)
  have e := h.2.2.2.2.2.1 z
  rw [e]
  refine inR (fun y1 y2 => ⟨fun q => absurd q (by decide), fun _ => nextS (h.2.1.mv h.2.1.2.2.1 (mSet_ne (by decide)) rfl rfl h.2.1.2.2.2.2.2.2) (fun I' J' o t => k3 z y1 y2 I' J' (by rw [← e]; exact o) t)⟩) (fun y => ⟨fun _ => badR ⟨Or.inl rfl, k2 z y⟩, fun q => absurd rfl q⟩)
theorem semiR {c : Int32} {Q : Int32 → rI0 → rJ0 → Prop} (hc : tokOf c = 3) (h : Nck b n lim p I J) (k1 : ¬ uK b n lim p = c → Q 0 (bdI I 1) J) (k3 : uK b n lim p = c → ∀ I' J', Nf5 I J I' J' → Nck b n lim (uE b n lim p) I' J' → Q 1 I' J') : wcI S (d + 2) 165 [.ref 43, .int c] x I J Q :=
  c165_43 (signR hc h (fun z => ⟨fun q => absurd q (by decide), fun _ => nextS h.2.1 (fun I' J' o t => k3 z I' J' o t)⟩) (fun z => ⟨fun _ => badR ⟨Or.inl rfl, k1 z⟩, fun q => absurd rfl q⟩))
end TN0
