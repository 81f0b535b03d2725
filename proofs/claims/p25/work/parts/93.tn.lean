section
section TN0
variable {S : Nat × (Nat → Int32)} {d : Nat} {x : mX} {I : rI0} {J : rJ0} {b : Nat → Int32} {n lim p : Nat}
theorem Nst.pos {i : Nat} (h : Nst b n lim p I) (hi : i < 940) : 0 ≤ (b i).toInt ∧ (b i).toInt ≤ 255 := by
  rw [← h.2.2.2.1 i hi]
  exact i_and (I 44 i) (m := 255) 8 (by decide)
def NxQ (b : Nat → Int32) (n lim q : Nat) (I0 : rI0) (J0 : rJ0) (I' : rI0) (J' : rJ0) : Prop := Nf5 I0 J0 I' J' ∧ I' 43 4 = nI (tkE b n lim q) ∧ I' 43 10 = nI (tkA n lim q) ∧ I' 43 9 = tokOf (tkK b n lim q) ∧ (tkK b n lim q = 2 → I' 43 11 = nI (tRn b n q - q) ∧ J' 43 15 = tPk b q (tRn b n q - q)) ∧ (tkK b n lim q = 3 → I' 43 12 = tVl b q (tRn b n q - q)) ∧ (tokOf (tkK b n lim q) = 3 → I' 43 12 = tkK b n lim q)
/-- behind the blanks, ahead of the limit or with a text that is not too long -/
theorem nx80 {q : Nat} {Q : rI0 → rJ0 → Prop} (hs : Nst b n lim q I) (hl : lim < n → q < lim) (e10 : I 43 10 = nI q) (e11 : I 43 11 = 0) (k : ∀ I' J', NxQ b n lim q I J I' J' → Q I' J') : wp S (d + 1) 161 80 [some (.ref 43), none, none, none] [] (wv x I J) (rV x Q) := by
  have hn := hs.1
  have hq := hs.2.2.1
  have e4 := hs.2.2.2.2.2.2
  by_cases z : q < n
  · have hm : q < min n lim := by omega
    have ec : chr b n q = b q := if_pos z
    have eA : tkA n lim q = q := by
      unfold tkA
      rw [if_neg (by omega)]
    have ps := hs.pos (i := q) (by omega)
    have v0 : (0 : Int32).toInt = 0 := by decide
    by_cases al : tAln (b q) = true
    · have hr : q < tRn b n q := by
        have e : tRn b n q = tRn b n (q + 1) := tGo_s z al
        have := (tRn_le (b := b) (n := n) (p := q + 1)).1
        omega
      have eE : tkE b n lim q = tRn b n q := by
        unfold tkE
        rw [if_neg (by omega), if_neg (by omega)]
      have fin : ∀ I' J', NxE b n lim q (tRn b n q) (mSet I 43 12 0) (mSet J 43 15 0) I' J' → Q I' J' := by
        intro I' J' ⟨o, a4, a10, a9, a11, a12, a15⟩
        refine k I' J' ⟨(Nf5.s (by omega)).tr (Nf5.w.tr o), by rw [a4, eE], by rw [a10, eA]; exact e10, a9, fun h2 => ?_, fun h3 => ?_, fun hk => ?_⟩
        · have l8 : tRn b n q - q ≤ 8 := by
            rcases Nat.lt_or_ge 8 (tRn b n q - q) with w | w
            · rw [tkK_run hm hr] at h2
              split at h2
              · rw [if_neg (by omega)] at h2
                exact absurd h2 (by decide)
              · split at h2 <;> exact absurd h2 (by decide)
            · exact w
          rw [Nat.min_eq_right l8] at a15
          exact ⟨a11, a15⟩
        · have l3 : tRn b n q - q ≤ 3 := by
            rcases Nat.lt_or_ge 3 (tRn b n q - q) with w | w
            · rw [tkK_run hm hr] at h3
              split at h3
              · split at h3 <;> exact absurd h3 (by decide)
              · rw [if_neg (by omega)] at h3
                exact absurd h3 (by decide)
            · exact w
          rw [Nat.min_eq_right l3] at a12
          exact a12
        · exfalso
          rw [tkK_run hm hr] at hk
          revert hk
          split
          · split <;> decide
          · split <;> decide
      have w : ∀ (l1 l2 : Int32), ((l2 = 1 ∧ tAlp (b q) = true) ∨ (l2 = 0 ∧ tAlp (b q) = false)) → wp S (d + 1) 161 181 [some (.ref 43), some (.int l1), some (.int l2), some (.int (1 : Int32))] [] (wv x (mSet I 43 12 0) (mSet J 43 15 0)) (rV x Q) := by
        intro l1 l2 h2
        refine nx181 hm hr h2 (n - q) q 1 _ _ (by omega) (Nat.le_refl _) rfl (hs.mv hq (mSet_ne (by decide)) rfl rfl e4) (by rw [Nat.sub_self]; exact e11) (by rw [Nat.sub_self]; rfl) (by rw [Nat.sub_self]; rfl) (Or.inl ⟨rfl, fun i hi => absurd hi (by omega)⟩) fin
      refine v161_43_80 (peekS hs ⟨fun y => ?_, fun _ => smallS (fun y => ⟨fun y => absurd y (by decide), fun _ => smallS (fun _ => w _ _ (Or.inl ⟨rfl, by rw [ec] at y; exact y⟩)) (fun y2 => absurd (y.symm.trans y2) (by decide))⟩) (fun y => ⟨fun _ => digitS (fun y2 => ⟨fun y => absurd y (by decide), fun _ => smallS (fun y2 => absurd (y2.symm.trans y) (by decide)) (fun _ => w _ _ (Or.inr ⟨rfl, by rw [ec] at y; exact y⟩))⟩) (fun y2 => ?_), fun y => absurd rfl y⟩)⟩)
      · rw [ec, c_lt v0] at y
        omega
      · rw [ec] at y y2
        have := tAln_x al
        rw [y, y2] at this
        cases this
    · have eR : tRn b n q = q := tGo_e (fun y => al y.2)
      have na : tAlp (b q) = false ∧ tDgt (b q) = false := by
        unfold tAln at al
        cases q1 : tAlp (b q)
        · cases q2 : tDgt (b q)
          · exact ⟨rfl, rfl⟩
          · rw [q1, q2] at al; exact absurd rfl al
        · rw [q1] at al; exact absurd rfl al
      have eE : tkE b n lim q = q + 1 := by
        unfold tkE
        rw [if_neg (by omega), if_pos eR]
      have eK : tkK b n lim q = (if b q = 59 ∨ b q = 40 ∨ b q = 41 ∨ (¬ b q < 60 ∧ ¬ 62 < b q) then b q else 0) := by
        unfold tkK
        rw [if_neg (by omega), if_pos eR]
      have nk : ∀ v : Int32, v.toInt = 2 ∨ v.toInt = 3 → ¬ tkK b n lim q = v := by
        intro v hv
        rw [eK]
        have v60 : (60 : Int32).toInt = 60 := by decide
        split
        · rename_i y
          rcases y with y | y | y | y
          · rw [y]; intro h; rw [← h] at hv; exact absurd hv (by decide)
          · rw [y]; intro h; rw [← h] at hv; exact absurd hv (by decide)
          · rw [y]; intro h; rw [← h] at hv; exact absurd hv (by decide)
          · intro h
            have := i_nlt y.1
            rw [h, v60] at this
            omega
        · intro h
          rw [← h] at hv
          exact absurd hv (by decide)
      have f1 : ∀ v : Int32, v = tokOf (tkK b n lim q) → (tokOf (tkK b n lim q) = 3 → b q = tkK b n lim q) → Q (mSet (mSet (mSet I 43 9 v) 43 12 (chr b n q)) 43 4 (I 43 4 + 1)) J := by
        intro v hv h3
        refine k _ _ ⟨(Nf5.s (by omega)).tr ((Nf5.s (by omega)).tr (Nf5.s (by omega))), ?_, ?_, hv, fun h => absurd h (nk 2 (by decide)), fun h => absurd h (nk 3 (by decide)), fun h => ?_⟩
        · show I 43 4 + 1 = _
          rw [e4, eE, nI_succ]
        · show I 43 10 = _
          rw [e10, eA]
        · show chr b n q = _
          rw [ec]
          exact h3 h
      have f : ∀ v : Int32, (v = 3 ∧ (b q = 59 ∨ b q = 40 ∨ b q = 41 ∨ (¬ b q < 60 ∧ ¬ 62 < b q))) ∨ (v = 4 ∧ ¬ (b q = 59 ∨ b q = 40 ∨ b q = 41 ∨ (¬ b q < 60 ∧ ¬ 62 < b q))) → Q (mSet (mSet (mSet I 43 9 v) 43 12 (chr b n q)) 43 4 (I 43 4 + 1)) J := by
        rintro v (⟨rfl, y⟩ | ⟨rfl, y⟩)
        · refine f1 3 ?_ (fun _ => ?_)
          · rw [eK, if_pos y, tokOf_s y]
          · rw [eK, if_pos y]
        · refine f1 4 ?_ (fun h => ?_)
          · rw [eK, if_neg y]; rfl
          · rw [eK, if_neg y] at h
            exact absurd h (by decide)
      refine v161_43_80 (peekS hs ⟨fun y => ?_, fun _ => smallS (fun y => absurd y (by rw [ec, na.1]; decide)) (fun y => ⟨fun _ => digitS (fun y => absurd y (by rw [ec, na.2]; decide)) (fun y2 => ⟨fun _ => ?_, fun y => absurd rfl y⟩), fun y => absurd rfl y⟩)⟩)
      · rw [ec, c_lt v0] at y
        omega
      · refine ⟨fun h => f 3 (Or.inl ⟨rfl, Or.inl (ec ▸ h)⟩), fun h1 => ⟨fun h => f 3 (Or.inl ⟨rfl, Or.inr (Or.inl (ec ▸ h))⟩), fun h2 => ⟨fun h => f 3 (Or.inl ⟨rfl, Or.inr (Or.inr (Or.inl (ec ▸ h)))⟩), fun h3 => ⟨fun h => f 4 (Or.inr ⟨rfl, ?_⟩), fun h4 => ⟨fun h => f 4 (Or.inr ⟨rfl, ?_⟩), fun h5 => f 3 (Or.inl ⟨rfl, Or.inr (Or.inr (Or.inr ⟨ec ▸ h4, ec ▸ h5⟩))⟩)⟩⟩⟩⟩⟩
        · rw [ec] at h h1 h2 h3
          rintro (y | y | y | y)
          · exact h1 y
          · exact h2 y
          · exact h3 y
          · exact y.1 h
        · rw [ec] at h h1 h2 h3
          rintro (y | y | y | y)
          · exact h1 y
          · exact h2 y
          · exact h3 y
          · exact y.2 h
  · have hq2 : q = n := by omega
    have hl2 : ¬ lim < n := fun y => by have := hl y; omega
    have ec : chr b n q = -1 := if_neg z
    have eK : tkK b n lim q = 1 := by
      unfold tkK
      rw [if_pos (by omega), if_neg hl2]
    have eA : tkA n lim q = q := by
      unfold tkA
      rw [if_pos (by omega)]
      omega
    have eE : tkE b n lim q = q := by
      unfold tkE
      rw [if_pos (by omega)]
    refine v161_43_80 (peekS hs ⟨fun y => k _ _ ⟨Nf5.s (by omega), ?_, ?_, ?_, fun h => ?_, fun h => ?_, fun h => ?_⟩, fun y => absurd (by rw [ec]; decide) y⟩)
    · show I 43 4 = _
      rw [e4, eE]
    · show I 43 10 = _
      rw [e10, eA]
    · rw [eK]; rfl
    · rw [eK] at h; exact absurd h (by decide)
    · rw [eK] at h; exact absurd h (by decide)
    · rw [eK] at h; exact absurd h (by decide)
theorem nx0 {Q : rI0 → rJ0 → Prop} : ∀ (m st : Nat) (I : rI0) (J : rJ0), st + m = n → Nst b n lim st I → (∀ I' J', NxQ b n lim (tSk b n st) I J I' J' → Q I' J') → wp S (d + 1) 161 0 [some (.ref 43), none, none, none] [] (wv x I J) (rV x Q) := by
  intro m
  induction m with
  | zero =>
    intro st I J hm hs k
    have e : tSk b n st = st := tGo_e (fun z => by omega)
    rw [e] at k
    have hn := hs.1
    have e4 := hs.2.2.2.2.2.2
    have e5 := hs.2.2.2.2.2.1
    have e3 := hs.2.2.2.2.1
    have hl := hs.2.1
    have ec : chr b n st = -1 := if_neg (by omega)
    have w : (lim < n → st < lim) → wp S (d + 1) 161 80 [some (.ref 43), none, none, none] [] (wv x (mSet (mSet I 43 10 (I 43 4)) 43 11 0) J) (rV x Q) := fun h => nx80 (hs.mv hs.2.2.1 (by rw [mSet_ne (by decide), mSet_ne (by decide)]) rfl rfl e4) h e4 rfl (fun I' J' h => k I' J' ⟨(Nf5.s (by omega)).tr ((Nf5.s (by omega)).tr h.1), h.2⟩)
    refine v161_43_0 (peekS hs ⟨fun y => absurd y (by rw [ec]; decide), fun _ => peekS hs ⟨fun y => absurd y (by rw [ec]; decide), fun _ => ⟨fun y => ⟨fun y2 => ?_, fun y2 => ?_⟩, fun y => w (fun h => absurd (by rw [e5, e3]; exact nI_lt h (by omega)) y)⟩⟩⟩)
    · rw [e4, e5] at y2
      have : st < lim := by
        rcases Nat.lt_or_ge st lim with q | q
        · exact q
        · exact absurd y2 (nI_nlt q (by omega))
      exact w (fun _ => this)
    · rw [e5, e3] at y
      rw [e4, e5] at y2
      have h1 : lim < n := by
        rcases Nat.lt_or_ge lim n with q | q
        · exact q
        · exact absurd y (nI_nlt q (by omega))
      have h2 : lim ≤ st := by
        rcases Nat.lt_or_ge st lim with q | q
        · exact absurd (nI_lt q (by omega)) y2
        · exact q
      have eK : tkK b n lim st = 0 := by
        unfold tkK
        rw [if_pos (by omega), if_pos h1]
      refine k _ _ ⟨(Nf5.s (by omega)).tr ((Nf5.s (by omega)).tr ((Nf5.s (by omega)).tr (Nf5.s (by omega)))), ?_, ?_, ?_, fun h => ?_, fun h => ?_, fun h => ?_⟩
      · show I 43 4 = _
        unfold tkE
        rw [e4, if_pos (by omega)]
      · show I 43 5 = _
        unfold tkA
        rw [e5, if_pos (by omega), Nat.min_eq_right (by omega)]
      · rw [eK]; rfl
      · rw [eK] at h; exact absurd h (by decide)
      · rw [eK] at h; exact absurd h (by decide)
      · rw [eK] at h; exact absurd h (by decide)
  | succ m ih =>
    intro st I J hm hs k
    have hn := hs.1
    have e4 := hs.2.2.2.2.2.2
    have e5 := hs.2.2.2.2.2.1
    have e3 := hs.2.2.2.2.1
    have hl := hs.2.1
    have ec : chr b n st = b st := if_pos (by omega)
    have tr : tBlk (b st) = true → wp S (d + 1) 161 0 [some (.ref 43), none, none, none] [] (wv x (mSet I 43 4 (I 43 4 + 1)) J) (rV x Q) := by
      intro z
      have e : tSk b n st = tSk b n (st + 1) := tGo_s (by omega) z
      rw [e] at k
      exact ih (st + 1) _ _ (by omega) (hs.mv (by omega) (mSet_ne (by decide)) rfl rfl (by show I 43 4 + 1 = _; rw [e4, nI_succ])) (fun I' J' h => k I' J' ⟨(Nf5.s (by omega)).tr h.1, h.2⟩)
    refine v161_43_0 (peekS hs ⟨fun y => tr ?_, fun z1 => peekS hs ⟨fun y => tr ?_, fun z2 => ?_⟩⟩)
    · rw [ec] at y
      unfold tBlk
      rw [y]
      rfl
    · rw [ec] at y
      unfold tBlk
      rw [y]
      rfl
    · rw [ec] at z1 z2
      have nb : ¬ tBlk (b st) = true := by
        unfold tBlk
        rw [Bool.or_eq_true, decide_eq_true_iff, decide_eq_true_iff]
        rintro (q | q)
        · exact z1 q
        · exact z2 q
      have e : tSk b n st = st := tGo_e (fun z => nb z.2)
      rw [e] at k
      have w : (lim < n → st < lim) → wp S (d + 1) 161 80 [some (.ref 43), none, none, none] [] (wv x (mSet (mSet I 43 10 (I 43 4)) 43 11 0) J) (rV x Q) := fun h => nx80 (hs.mv hs.2.2.1 (by rw [mSet_ne (by decide), mSet_ne (by decide)]) rfl rfl e4) h e4 rfl (fun I' J' h => k I' J' ⟨(Nf5.s (by omega)).tr ((Nf5.s (by omega)).tr h.1), h.2⟩)
      refine ⟨fun y => ⟨fun y2 => ?_, fun y2 => ?_⟩, fun y => w (fun h => absurd (by rw [e5, e3]; exact nI_lt h (by omega)) y)⟩
      · rw [e4, e5] at y2
        have : st < lim := by
          rcases Nat.lt_or_ge st lim with q | q
          · exact q
          · exact absurd y2 (nI_nlt q (by omega))
        exact w (fun _ => this)
      · rw [e5, e3] at y
        rw [e4, e5] at y2
        have h1 : lim < n := by
          rcases Nat.lt_or_ge lim n with q | q
          · exact q
          · exact absurd y (nI_nlt q (by omega))
        have h2 : lim ≤ st := by
          rcases Nat.lt_or_ge st lim with q | q
          · exact absurd (nI_lt q (by omega)) y2
          · exact q
        have eK : tkK b n lim st = 0 := by
          unfold tkK
          rw [if_pos (by omega), if_pos h1]
        refine k _ _ ⟨(Nf5.s (by omega)).tr ((Nf5.s (by omega)).tr ((Nf5.s (by omega)).tr (Nf5.s (by omega)))), ?_, ?_, ?_, fun h => ?_, fun h => ?_, fun h => ?_⟩
        · show I 43 4 = _
          unfold tkE
          rw [e4, if_pos (by omega)]
        · show I 43 5 = _
          unfold tkA
          rw [e5, if_pos (by omega), Nat.min_eq_right (by omega)]
        · rw [eK]; rfl
        · rw [eK] at h; exact absurd h (by decide)
        · rw [eK] at h; exact absurd h (by decide)
        · rw [eK] at h; exact absurd h (by decide)
theorem nextS {Q : rI0 → rJ0 → Prop} (h : Nst b n lim p I) (k : ∀ I' J', Nf5 I J I' J' → Nck b n lim p I' J' → Q I' J') : wcV S (d + 1) 161 [.ref 43] x I J Q := by
  show wp S (d + 1) 161 0 [some (.ref 43), none, none, none] [] (wv x I J) (rV x Q)
  have hp := h.2.2.1
  refine nx0 (n - p) p I J (by omega) h (fun I' J' g => k I' J' g.1 ⟨hp, h.mv (uE_le hp).2 (g.1.1 44 (by decide)) (g.1.2.1 3 (by omega)) (g.1.2.1 5 (by omega)) g.2.1, g.2.2.2.1, g.2.2.1, g.2.2.2.2.1, g.2.2.2.2.2.1, g.2.2.2.2.2.2⟩)
/-! the small readers -/
theorem lg_eq {a c : Int64} : lg_cmp a c = 0 ↔ a = c := by
  unfold lg_cmp
  constructor
  · intro h
    split at h
    · exact absurd h (by decide)
    · split at h
      · assumption
      · exact absurd h (by decide)
  · intro h
    subst h
    rw [if_neg (fun q => Int64.lt_irrefl q), if_pos rfl]
theorem tokOf_2 {K : Int32} : tokOf K = 1 ↔ K = 2 := by
  unfold tokOf
  constructor
  · intro h
    split at h
    · exact absurd h (by decide)
    · split at h
      · exact absurd h (by decide)
      · split at h
        · assumption
        · split at h <;> exact absurd h (by decide)
  · intro h
    subst h
    rfl
theorem tokOf_3 {K : Int32} : tokOf K = 2 ↔ K = 3 := by
  unfold tokOf
  constructor
  · intro h
    split at h
    · exact absurd h (by decide)
    · split at h
      · exact absurd h (by decide)
      · split at h
        · exact absurd h (by decide)
        · split at h
          · assumption
          · exact absurd h (by decide)
  · intro h
    subst h
    rfl
theorem tokOf_1 {K : Int32} : tokOf K = 0 ↔ K = 1 := by
  unfold tokOf
  constructor
  · intro h
    split at h
    · exact absurd h (by decide)
    · split at h
      · assumption
      · split at h
        · exact absurd h (by decide)
        · split at h <;> exact absurd h (by decide)
  · intro h
    subst h
    rfl
theorem wordR {W : Int64} {Q : Int32 → rI0 → rJ0 → Prop} (hW : ¬ W = 0) (h : Nck b n lim p I J) (k1 : uW b n lim p = W → Q 1 I J) (k0 : ¬ uW b n lim p = W → Q 0 I J) : wcI S d 163 [.ref 43, .long W] x I J Q := by
  refine c163_43 ⟨fun z => ?_, fun z => ?_⟩
  · have z : uK b n lim p = 2 := tokOf_2.mp (h.2.2.1.symm.trans z)
    have e := (h.2.2.2.2.1 z).2
    rw [← uW_2 z] at e
    exact ⟨fun y => k1 (by rw [e] at y; exact lg_eq.mp y), fun y => k0 (fun q => y (by rw [e]; exact lg_eq.mpr q))⟩
  · have z : ¬ uK b n lim p = 2 := fun q => z (by rw [h.2.2.1, q]; rfl)
    exact k0 (by rw [uW_n z]; exact fun q => hW q.symm)
theorem signR {c : Int32} {Q : Int32 → rI0 → rJ0 → Prop} (hc : tokOf c = 3) (h : Nck b n lim p I J) (k1 : uK b n lim p = c → Q 1 I J) (k0 : ¬ uK b n lim p = c → Q 0 I J) : wcI S d 164 [.ref 43, .int c] x I J Q := by
  refine c164_43 ⟨fun z => ?_, fun z => k0 (fun q => z (by rw [h.2.2.1, q, hc]))⟩
  have e := h.2.2.2.2.2.2 (h.2.2.1.symm.trans z)
  exact ⟨fun y => k1 (e.symm.trans y), fun y => k0 (fun q => y (e.trans q))⟩
/-- what bad() leaves -/
abbrev bdI (I : rI0) (v : Int32) : rI0 := mSet (mSet I 43 13 v) 43 14 (I 43 10)
theorem badR {v : Int32} {Q : Int32 → rI0 → rJ0 → Prop} (k : Q 0 (bdI I v) J) : wcI S d 162 [.ref 43, .int v] x I J Q := c162_43 k
theorem inR {v l h : Int32} {Q : Int32 → rI0 → rJ0 → Prop} (k1 : ¬ v < l → ¬ h < v → Q 1 I J) (k0 : v < l ∨ h < v → Q 0 I J) : wcI S d 151 [.int v, .int l, .int h] x I J Q :=
  c151 ⟨fun z => k0 (Or.inl z), fun z => ⟨fun y => k0 (Or.inr y), fun y => k1 z y⟩⟩
theorem takesR {p1 p2 : Int32} {Q : Int32 → rI0 → rJ0 → Prop} (h : Nck b n lim p I J) (k1 : ¬ uK b n lim p = 3 → Q 0 (bdI I 1) J) (k2 : uK b n lim p = 3 → (uV b n p < p1 ∨ p2 < uV b n p) → Q 0 (bdI I 2) J) (k3 : uK b n lim p = 3 → ¬ uV b n p < p1 → ¬ p2 < uV b n p → ∀ I' J', Nf5 (mSet I 43 18 (uV b n p)) J I' J' → Nck b n lim (uE b n lim p) I' J' → Q 1 I' J') : wcI S (d + 2) 166 [.ref 43, .int p1, .int p2] x I J Q := by
  refine c166_43 ⟨fun z => ?_, fun z => badR ⟨Or.inl rfl, k1 (fun q => z (by rw [h.2.2.1, q]; rfl))⟩⟩
  have z : uK b n lim p = 3 := tokOf_3.mp (h.2.2.1.symm.trans z)
  have e := h.2.2.2.2.2.1 z
  rw [e]
  refine inR (fun y1 y2 => ⟨fun q => absurd q (by decide), fun _ => nextS (h.2.1.mv h.2.1.2.2.1 (mSet_ne (by decide)) rfl rfl h.2.1.2.2.2.2.2.2) (fun I' J' o t => k3 z y1 y2 I' J' (by rw [← e]; exact o) t)⟩) (fun y => ⟨fun _ => badR ⟨Or.inl rfl, k2 z y⟩, fun q => absurd rfl q⟩)
theorem semiR {c : Int32} {Q : Int32 → rI0 → rJ0 → Prop} (hc : tokOf c = 3) (h : Nck b n lim p I J) (k1 : ¬ uK b n lim p = c → Q 0 (bdI I 1) J) (k3 : uK b n lim p = c → ∀ I' J', Nf5 I J I' J' → Nck b n lim (uE b n lim p) I' J' → Q 1 I' J') : wcI S (d + 2) 165 [.ref 43, .int c] x I J Q :=
  c165_43 (signR hc h (fun z => ⟨fun q => absurd q (by decide), fun _ => nextS h.2.1 (fun I' J' o t => k3 z I' J' o t)⟩) (fun z => ⟨fun _ => badR ⟨Or.inl rfl, k1 z⟩, fun q => absurd rfl q⟩))
end TN0
end
section
/-! laws: what a tree of ONES in a row, and words in the other order, are worth -/
section CD0
theorem orN {a c k : Nat} (hc : c < 2 ^ k) (h : a * 2 ^ k + c < 2 ^ 32) : nI (a * 2 ^ k) ||| nI c = nI (a * 2 ^ k + c) := by
  rw [← Int32.toBitVec_inj, Int32.toBitVec_or]
  apply BitVec.eq_of_toNat_eq
  rw [BitVec.toNat_or, pk_tn (by omega), pk_tn (by omega), pk_tn h, ← Nat.shiftLeft_eq, Nat.shiftLeft_add_eq_or_of_lt hc]
theorem orN' {a c k : Nat} (hc : c < 2 ^ k) (h : a * 2 ^ k + c < 2 ^ 32) : nI c ||| nI (a * 2 ^ k) = nI (a * 2 ^ k + c) := by rw [Int32.or_comm, orN hc h]
def pz (z j w lev sg num : Nat) : Nat := z * 524288 + (j * 262144 + w * 16384 + (lev * 4096 + sg * 1024 + num))
theorem cw_n {lev sg num : Nat} (h1 : lev ≤ 3) (h2 : sg ≤ 3) (h3 : num ≤ 1023) : ((nI lev <<< ((12 : Int32) &&& 31)) ||| (nI sg <<< ((10 : Int32) &&& 31))) ||| nI num = nI (lev * 4096 + sg * 1024 + num) := by
  rw [pk_shlN (n := lev) _ 12 (by decide) (by omega), pk_shlN (n := sg) _ 10 (by decide) (by omega), orN (by omega) (by omega), show lev * 2 ^ 12 + sg * 2 ^ 10 = (lev * 4 + sg) * 2 ^ 10 by omega, orN (by omega) (by omega)]
  try exact congrArg nI (by omega)
theorem tw_n {z j w c : Nat} (hz : z ≤ 20) (hj : j ≤ 1) (hw : w ≤ 15) (hc : c < 16384) : ((((nI j <<< ((18 : Int32) &&& 31)) ||| (nI w <<< ((14 : Int32) &&& 31))) ||| nI c) ||| (nI z <<< ((19 : Int32) &&& 31))) = nI (z * 524288 + (j * 262144 + w * 16384 + c)) := by
  rw [pk_shlN (n := j) _ 18 (by decide) (by omega), pk_shlN (n := w) _ 14 (by decide) (by omega), pk_shlN (n := z) _ 19 (by decide) (by omega), orN (by omega) (by omega), show j * 2 ^ 18 + w * 2 ^ 14 = (j * 16 + w) * 2 ^ 14 by omega, orN (by omega) (by omega), orN' (by omega) (by omega)]
  try exact congrArg nI (by omega)
theorem tw_0 {z j w : Nat} (hz : z ≤ 20) (hj : j ≤ 1) (hw : w ≤ 15) : (((nI j <<< ((18 : Int32) &&& 31)) ||| (nI w <<< ((14 : Int32) &&& 31))) ||| (nI z <<< ((19 : Int32) &&& 31))) = nI (pz z j w 0 0 0) := by
  rw [pk_shlN (n := j) _ 18 (by decide) (by omega), pk_shlN (n := w) _ 14 (by decide) (by omega), pk_shlN (n := z) _ 19 (by decide) (by omega), orN (by omega) (by omega), orN' (by omega) (by omega)]
  unfold pz
  try exact congrArg nI (by omega)
/-- a word of the reference's -/
def rWd (a lev sg num : Nat) : Nat := (if a < 6 then a * 8 else a - 5) + lev * 64 + sg * 256 + num * 1024
theorem rWd_n {s1 s2 lev sg num : Nat} (h0 : s1 ≤ 2) (h4 : s2 ≤ 7) (h1 : lev ≤ 3) (h2 : sg ≤ 3) (h3 : num ≤ 1023) : ((((nI s1 ||| (nI s2 <<< ((3 : Int32) &&& 31))) ||| (nI lev <<< ((6 : Int32) &&& 31))) ||| (nI sg <<< ((8 : Int32) &&& 31))) ||| (nI num <<< ((10 : Int32) &&& 31))) = nI (s1 + s2 * 8 + lev * 64 + sg * 256 + num * 1024) := by
  rw [pk_shlN (n := s2) _ 3 (by decide) (by omega), pk_shlN (n := lev) _ 6 (by decide) (by omega), pk_shlN (n := sg) _ 8 (by decide) (by omega), pk_shlN (n := num) _ 10 (by decide) (by omega), orN' (by omega) (by omega), orN' (by omega) (by omega), orN' (by omega) (by omega), orN' (by omega) (by omega)]
  try exact congrArg nI (by omega)
/-- truth, of the atoms': area (or 6: self, 7: held), level, sign, number -/
abbrev lV : Type := (Nat → Nat → Nat → Nat → Bool) → Bool
/-- behind the first: i to e, what was held true ahead of the last 'or', and since -/
def lL (P : Nat → Nat → Nat → lV → Prop) : Nat → Nat → Nat → lV → lV → lV → Prop
  | 0, _, _, _, _, _ => False
  | c + 1, i, e, any, all, V => (i = e ∧ V = fun at_ => any at_ || all at_) ∨ ∃ len j W, 1 ≤ len ∧ P i len j W ∧ ((j = 0 ∧ lL P c (i + len) e any (fun at_ => all at_ && W at_) V) ∨ (j = 1 ∧ lL P c (i + len) e (fun at_ => any at_ || all at_) W V))
def lJ (P : Nat → Nat → Nat → lV → Prop) (i len : Nat) (V : lV) : Prop := ∃ l1 W, 1 ≤ l1 ∧ P i l1 0 W ∧ lL P 21 (i + l1) (i + len) (fun _ => false) W V
/-- a ONE at i, of len places, joined by j, at most m deep -/
def lO (A : Nat → Int32) : Nat → Nat → Nat → Nat → lV → Prop
  | 0, _, _, _, _ => False
  | m + 1, i, len, j, V => (len = 1 ∧ ∃ a lev sg num, a < 8 ∧ lev ≤ 2 ∧ sg ≤ 2 ∧ num ≤ 999 ∧ A i = nI (pz 1 j a lev sg num) ∧ V = fun at_ => at_ a lev sg num)
    ∨ (∃ W, 2 ≤ len ∧ A i = nI (pz len j 8 0 0 0) ∧ lO A m (i + 1) (len - 1) 0 W ∧ V = fun at_ => !(W at_))
    ∨ (2 ≤ len ∧ A i = nI (pz len j 9 0 0 0) ∧ lJ (lO A m) (i + 1) (len - 1) V)
/-- the list of what is joined behind the first: join, truth, words -/
abbrev lS : Type := List (Nat × lV × List Int32)
def vF : lS → lV → lV → lV
  | [], any, all => fun at_ => any at_ || all at_
  | (j, W, _) :: l, any, all => if j = 0 then vF l any (fun at_ => all at_ && W at_) else vF l (fun at_ => any at_ || all at_) W
def oF (o : Bool) : List Int32 := if o = true then [5] else []
def aF (a : Bool) : List Int32 := if a = true then [4] else []
/-- the pile's flags and the words behind these -/
def sF : lS → Bool × Bool × List Int32 → Bool × Bool × List Int32
  | [], s => s
  | (j, _, R) :: l, s => if j = 0 then sF l (s.1, true, R ++ (aF s.2.1 ++ s.2.2)) else sF l (true, false, R ++ (oF s.1 ++ (aF s.2.1 ++ s.2.2)))
def eF (s : Bool × Bool × List Int32) : List Int32 := oF s.1 ++ (aF s.2.1 ++ s.2.2)
/-- what words are worth (the last is the list's head) -/
def rSt (dec : Int32 → Bool) (w : Int32) (st : List Bool) : List Bool := if w &&& 7 = 3 then (match st with | y :: r => (!y) :: r | [] => []) else if w &&& 7 = 4 then (match st with | y :: z :: r => (z && y) :: r | r => r) else if w &&& 7 = 5 then (match st with | y :: z :: r => (z || y) :: r | r => r) else dec w :: st
def rRv (dec : Int32 → Bool) : List Int32 → List Bool → List Bool
  | [], st => st
  | w :: l, st => rSt dec w (rRv dec l st)
theorem rRv_app {dec : Int32 → Bool} {st : List Bool} : ∀ (X Y : List Int32), rRv dec (X ++ Y) st = rRv dec X (rRv dec Y st) := by
  intro X
  induction X with
  | nil => intro Y; rfl
  | cons w l ih =>
    intro Y
    show rSt dec w (rRv dec (l ++ Y) st) = rSt dec w (rRv dec l (rRv dec Y st))
    rw [ih Y]
def rDec (dec : Int32 → Bool) (at_ : Nat → Nat → Nat → Nat → Bool) : Prop := ∀ a lev sg num, a < 8 → lev ≤ 2 → sg ≤ 2 → num ≤ 999 → dec (nI (rWd a lev sg num)) = at_ a lev sg num
def rOk (R : List Int32) (V : lV) : Prop := ∀ at_ dec, rDec dec at_ → ∀ st, rRv dec R st = V at_ :: st
theorem rOk_at {a lev sg num : Nat} (ha : a < 8) (h1 : lev ≤ 2) (h2 : sg ≤ 2) (h3 : num ≤ 999) : rOk [nI (rWd a lev sg num)] (fun at_ => at_ a lev sg num) := by
  intro at_ dec hd st
  have hb : rWd a lev sg num < 2 ^ 32 := by
    unfold rWd
    split <;> omega
  have e : nI (rWd a lev sg num) &&& 7 = nI (rWd a lev sg num % 8) := pk_andN hb 3 (by decide)
  have m : rWd a lev sg num % 8 ≤ 2 := by
    unfold rWd
    split <;> omega
  have n3 : ∀ k, 3 ≤ k → k ≤ 5 → ¬ nI (rWd a lev sg num) &&& 7 = nI k := by
    intro k h3 h5 q
    rw [e] at q
    have := congrArg Int32.toInt q
    rw [nI_toInt (by omega), nI_toInt (by omega)] at this
    omega
  show rSt dec (nI (rWd a lev sg num)) st = _
  unfold rSt
  have a3 : ¬ nI (rWd a lev sg num) &&& 7 = 3 := n3 3 (by omega) (by omega)
  have a4 : ¬ nI (rWd a lev sg num) &&& 7 = 4 := n3 4 (by omega) (by omega)
  have a5 : ¬ nI (rWd a lev sg num) &&& 7 = 5 := n3 5 (by omega) (by omega)
  rw [if_neg a3, if_neg a4, if_neg a5, hd a lev sg num ha h1 h2 h3]
theorem rOk_not {R : List Int32} {V : lV} (h : rOk R V) : rOk (3 :: R) (fun at_ => !(V at_)) := by
  intro at_ dec hd st
  show rSt dec 3 (rRv dec R st) = _
  rw [h at_ dec hd st]
  rfl
theorem r4 {dec : Int32 → Bool} {y z : Bool} {r : List Bool} : rSt dec 4 (y :: z :: r) = (z && y) :: r := rfl
theorem r5 {dec : Int32 → Bool} {y z : Bool} {r : List Bool} : rSt dec 5 (y :: z :: r) = (z || y) :: r := rfl
/-- the flags and words s stand for any and all -/
def sOk (s : Bool × Bool × List Int32) (any all : lV) : Prop := ∀ at_ dec, rDec dec at_ → ∀ st, (s.1 = false → any at_ = false) ∧ rRv dec (aF s.2.1 ++ s.2.2) st = all at_ :: (if s.1 = true then any at_ :: st else st)
theorem sOk_e {s : Bool × Bool × List Int32} {any all : lV} (h : sOk s any all) : rOk (eF s) (fun at_ => any at_ || all at_) := by
  intro at_ dec hd st
  obtain ⟨h1, h2⟩ := h at_ dec hd st
  obtain ⟨o, a, X⟩ := s
  cases o
  · show rRv dec (aF a ++ X) st = (any at_ || all at_) :: st
    rw [h2, h1 rfl]
    rfl
  · show rSt dec 5 (rRv dec (aF a ++ X) st) = _
    rw [h2]
    rfl
theorem sOk_F : ∀ (l : lS) (s : Bool × Bool × List Int32) (any all : lV), (∀ q ∈ l, rOk q.2.2 q.2.1 ∧ q.1 ≤ 1) → sOk s any all → rOk (eF (sF l s)) (vF l any all) := by
  intro l
  induction l with
  | nil => intro s any all _ h; exact sOk_e h
  | cons q l ih =>
    obtain ⟨j, W, R⟩ := q
    intro s any all hl h
    have hR := (hl (j, W, R) List.mem_cons_self).1
    have hl' : ∀ q ∈ l, rOk q.2.2 q.2.1 ∧ q.1 ≤ 1 := fun q hq => hl q (List.mem_cons_of_mem _ hq)
    obtain ⟨o, a, X⟩ := s
    by_cases z : j = 0
    · subst z
      refine ih (o, true, R ++ (aF a ++ X)) any _ hl' (fun at_ dec hd st => ?_)
      obtain ⟨h1, h2⟩ := h at_ dec hd st
      refine ⟨h1, ?_⟩
      show rSt dec 4 (rRv dec (R ++ (aF a ++ X)) st) = _
      rw [rRv_app, h2, hR at_ dec hd]
      rfl
    · have e1 : vF ((j, W, R) :: l) any all = vF l (fun at_ => any at_ || all at_) W := if_neg z
      have e2 : sF ((j, W, R) :: l) (o, a, X) = sF l (true, false, R ++ (oF o ++ (aF a ++ X))) := if_neg z
      rw [e1, e2]
      refine ih _ _ _ hl' (fun at_ dec hd st => ⟨fun q => absurd (show true = false from q) (by decide), ?_⟩)
      have h3 := sOk_e h at_ dec hd st
      show rRv dec (R ++ (oF o ++ (aF a ++ X))) st = _
      rw [rRv_app]
      have h3 : rRv dec (oF o ++ (aF a ++ X)) st = _ := h3
      rw [h3, hR at_ dec hd]
      rfl
/-- only the places of the ONE itself matter -/
theorem lL_cg {P P' : Nat → Nat → Nat → lV → Prop} : ∀ (c i e : Nat) (any all V : lV), (∀ i' len j W, i ≤ i' → i' + len ≤ e → P i' len j W → P' i' len j W) → (∀ i' len j W, P i' len j W → 1 ≤ len) → lL P c i e any all V → lL P' c i e any all V := by
  intro c
  induction c with
  | zero => intro i e any all V _ _ h; exact h
  | succ c ih =>
    intro i e any all V hP h1 h
    rcases h with h | ⟨len, j, W, hl, hp, h⟩
    · exact Or.inl h
    · have key : ∀ (c i e : Nat) (any all V : lV), lL P c i e any all V → i ≤ e := by
        intro c
        induction c with
        | zero => intro i e any all V h; exact absurd h id
        | succ c ih =>
          intro i e any all V h
          rcases h with h | ⟨len, j, W, hl, hp, h⟩
          · omega
          · rcases h with h | h
            · have := ih _ _ _ _ _ h.2; omega
            · have := ih _ _ _ _ _ h.2; omega
      rcases h with ⟨hj, h⟩ | ⟨hj, h⟩
      · exact Or.inr ⟨len, j, W, hl, hP i len j W (Nat.le_refl _) (key _ _ _ _ _ _ h) hp, Or.inl ⟨hj, ih _ _ _ _ _ (fun i' len j W a b c => hP i' len j W (by omega) b c) h1 h⟩⟩
      · exact Or.inr ⟨len, j, W, hl, hP i len j W (Nat.le_refl _) (key _ _ _ _ _ _ h) hp, Or.inr ⟨hj, ih _ _ _ _ _ (fun i' len j W a b c => hP i' len j W (by omega) b c) h1 h⟩⟩
theorem lL_le {P : Nat → Nat → Nat → lV → Prop} : ∀ (c i e : Nat) (any all V : lV), lL P c i e any all V → i ≤ e := by
  intro c
  induction c with
  | zero => intro i e any all V h; exact absurd h id
  | succ c ih =>
    intro i e any all V h
    rcases h with h | ⟨len, j, W, hl, hp, h⟩
    · omega
    · rcases h with h | h
      · have := ih _ _ _ _ _ h.2; omega
      · have := ih _ _ _ _ _ h.2; omega
theorem lO_1 {A : Nat → Int32} {m i len j : Nat} {V : lV} (h : lO A m i len j V) : 1 ≤ len := by
  cases m with
  | zero => exact absurd h id
  | succ m =>
    rcases h with h | ⟨W, h, _⟩ | ⟨h, _⟩ <;> omega
theorem lO_cg {A B : Nat → Int32} : ∀ (m i len j : Nat) (V : lV), (∀ t, i ≤ t → t < i + len → B t = A t) → lO A m i len j V → lO B m i len j V := by
  intro m
  induction m with
  | zero => intro i len j V _ h; exact h
  | succ m ih =>
    intro i len j V hB h
    have h1 := lO_1 h
    have e := hB i (Nat.le_refl _) (by omega)
    rcases h with ⟨hl, a, lev, sg, num, g1, g2, g3, g4, g5, g6⟩ | ⟨W, g1, g2, g3, g4⟩ | ⟨g1, g2, g3⟩
    · exact Or.inl ⟨hl, a, lev, sg, num, g1, g2, g3, g4, e.trans g5, g6⟩
    · exact Or.inr (Or.inl ⟨W, g1, e.trans g2, ih _ _ _ _ (fun t a b => hB t (by omega) (by omega)) g3, g4⟩)
    · refine Or.inr (Or.inr ⟨g1, e.trans g2, ?_⟩)
      obtain ⟨l1, W, k1, k2, k3⟩ := g3
      have hle := lL_le _ _ _ _ _ _ k3
      refine ⟨l1, W, k1, ih _ _ _ _ (fun t a b => hB t (by omega) (by omega)) k2, lL_cg _ _ _ _ _ _ (fun i' len' j' W' a b c => ih _ _ _ _ (fun t a' b' => hB t (by omega) (by omega)) c) (fun i' len' j' W' c => lO_1 c) k3⟩
theorem lJ_cg {A B : Nat → Int32} {m i len : Nat} {V : lV} (hB : ∀ t, i ≤ t → t < i + len → B t = A t) (h : lJ (lO A m) i len V) : lJ (lO B m) i len V := by
  obtain ⟨l1, W, k1, k2, k3⟩ := h
  have hle := lL_le _ _ _ _ _ _ k3
  exact ⟨l1, W, k1, lO_cg _ _ _ _ _ (fun t a b => hB t (by omega) (by omega)) k2, lL_cg _ _ _ _ _ _ (fun i' len' j' W' a b c => lO_cg _ _ _ _ _ (fun t a' b' => hB t (by omega) (by omega)) c) (fun i' len' j' W' c => lO_1 c) k3⟩
end CD0
section CD1
variable {b : Nat → Int32} {n lim p : Nat}
theorem tVl_b {q : Nat} : ∀ k, k ≤ 3 → (∀ i, i < k → tDgt (b (q + i)) = true) → 0 ≤ (tVl b q k).toInt ∧ (tVl b q k).toInt < 10 ^ k := by
  intro k
  induction k with
  | zero =>
    intro _ _
    show 0 ≤ (0 : Int32).toInt ∧ (0 : Int32).toInt < 1
    decide
  | succ k ih =>
    intro hk h
    have e := ih (by omega) (fun i hi => h i (by omega))
    have hd := tDgt_t.mp (h k (by omega))
    have v10 : (10 : Int32).toInt = 10 := by decide
    have p3 : (10 : Int) ^ k ≤ 100 := by
      rcases (show k = 0 ∨ k = 1 ∨ k = 2 by omega) with z | z | z <;> subst z <;> decide
    have m : (tVl b q k * 10).toInt = (tVl b q k).toInt * 10 := i_mul rfl v10 (by omega)
    have s : (tVl b q k * 10 + b (q + k)).toInt = (tVl b q k).toInt * 10 + (b (q + k)).toInt := i_add m rfl (by omega)
    have t : (tVl b q k * 10 + b (q + k) - 48).toInt = (tVl b q k).toInt * 10 + (b (q + k)).toInt - 48 := i_sub s v48 (by omega)
    show 0 ≤ (tVl b q k * 10 + b (q + k) - 48).toInt ∧ (tVl b q k * 10 + b (q + k) - 48).toInt < 10 ^ k * 10
    rw [t]
    omega
theorem uV_b (h : uK b n lim p = 3) : ∃ v, v ≤ 999 ∧ uV b n p = nI v := by
  obtain ⟨-, a1, a2, -, -, a6⟩ := uK_3 h
  have e := tVl_b (b := b) (q := tSk b n p) (uL b n p) a2 a6
  have p3 : (10 : Int) ^ (uL b n p) ≤ 1000 := by
    rcases (show uL b n p = 1 ∨ uL b n p = 2 ∨ uL b n p = 3 by omega) with z | z | z <;> rw [z] <;> decide
  exact i_nI (n := 999) e.1 (by show (tVl b (tSk b n p) (uL b n p)).toInt ≤ _; omega) (by omega)
end CD1
end
section
/-! the reference's pile and words, as lists (the last one is the head) -/
section RW0
variable {S : Nat × (Nat → Int32)} {d : Nat} {x : mX} {I : rI0} {J : rJ0} {b : Nat → Int32} {n lim p : Nat}
def arr (A : Nat → Int32) : List Int32 → Prop
  | [] => True
  | w :: l => A l.length = w ∧ arr A l
theorem arr_cg {A B : Nat → Int32} : ∀ (l : List Int32), (∀ i, i < l.length → B i = A i) → arr A l → arr B l := by
  intro l
  induction l with
  | nil => intro _ _; exact True.intro
  | cons w l ih =>
    intro h g
    exact ⟨(h l.length (Nat.lt_succ_self _)).trans g.1, ih (fun i hi => h i (Nat.lt_succ_of_lt hi)) g.2⟩
theorem arr_push {l : List Int32} {I : rI0} {a : Nat} {v : Int32} (h : arr (I a) l) : arr (mSet I a l.length v a) (v :: l) := by
  have e : mSet I a l.length v a = va_up (I a) l.length v := by
    unfold mSet va_up
    rw [if_pos rfl]
  rw [e]
  refine ⟨if_pos rfl, arr_cg l (fun i hi => if_neg (by omega)) h⟩
theorem arr_at {A : Nat → Int32} : ∀ (X : List Int32) (w : Int32) (Y : List Int32), arr A (X ++ w :: Y) → A Y.length = w := by
  intro X
  induction X with
  | nil => intro w Y h; exact h.1
  | cons v X ih => intro w Y h; exact ih w Y h.2
def bnd (w : Int32) : Nat := if w = 3 then 3 else if w = 4 then 2 else 1
def wdP (l : Nat) : List Int32 → List Int32
  | [] => []
  | w :: P => if w = 6 ∨ bnd w < l then w :: P else wdP l P
def wdC (l : Nat) : List Int32 → List Int32
  | [] => []
  | w :: P => if w = 6 ∨ bnd w < l then [] else wdC l P ++ [w]
def opn : List Int32 → Nat
  | [] => 0
  | w :: P => opn P + (if w = 3 ∨ w = 6 then 1 else 0)
theorem wd_len (l : Nat) : ∀ P, (wdC l P).length + (wdP l P).length = P.length := by
  intro P
  induction P with
  | nil => rfl
  | cons w P ih =>
    unfold wdC wdP
    split
    · exact Nat.zero_add _
    · rw [List.length_append]
      show (wdC l P).length + 1 + _ = P.length + 1
      omega
def RS (b : Nat → Int32) (n lim p o : Nat) (C P : List Int32) (I : rI0) (J : rJ0) : Prop := Nck b n lim p I J ∧ I 43 28 = nI o ∧ I 43 26 = nI C.length ∧ arr (I 48) C ∧ I 43 27 = nI P.length ∧ arr (I 49) P
/-- what reading a COND may change -/
def pFr (I : rI0) (J : rJ0) (I' : rI0) (J' : rJ0) : Prop := (∀ a, a ≠ 43 → a ≠ 48 → a ≠ 49 → I' a = I a) ∧ (∀ k, ¬ (k = 4 ∨ (9 ≤ k ∧ k ≤ 12) ∨ k = 18 ∨ (26 ≤ k ∧ k ≤ 28)) → I' 43 k = I 43 k) ∧ (∀ a, a ≠ 43 → J' a = J a) ∧ ∀ k, k ≠ 15 → J' 43 k = J 43 k
theorem pFr.rf : pFr I J I J := ⟨fun _ _ _ _ => rfl, fun _ _ => rfl, fun _ _ => rfl, fun _ _ => rfl⟩
theorem pFr.tr {I1 I2 : rI0} {J1 J2 : rJ0} (h : pFr I J I1 J1) (h2 : pFr I1 J1 I2 J2) : pFr I J I2 J2 := ⟨fun a h3 h4 h5 => (h2.1 a h3 h4 h5).trans (h.1 a h3 h4 h5), fun k hk => (h2.2.1 k hk).trans (h.2.1 k hk), fun a ha => (h2.2.2.1 a ha).trans (h.2.2.1 a ha), fun k hk => (h2.2.2.2 k hk).trans (h.2.2.2 k hk)⟩
theorem pFr.s {k : Nat} {v : Int32} (hk : k = 4 ∨ (9 ≤ k ∧ k ≤ 12) ∨ k = 18 ∨ (26 ≤ k ∧ k ≤ 28)) : pFr I J (mSet I 43 k v) J := ⟨fun a h3 h4 h5 => mSet_ne h3, fun j hj => mSet_x (by omega), fun _ _ => rfl, fun _ _ => rfl⟩
theorem pFr.t {a k : Nat} {v : Int32} (ha : a = 48 ∨ a = 49) : pFr I J (mSet I a k v) J := ⟨fun c h3 h4 h5 => mSet_ne (by omega), fun j hj => mSet_x (by omega), fun _ _ => rfl, fun _ _ => rfl⟩
theorem pFr.nx {I' : rI0} {J' : rJ0} (h : Nf5 I J I' J') : pFr I J I' J' := ⟨fun a h3 _ _ => h.1 a h3, fun k hk => h.2.1 k (by omega), h.2.2.1, h.2.2.2⟩
theorem Nck.cg {I' : rI0} (h : Nck b n lim p I J) (a : I' 44 = I 44) (e : ∀ k, k = 3 ∨ k = 4 ∨ k = 5 ∨ (9 ≤ k ∧ k ≤ 12) → I' 43 k = I 43 k) : Nck b n lim p I' J := by
  obtain ⟨h0, ⟨h1, h2, h3, h4, h5, h6, h7⟩, h8, h9, h10, h11, h12⟩ := h
  refine ⟨h0, ⟨h1, h2, h3, fun i hi => by rw [a]; exact h4 i hi, (e 3 (by omega)).trans h5, (e 5 (by omega)).trans h6, (e 4 (by omega)).trans h7⟩, (e 9 (by omega)).trans h8, (e 10 (by omega)).trans h9, fun z => ⟨(e 11 (by omega)).trans (h10 z).1, (h10 z).2⟩, fun z => (e 12 (by omega)).trans (h11 z), fun z => (e 12 (by omega)).trans (h12 z)⟩
theorem RS.nx {I' : rI0} {J' : rJ0} {p' o : Nat} {C P : List Int32} (h : RS b n lim p o C P I J) (f : Nf5 I J I' J') (t : Nck b n lim p' I' J') : RS b n lim p' o C P I' J' := ⟨t, (f.2.1 28 (by omega)).trans h.2.1, (f.2.1 26 (by omega)).trans h.2.2.1, by rw [f.1 48 (by decide)]; exact h.2.2.2.1, (f.2.1 27 (by omega)).trans h.2.2.2.2.1, by rw [f.1 49 (by decide)]; exact h.2.2.2.2.2⟩
theorem RS.w {o : Nat} {C P : List Int32} {v : Int32} (h : RS b n lim p o C P I J) : RS b n lim p o (v :: C) P (mSet (mSet I 48 C.length v) 43 26 (nI C.length + 1)) J := by
  obtain ⟨h1, h2, h3, h4, h5, h6⟩ := h
  refine ⟨h1.cg (by rw [mSet_ne (by decide), mSet_ne (by decide)]) (fun k hk => by rw [mSet_x (by omega), mSet_x (by omega)]), by rw [mSet_x (by omega), mSet_x (by omega)]; exact h2, ?_, ?_, by rw [mSet_x (by omega), mSet_x (by omega)]; exact h5, by rw [mSet_ne (by decide), mSet_ne (by decide)]; exact h6⟩
  · show nI C.length + 1 = nI (C.length + 1)
    rw [nI_succ]
  · rw [mSet_ne (by decide)]
    exact arr_push h4
/-- the pile's next -/
theorem RS.ps {o : Nat} {C P : List Int32} {v : Int32} (h : RS b n lim p o C P I J) : RS b n lim p o C (v :: P) (mSet (mSet I 49 P.length v) 43 27 (nI P.length + 1)) J := by
  obtain ⟨h1, h2, h3, h4, h5, h6⟩ := h
  refine ⟨h1.cg (by rw [mSet_ne (by decide), mSet_ne (by decide)]) (fun k hk => by rw [mSet_x (by omega), mSet_x (by omega)]), by rw [mSet_x (by omega), mSet_x (by omega)]; exact h2, by rw [mSet_x (by omega), mSet_x (by omega)]; exact h3, by rw [mSet_ne (by decide), mSet_ne (by decide)]; exact h4, ?_, ?_⟩
  · show nI P.length + 1 = nI (P.length + 1)
    rw [nI_succ]
  · rw [mSet_ne (by decide)]
    exact arr_push h6
theorem RS.pp {o : Nat} {C P : List Int32} {w : Int32} (h : RS b n lim p o C (w :: P) I J) : RS b n lim p o C P (mSet I 43 27 (nI P.length)) J := by
  obtain ⟨h1, h2, h3, h4, h5, h6⟩ := h
  exact ⟨h1.cg (mSet_ne (by decide)) (fun k hk => mSet_x (by omega)), by rw [mSet_x (by omega)]; exact h2, by rw [mSet_x (by omega)]; exact h3, by rw [mSet_ne (by decide)]; exact h4, rfl, by rw [mSet_ne (by decide)]; exact h6.2⟩
theorem writeR {o : Nat} {C P : List Int32} {v : Int32} {Q : rI0 → rJ0 → Prop} (hc : C.length < 64) (h : RS b n lim p o C P I J) (k : ∀ I', pFr I J I' J → RS b n lim p o (v :: C) P I' J → Q I' J) : wcV S d 172 [.ref 43, .int v] x I J Q := by
  have e := h.2.2.1
  refine c172_43 ⟨by rw [e]; exact nI_in hc (by omega), ?_⟩
  rw [e, nI_clamp (by omega)]
  exact k _ ((pFr.t (by omega)).tr (pFr.s (by omega))) h.w
theorem bindsR {w : Int32} {Q : Int32 → rI0 → rJ0 → Prop} (k : Q (nI (bnd w)) I J) : wcI S d 174 [.int w] x I J Q := by
  unfold bnd at k
  refine c174 ⟨fun z => ?_, fun z => ⟨fun y => ?_, fun y => ?_⟩⟩
  · rw [if_pos z] at k; exact k
  · rw [if_neg z, if_pos y] at k; exact k
  · rw [if_neg z, if_neg y] at k; exact k
theorem downR {l o : Nat} {Q : rI0 → rJ0 → Prop} (hl : l ≤ 3) : ∀ (P C : List Int32) (I : rI0), RS b n lim p o C P I J → P.length ≤ 30 → C.length + P.length < 64 → (∀ I', pFr I J I' J → RS b n lim p o (wdC l P ++ C) (wdP l P) I' J → Q I' J) → wcV S (d + 1) 173 [.ref 43, .int (nI l)] x I J Q := by
  intro P
  induction P with
  | nil =>
    intro C I h h1 h2 k
    have e := h.2.2.2.2.1
    exact c173_43 ⟨fun z => absurd z (by rw [e]; exact nI_nlt (a := 0) (b := 0) (by omega) (by omega)), fun _ => k I pFr.rf h⟩
  | cons w P ih =>
    intro C I h h1 h2 k
    have e : I 43 27 = nI (P.length + 1) := h.2.2.2.2.1
    have h1 : P.length + 1 ≤ 30 := h1
    have h2 : C.length + (P.length + 1) < 64 := h2
    have em : I 43 27 - 1 = nI P.length := by rw [e]; exact nI_pr _
    have hin : ¬ mOut (I 43 27 - 1) 30 := by rw [em]; exact nI_in (by omega) (by omega)
    have ew : I 49 ((I 43 27 - 1).toNatClampNeg) = w := by rw [em, nI_clamp (by omega)]; exact h.2.2.2.2.2.1
    have st : (w = 6 ∨ bnd w < l) → Q I J := by
      intro z
      refine k I pFr.rf ?_
      unfold wdC wdP
      rw [if_pos z, if_pos z]
      exact h
    refine c173_43 ⟨fun _ => ⟨hin, fun z => st (Or.inl (ew ▸ z)), fun z => ⟨hin, bindsR ⟨fun y => st (Or.inr ?_), fun y => ⟨hin, ?_⟩⟩⟩⟩, fun z => absurd (by rw [e]; exact nI_lt (a := 0) (by omega) (by omega)) z⟩
    · rw [ew] at y
      have b3 : bnd w ≤ 3 := by unfold bnd; split; omega; split <;> omega
      rcases Nat.lt_or_ge (bnd w) l with q | q
      · exact q
      · exact absurd y (nI_nlt q (by omega))
    · rw [ew] at z y
      rw [ew, em]
      have hz : ¬ (w = 6 ∨ bnd w < l) := by
        rintro (q | q)
        · exact z q
        · exact y (nI_lt q (by omega))
      refine writeR (by omega) h.pp (fun I1 f1 r1 => ih (w :: C) I1 r1 (by omega) (by show C.length + 1 + P.length < 64; omega) (fun I' f2 r2 => k I' ((pFr.s (by omega)).tr (f1.tr f2)) ?_))
      unfold wdC wdP
      rw [if_neg hz, if_neg hz, List.append_assoc]
      exact r2
theorem openedR {o : Nat} {C P : List Int32} {Q : Int32 → rI0 → rJ0 → Prop} (h : RS b n lim p o C P I J) (hP : P.length ≤ 30) (k : Q (nI (opn P)) I J) : ∀ (m : Nat) (X Y : List Int32), X.length = m → P = X ++ Y → wp S d 175 4 [some (.ref 43), some (.int (nI (opn Y))), some (.int (nI Y.length))] [] (wv x I J) (rI x Q) := by
  intro m
  induction m with
  | zero =>
    intro X Y hX hP2
    have : X = [] := List.eq_nil_of_length_eq_zero hX
    subst this
    have hP2 : P = Y := hP2
    subst hP2
    exact v175_43_4 ⟨fun z => absurd z (by rw [h.2.2.2.2.1]; exact nI_nlt (Nat.le_refl _) (by omega)), fun _ => k⟩
  | succ m ih =>
    intro X Y hX hP2
    rcases List.eq_nil_or_concat X with z | ⟨X', w, z⟩
    · subst z
      exact absurd hX (by simp)
    · rw [List.concat_eq_append] at z
      subst z
      rw [List.length_append] at hX
      have hX : X'.length + 1 = m + 1 := hX
      rw [List.append_assoc] at hP2
      have hP2 : P = X' ++ w :: Y := hP2
      have hl : P.length = X'.length + (Y.length + 1) := by rw [hP2, List.length_append]; rfl
      have ew : I 49 ((nI Y.length).toNatClampNeg) = w := by
        have g := h.2.2.2.2.2
        rw [hP2] at g
        rw [nI_clamp (by omega)]
        exact arr_at X' w Y g
      have go := ih X' (w :: Y) (by omega) hP2
      have hin : ¬ mOut (nI Y.length) 30 := nI_in (by omega) (by omega)
      have el : nI (w :: Y).length = nI Y.length + 1 := nI_succ _
      rw [el] at go
      refine v175_43_4 ⟨fun _ => ⟨hin, fun y => ?_, fun y => ⟨hin, fun y2 => ?_, fun y2 => ?_⟩⟩, fun z => absurd (by rw [h.2.2.2.2.1]; exact nI_lt (by omega) (by omega)) z⟩
      · rw [ew] at y
        have eo : opn (w :: Y) = opn Y + 1 := by
          show opn Y + (if w = 3 ∨ w = 6 then 1 else 0) = _
          rw [if_pos (Or.inl y)]
        rw [eo, nI_succ] at go
        exact go
      · rw [ew] at y2
        have eo : opn (w :: Y) = opn Y + 1 := by
          show opn Y + (if w = 3 ∨ w = 6 then 1 else 0) = _
          rw [if_pos (Or.inr y2)]
        rw [eo, nI_succ] at go
        exact go
      · rw [ew] at y y2
        have eo : opn (w :: Y) = opn Y := by
          show opn Y + (if w = 3 ∨ w = 6 then 1 else 0) = _
          rw [if_neg (by rintro (q | q); exact y q; exact y2 q)]
          rfl
        rw [eo] at go
        have e0 : nI (opn Y) + 0 = nI (opn Y) := nI_add _ 0
        rw [e0]
        exact go
theorem opnR {o : Nat} {C P : List Int32} {Q : Int32 → rI0 → rJ0 → Prop} (h : RS b n lim p o C P I J) (hP : P.length ≤ 30) (k : Q (nI (opn P)) I J) : wcI S d 175 [.ref 43] x I J Q := c175_43 (openedR h hP k P.length P [] rfl (List.append_nil P).symm)
theorem isOpR {o : Nat} {C P : List Int32} {Q : Int32 → rI0 → rJ0 → Prop} (h : RS b n lim p o C P I J) (hP : P.length ≤ 30) (k1 : (6 : Int32) ∈ P → Q 1 I J) (k0 : ¬ (6 : Int32) ∈ P → Q 0 I J) : ∀ (m : Nat) (X Y : List Int32), X.length = m → P = X ++ Y → ¬ (6 : Int32) ∈ Y → wp S d 176 2 [some (.ref 43), some (.int (nI Y.length))] [] (wv x I J) (rI x Q) := by
  intro m
  induction m with
  | zero =>
    intro X Y hX hP2 h6
    have : X = [] := List.eq_nil_of_length_eq_zero hX
    subst this
    have hP2 : P = Y := hP2
    subst hP2
    exact v176_43_2 ⟨fun z => absurd z (by rw [h.2.2.2.2.1]; exact nI_nlt (Nat.le_refl _) (by omega)), fun _ => k0 h6⟩
  | succ m ih =>
    intro X Y hX hP2 h6
    rcases List.eq_nil_or_concat X with z | ⟨X', w, z⟩
    · subst z
      exact absurd hX (by simp)
    · rw [List.concat_eq_append] at z
      subst z
      rw [List.length_append] at hX
      have hX : X'.length + 1 = m + 1 := hX
      rw [List.append_assoc] at hP2
      have hP2 : P = X' ++ w :: Y := hP2
      have hl : P.length = X'.length + (Y.length + 1) := by rw [hP2, List.length_append]; rfl
      have ew : I 49 ((nI Y.length).toNatClampNeg) = w := by
        have g := h.2.2.2.2.2
        rw [hP2] at g
        rw [nI_clamp (by omega)]
        exact arr_at X' w Y g
      refine v176_43_2 ⟨fun _ => ⟨nI_in (by omega) (by omega), fun y => k1 ?_, fun y => ?_⟩, fun z => absurd (by rw [h.2.2.2.2.1]; exact nI_lt (by omega) (by omega)) z⟩
      · rw [ew] at y
        rw [hP2, y]
        exact List.mem_append_right _ List.mem_cons_self
      · rw [ew] at y
        have go := ih X' (w :: Y) (by omega) hP2 (fun q => by
          rcases List.mem_cons.mp q with q | q
          · exact y q.symm
          · exact h6 q)
        have el : nI (w :: Y).length = nI Y.length + 1 := nI_succ _
        rw [el] at go
        exact go
theorem isOpenR {o : Nat} {C P : List Int32} {Q : Int32 → rI0 → rJ0 → Prop} (h : RS b n lim p o C P I J) (hP : P.length ≤ 30) (k1 : (6 : Int32) ∈ P → Q 1 I J) (k0 : ¬ (6 : Int32) ∈ P → Q 0 I J) : wcI S d 176 [.ref 43] x I J Q := c176_43 (isOpR h hP k1 k0 P.length P [] rfl (List.append_nil P).symm List.not_mem_nil)
end RW0
end
