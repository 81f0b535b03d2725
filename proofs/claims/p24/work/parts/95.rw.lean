/-! the reference's pile and words, as lists (the last one is the head) -/
section RW0
variable {S : Nat × (Nat → Int32)} {d : Nat} {x : mX} {I : rI0} {J : rJ0} {b : Nat → Int32} {n lim p : Nat}
def arr (A : Nat → Int32) : List Int32 → Prop
  | [] => True
  | w :: l => A l.length = w ∧ arr A l
theorem arr_cg {A B : Nat → Int32} : ∀ (l : List Int32), (∀ i, i < l.length → B i = A i) → arr A l → arr B l := by
  intro l
  induction l with
  | nil => intro _ _; exact True.intro
  | cons w l ih =>
    intro h g
    exact ⟨(h l.length (Nat.lt_succ_self _)).trans g.1, ih (fun i hi => h i (Nat.lt_succ_of_lt hi)) g.2⟩
theorem arr_push {l : List Int32} {I : rI0} {a : Nat} {v : Int32} (h : arr (I a) l) : arr (mSet I a l.length v a) (v :: l) := by
  have e : mSet I a l.length v a = va_up (I a) l.length v := by
    unfold mSet va_up
    rw [if_pos rfl]
  rw [e]
  refine ⟨if_pos rfl, arr_cg l (fun i hi => if_neg (by omega)) h⟩
theorem arr_at {A : Nat → Int32} : ∀ (X : List Int32) (w : Int32) (Y : List Int32), arr A (X ++ w :: Y) → A Y.length = w := by
  intro X
  induction X with
  | nil => intro w Y h; exact h.1
  | cons v X ih => intro w Y h; exact ih w Y h.2
def bnd (w : Int32) : Nat := if w = 3 then 3 else if w = 4 then 2 else 1
def wdP (l : Nat) : List Int32 → List Int32
  | [] => []
  | w :: P => if w = 6 ∨ bnd w < l then w :: P else wdP l P
def wdC (l : Nat) : List Int32 → List Int32
  | [] => []
  | w :: P => if w = 6 ∨ bnd w < l then [] else wdC l P ++ [w]
def opn : List Int32 → Nat
  | [] => 0
  | w :: P => opn P + (if w = 3 ∨ w = 6 then 1 else 0)
theorem wd_len (l : Nat) : ∀ P, (wdC l P).length + (wdP l P).length = P.length := by
  intro P
  induction P with
  | nil => rfl
  | cons w P ih =>
    unfold wdC wdP
    split
    · exact Nat.zero_add _
    · rw [List.length_append]
      show (wdC l P).length + 1 + _ = P.length + 1
      omega
def RS (b : Nat → Int32) (n lim p o : Nat) (C P : List Int32) (I : rI0) (J : rJ0) : Prop := Nck b n lim p I J ∧ I 43 28 = nI o ∧ I 43 26 = nI C.length ∧ arr (I 48) C ∧ I 43 27 = nI P.length ∧ arr (I 49) P
/-- what reading a COND may change -/
def pFr (I : rI0) (J : rJ0) (I' : rI0) (J' : rJ0) : Prop := (∀ a, a ≠ 43 → a ≠ 48 → a ≠ 49 → I' a = I a) ∧ (∀ k, ¬ (k = 4 ∨ (9 ≤ k ∧ k ≤ 12) ∨ k = 18 ∨ (26 ≤ k ∧ k ≤ 28)) → I' 43 k = I 43 k) ∧ (∀ a, a ≠ 43 → J' a = J a) ∧ ∀ k, k ≠ 15 → J' 43 k = J 43 k
theorem pFr.rf : pFr I J I J := ⟨fun _ _ _ _ => rfl, fun _ _ => rfl, fun _ _ => rfl, fun _ _ => rfl⟩
theorem pFr.tr {I1 I2 : rI0} {J1 J2 : rJ0} (h : pFr I J I1 J1) (h2 : pFr I1 J1 I2 J2) : pFr I J I2 J2 := ⟨fun a h3 h4 h5 => (h2.1 a h3 h4 h5).trans (h.1 a h3 h4 h5), fun k hk => (h2.2.1 k hk).trans (h.2.1 k hk), fun a ha => (h2.2.2.1 a ha).trans (h.2.2.1 a ha), fun k hk => (h2.2.2.2 k hk).trans (h.2.2.2 k hk)⟩
theorem pFr.s {k : Nat} {v : Int32} (hk : k = 4 ∨ (9 ≤ k ∧ k ≤ 12) ∨ k = 18 ∨ (26 ≤ k ∧ k ≤ 28)) : pFr I J (mSet I 43 k v) J := ⟨fun a h3 h4 h5 => mSet_ne h3, fun j hj => mSet_x (by omega), fun _ _ => rfl, fun _ _ => rfl⟩
theorem pFr.t {a k : Nat} {v : Int32} (ha : a = 48 ∨ a = 49) : pFr I J (mSet I a k v) J := ⟨fun c h3 h4 h5 => mSet_ne (by omega), fun j hj => mSet_x (by omega), fun _ _ => rfl, fun _ _ => rfl⟩
theorem pFr.nx {I' : rI0} {J' : rJ0} (h : Nf5 I J I' J') : pFr I J I' J' := ⟨fun a h3 _ _ => h.1 a h3, fun k hk => h.2.1 k (by omega), h.2.2.1, h.2.2.2⟩
theorem Nck.cg {I' : rI0} (h : Nck b n lim p I J) (a : I' 44 = I 44) (e : ∀ k, k = 3 ∨ k = 4 ∨ k = 5 ∨ (9 ≤ k ∧ k ≤ 12) → I' 43 k = I 43 k) : Nck b n lim p I' J := by
  obtain ⟨h0, ⟨h1, h2, h3, h4, h5, h6, h7⟩, h8, h9, h10, h11, h12⟩ := h
  refine ⟨h0, ⟨h1, h2, h3, fun i hi => by rw [a]; exact h4 i hi, (e 3 (by omega)).trans h5, (e 5 (by omega)).trans h6, (e 4 (by omega)).trans h7⟩, (e 9 (by omega)).trans h8, (e 10 (by omega)).trans h9, fun z => ⟨(e 11 (by omega)).trans (h10 z).1, (h10 z).2⟩, fun z => (e 12 (by omega)).trans (h11 z), fun z => (e 12 (by omega)).trans (h12 z)⟩
theorem RS.nx {I' : rI0} {J' : rJ0} {p' o : Nat} {C P : List Int32} (h : RS b n lim p o C P I J) (f : Nf5 I J I' J') (t : Nck b n lim p' I' J') : RS b n lim p' o C P I' J' := ⟨t, (f.2.1 28 (by omega)).trans h.2.1, (f.2.1 26 (by omega)).trans h.2.2.1, by rw [f.1 48 (by decide)]; exact h.2.2.2.1, (f.2.1 27 (by omega)).trans h.2.2.2.2.1, by rw [f.1 49 (by decide)]; exact h.2.2.2.2.2⟩
theorem RS.w {o : Nat} {C P : List Int32} {v : Int32} (h : RS b n lim p o C P I J) : RS b n lim p o (v :: C) P (mSet (mSet I 48 C.length v) 43 26 (nI C.length + 1)) J := by
  obtain ⟨h1, h2, h3, h4, h5, h6⟩ := h
  refine ⟨h1.cg (by rw [mSet_ne (by decide), mSet_ne (by decide)]) (fun k hk => by rw [mSet_x (by omega), mSet_x (by omega)]), by rw [mSet_x (by omega), mSet_x (by omega)]; exact h2, ?_, ?_, by rw [mSet_x (by omega), mSet_x (by omega)]; exact h5, by rw [mSet_ne (by decide), mSet_ne (by decide)]; exact h6⟩
  · show nI C.length + 1 = nI (C.length + 1)
    rw [nI_succ]
  · rw [mSet_ne (by decide)]
    exact arr_push h4
/-- the pile's next -/
theorem RS.ps {o : Nat} {C P : List Int32} {v : Int32} (h : RS b n lim p o C P I J) : RS b n lim p o C (v :: P) (mSet (mSet I 49 P.length v) 43 27 (nI P.length + 1)) J := by
  obtain ⟨h1, h2, h3, h4, h5, h6⟩ := h
  refine ⟨h1.cg (by rw [mSet_ne (by decide), mSet_ne (by decide)]) (fun k hk => by rw [mSet_x (by omega), mSet_x (by omega)]), by rw [mSet_x (by omega), mSet_x (by omega)]; exact h2, by rw [mSet_x (by omega), mSet_x (by omega)]; exact h3, by rw [mSet_ne (by decide), mSet_ne (by decide)]; exact h4, ?_, ?_⟩
  · show nI P.length + 1 = nI (P.length + 1)
    rw [nI_succ]
  · rw [mSet_ne (by decide)]
    exact arr_push h6
theorem RS.pp {o : Nat} {C P : List Int32} {w : Int32} (h : RS b n lim p o C (w :: P) I J) : RS b n lim p o C P (mSet I 43 27 (nI P.length)) J := by
  obtain ⟨h1, h2, h3, h4, h5, h6⟩ := h
  exact ⟨h1.cg (mSet_ne (by decide)) (fun k hk => mSet_x (by omega)), by rw [mSet_x (by omega)]; exact h2, by rw [mSet_x (by omega)]; exact h3, by rw [mSet_ne (by decide)]; exact h4, rfl, by rw [mSet_ne (by decide)]; exact h6.2⟩
theorem writeR {o : Nat} {C P : List Int32} {v : Int32} {Q : rI0 → rJ0 → Prop} (hc : C.length < 64) (h : RS b n lim p o C P I J) (k : ∀ I', pFr I J I' J → RS b n lim p o (v :: C) P I' J → Q I' J) : wcV S d 172 [.ref 43, .int v] x I J Q := by
  have e := h.2.2.1
  refine c172_43 ⟨by rw [e]; exact nI_in hc (by omega), ?_⟩
  rw [e, nI_clamp (by omega)]
  exact k _ ((pFr.t (by omega)).tr (pFr.s (by omega))) h.w
theorem bindsR {w : Int32} {Q : Int32 → rI0 → rJ0 → Prop} (k : Q (nI (bnd w)) I J) : wcI S d 174 [.int w] x I J Q := by
  unfold bnd at k
  refine c174 ⟨fun z => ?_, fun z => ⟨fun y => ?_, fun y => ?_⟩⟩
  · rw [if_pos z] at k; exact k
  · rw [if_neg z, if_pos y] at k; exact k
  · rw [if_neg z, if_neg y] at k; exact k
theorem downR {l o : Nat} {Q : rI0 → rJ0 → Prop} (hl : l ≤ 3) : ∀ (P C : List Int32) (I : rI0), RS b n lim p o C P I J → P.length ≤ 30 → C.length + P.length < 64 → (∀ I', pFr I J I' J → RS b n lim p o (wdC l P ++ C) (wdP l P) I' J → Q I' J) → wcV S (d + 1) 173 [.ref 43, .int (nI l)] x I J Q := by
  intro P
  induction P with
  | nil =>
    intro C I h h1 h2 k
    have e := h.2.2.2.2.1
    exact c173_43 ⟨fun z => absurd z (by rw [e]; exact nI_nlt (a := 0) (b := 0) (by omega) (by omega)), fun _ => k I pFr.rf h⟩
  | cons w P ih =>
    intro C I h h1 h2 k
    have e : I 43 27 = nI (P.length + 1) := h.2.2.2.2.1
    have h1 : P.length + 1 ≤ 30 := h1
    have h2 : C.length + (P.length + 1) < 64 := h2
    have em : I 43 27 - 1 = nI P.length := by rw [e]; exact nI_pr _
    have hin : ¬ mOut (I 43 27 - 1) 30 := by rw [em]; exact nI_in (by omega) (by omega)
    have ew : I 49 ((I 43 27 - 1).toNatClampNeg) = w := by rw [em, nI_clamp (by omega)]; exact h.2.2.2.2.2.1
    have st : (w = 6 ∨ bnd w < l) → Q I J := by
      intro z
      refine k I pFr.rf ?_
      unfold wdC wdP
      rw [if_pos z, if_pos z]
      exact h
    refine c173_43 ⟨fun _ => ⟨hin, fun z => st (Or.inl (ew ▸ z)), fun z => ⟨hin, bindsR ⟨fun y => st (Or.inr ?_), fun y => ⟨hin, ?_⟩⟩⟩⟩, fun z => absurd (by rw [e]; exact nI_lt (a := 0) (by omega) (by omega)) z⟩
    · rw [ew] at y
      have b3 : bnd w ≤ 3 := by unfold bnd; split; omega; split <;> omega
      rcases Nat.lt_or_ge (bnd w) l with q | q
      · exact q
      · exact absurd y (nI_nlt q (by omega))
    · rw [ew] at z y
      rw [ew, em]
      have hz : ¬ (w = 6 ∨ bnd w < l) := by
        rintro (q | q)
        · exact z q
        · exact y (nI_lt q (by omega))
      refine writeR (by omega) h.pp (fun I1 f1 r1 => ih (w :: C) I1 r1 (by omega) (by show C.length + 1 + P.length < 64; omega) (fun I' f2 r2 => k I' ((pFr.s (by omega)).tr (f1.tr f2)) ?_))
      unfold wdC wdP
      rw [if_neg hz, if_neg hz, List.append_assoc]
      exact r2
theorem openedR {o : Nat} {C P : List Int32} {Q : Int32 → rI0 → rJ0 → Prop} (h : RS b n lim p o C P I J) (hP : P.length ≤ 30) (k : Q (nI (opn P)) I J) : ∀ (m : Nat) (X Y : List Int32), X.length = m → P = X ++ Y → wp S d 175 4 [some (.ref 43), some (.int (nI (opn Y))), some (.int (nI Y.length))] [] (wv x I J) (rI x Q) := by
  intro m
  induction m with
  | zero =>
    intro X Y hX hP2
    have : X = [] := List.eq_nil_of_length_eq_zero hX
    subst this
    have hP2 : P = Y := hP2
    subst hP2
    exact v175_43_4 ⟨fun z => absurd z (by rw [h.2.2.2.2.1]; exact nI_nlt (Nat.le_refl _) (by omega)), fun _ => k⟩
  | succ m ih =>
    intro X Y hX hP2
    rcases List.eq_nil_or_concat X with z | ⟨X', w, z⟩
    · subst z
      exact absurd hX (by simp)
    · rw [List.concat_eq_append] at z
      subst z
      rw [List.length_append] at hX
      have hX : X'.length + 1 = m + 1 := hX
      rw [List.append_assoc] at hP2
      have hP2 : P = X' ++ w :: Y := hP2
      have hl : P.length = X'.length + (Y.length + 1) := by rw [hP2, List.length_append]; rfl
      have ew : I 49 ((nI Y.length).toNatClampNeg) = w := by
        have g := h.2.2.2.2.2
        rw [hP2] at g
        rw [nI_clamp (by omega)]
        exact arr_at X' w Y g
      have go := ih X' (w :: Y) (by omega) hP2
      have hin : ¬ mOut (nI Y.length) 30 := nI_in (by omega) (by omega)
      have el : nI (w :: Y).length = nI Y.length + 1 := nI_succ _
      rw [el] at go
      refine v175_43_4 ⟨fun _ => ⟨hin, fun y => ?_, fun y => ⟨hin, fun y2 => ?_, fun y2 => ?_⟩⟩, fun z => absurd (by rw [h.2.2.2.2.1]; exact nI_lt (by omega) (by omega)) z⟩
      · rw [ew] at y
        have eo : opn (w :: Y) = opn Y + 1 := by
          show opn Y + (if w = 3 ∨ w = 6 then 1 else 0) = _
          rw [if_pos (Or.inl y)]
        rw [eo, nI_succ] at go
        exact go
      · rw [ew] at y2
        have eo : opn (w :: Y) = opn Y + 1 := by
          show opn Y + (if w = 3 ∨ w = 6 then 1 else 0) = _
          rw [if_pos (Or.inr y2)]
        rw [eo, nI_succ] at go
        exact go
      · rw [ew] at y y2
        have eo : opn (w :: Y) = opn Y := by
          show opn Y + (if w = 3 ∨ w = 6 then 1 else 0) = _
          rw [if_neg (by rintro (q | q); exact y q; exact y2 q)]
          rfl
        rw [eo] at go
        have e0 : nI (opn Y) + 0 = nI (opn Y) := nI_add _ 0
        rw [e0]
        exact go
theorem opnR {o : Nat} {C P : List Int32} {Q : Int32 → rI0 → rJ0 → Prop} (h : RS b n lim p o C P I J) (hP : P.length ≤ 30) (k : Q (nI (opn P)) I J) : wcI S d 175 [.ref 43] x I J Q := c175_43 (openedR h hP k P.length P [] rfl (List.append_nil P).symm)
theorem isOpR {o : Nat} {C P : List Int32} {Q : Int32 → rI0 → rJ0 → Prop} (h : RS b n lim p o C P I J) (hP : P.length ≤ 30) (k1 : (6 : Int32) ∈ P → Q 1 I J) (k0 : ¬ (6 : Int32) ∈ P → Q 0 I J) : ∀ (m : Nat) (X Y : List Int32), X.length = m → P = X ++ Y → ¬ (6 : Int32) ∈ Y → wp S d 176 2 [some (.ref 43), some (.int (nI Y.length))] [] (wv x I J) (rI x Q) := by
  intro m
  induction m with
  | zero =>
    intro X Y hX hP2 h6
    have : X = [] := List.eq_nil_of_length_eq_zero hX
    subst this
    have hP2 : P = Y := hP2
    subst hP2
    exact v176_43_2 ⟨fun z => absurd z (by rw [h.2.2.2.2.1]; exact nI_nlt (Nat.le_refl _) (by omega)), fun _ => k0 h6⟩
  | succ m ih =>
    intro X Y hX hP2 h6
    rcases List.eq_nil_or_concat X with z | ⟨X', w, z⟩
    · subst z
      exact absurd hX (by simp)
    · rw [List.concat_eq_append] at z
      subst z
      rw [List.length_append] at hX
      have hX : X'.length + 1 = m + 1 := hX
      rw [List.append_assoc] at hP2
      have hP2 : P = X' ++ w :: Y := hP2
      have hl : P.length = X'.length + (Y.length + 1) := by rw [hP2, List.length_append]; rfl
      have ew : I 49 ((nI Y.length).toNatClampNeg) = w := by
        have g := h.2.2.2.2.2
        rw [hP2] at g
        rw [nI_clamp (by omega)]
        exact arr_at X' w Y g
      refine v176_43_2 ⟨fun _ => ⟨nI_in (by omega) (by omega), fun y => k1 ?_, fun y => ?_⟩, fun z => absurd (by rw [h.2.2.2.2.1]; exact nI_lt (by omega) (by omega)) z⟩
      · rw [ew] at y
        rw [hP2, y]
        exact List.mem_append_right _ List.mem_cons_self
      · rw [ew] at y
        have go := ih X' (w :: Y) (by omega) hP2 (fun q => by
          rcases List.mem_cons.mp q with q | q
          · exact y q.symm
          · exact h6 q)
        have el : nI (w :: Y).length = nI Y.length + 1 := nI_succ _
        rw [el] at go
        exact go
theorem isOpenR {o : Nat} {C P : List Int32} {Q : Int32 → rI0 → rJ0 → Prop} (h : RS b n lim p o C P I J) (hP : P.length ≤ 30) (k1 : (6 : Int32) ∈ P → Q 1 I J) (k0 : ¬ (6 : Int32) ∈ P → Q 0 I J) : wcI S d 176 [.ref 43] x I J Q := c176_43 (isOpR h hP k1 k0 P.length P [] rfl (List.append_nil P).symm List.not_mem_nil)
end RW0
