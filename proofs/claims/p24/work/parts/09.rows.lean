/-! numbers of cells to addresses, abstract values to values, a world to the kit's cells -/
def mAd (base b : Nat) (adK : Nat → Nat) (i : Nat) : Nat := if i < 1000000 then base + i else if i = 1000000 then b else adK (i - 1000001)
theorem mAd_lt {base b : Nat} {adK : Nat → Nat} {i : Nat} (h : i < 1000000) : mAd base b adK i = base + i := if_pos h
theorem mAd_scr {base b : Nat} {adK : Nat → Nat} : mAd base b adK mScr = b := rfl
def mCv (ad : Nat → Nat) : Value → Value
  | .ref i => .ref (ad i)
  | v => v
theorem mCv_cat (ad : Nat → Nat) (v : Value) : (mCv ad v).category = v.category := by cases v <;> rfl
theorem mCv_rf (ad : Nat → Nat) (o : Option Nat) : mCv ad (mRf o) = va_rf (o.map ad) := by cases o <;> rfl
theorem mCats (ad : Nat → Nat) : ∀ (st : List Value), mCat (st.map (mCv ad)) = mCat st
  | [] => rfl
  | v :: r => by
    have := mCats ad r
    simp only [mCat, List.map_cons, List.sum_cons, mCv_cat] at this ⊢
    rw [this]
/-! locals -/
def mLv (ad : Nat → Nat) (Lo : mL) : List (Nat × Value) := (List.range Lo.length).filterMap (fun i => (Lo.getD i none).map (fun v => (i, mCv ad v)))
theorem mLv_mem {ad : Nat → Nat} {Lo : mL} {q : Nat × Value} : q ∈ mLv ad Lo ↔ ∃ v, Lo.getD q.1 none = some v ∧ q.2 = mCv ad v := by
  unfold mLv
  rw [List.mem_filterMap]
  constructor
  · rintro ⟨i, -, h⟩
    cases hv : Lo.getD i none with
    | none => rw [hv] at h; cases h
    | some v => rw [hv] at h; cases h; exact ⟨v, hv, rfl⟩
  · rintro ⟨v, h1, h2⟩
    refine ⟨q.1, List.mem_range.mpr ?_, ?_⟩
    · rcases Nat.lt_or_ge q.1 Lo.length with h | h
      · exact h
      · rw [List.getD_eq_getElem?_getD, List.getElem?_eq_none h] at h1
        cases h1
    · rw [h1, Option.map_some, ← h2]
theorem mLv_ld {ls : Array Slot} {nL : Nat} {ad : Nat → Nat} {Lo : mL} {k : Nat} {v : Value} (h : lv_has ls nL (mLv ad Lo)) (hk : Lo.getD k none = some v) : ls[k]? = some (.val (mCv ad v)) := h.2.2 (k, mCv ad v) (mLv_mem.mpr ⟨v, hk, rfl⟩)
theorem mGetD_set {Lo : mL} {i j : Nat} {x : Option Value} : (Lo.set i x).getD j none = if j = i then (if i < Lo.length then x else none) else Lo.getD j none := by
  rw [List.getD_eq_getElem?_getD, List.getD_eq_getElem?_getD, List.getElem?_set]
  by_cases h : i = j
  · subst h
    by_cases h2 : i < Lo.length <;> simp [h2]
  · rw [if_neg h, if_neg (fun q => h q.symm)]
theorem mClr_len {Lo : mL} {i : Nat} : (mClr Lo i).length = Lo.length := by
  cases i with
  | zero => rfl
  | succ i =>
    show (mClr2 (Lo.getD i none) Lo i).length = Lo.length
    unfold mClr2
    split <;> simp
theorem mClr_get {Lo : mL} {i j : Nat} {v : Value} (h : (mClr Lo i).getD j none = some v) : Lo.getD j none = some v ∧ ¬ (j + 1 = i ∧ v.category = 2) := by
  cases i with
  | zero => exact ⟨h, fun q => absurd q.1 (by omega)⟩
  | succ i =>
    have key : mClr Lo (i + 1) = Lo.set i none ∨ ((∀ u, Lo.getD i none = some u → ¬ u.category = 2) ∧ mClr Lo (i + 1) = Lo) := by
      show mClr2 (Lo.getD i none) Lo i = Lo.set i none ∨ ((∀ u, Lo.getD i none = some u → ¬ u.category = 2) ∧ mClr2 (Lo.getD i none) Lo i = Lo)
      cases hu : Lo.getD i none with
      | none => exact Or.inr ⟨fun u q => (by cases q), rfl⟩
      | some u =>
        cases u with
        | long x => exact Or.inl rfl
        | double x => exact Or.inl rfl
        | int x => exact Or.inr ⟨fun u q => (by cases q; intro z; cases z), rfl⟩
        | float x => exact Or.inr ⟨fun u q => (by cases q; intro z; cases z), rfl⟩
        | null => exact Or.inr ⟨fun u q => (by cases q; intro z; cases z), rfl⟩
        | ref x => exact Or.inr ⟨fun u q => (by cases q; intro z; cases z), rfl⟩
        | retAddr x => exact Or.inr ⟨fun u q => (by cases q; intro z; cases z), rfl⟩
    rcases key with h3 | ⟨h1, h3⟩
    · rw [h3, mGetD_set] at h
      by_cases hj : j = i
      · rw [if_pos hj] at h
        split at h <;> cases h
      · rw [if_neg hj] at h
        exact ⟨h, fun q => hj (by omega)⟩
    · rw [h3] at h
      refine ⟨h, fun q => ?_⟩
      have hj : j = i := by omega
      subst hj
      exact h1 v h q.2
theorem mLv_st1 {ls' : Array Slot} {nL : Nat} {ad : Nat → Nat} {Lo Lo' : mL} {i : Nat} {v : Value} (hs : mSt1 Lo i v = some Lo') (h : lv_has ls' nL ((i, mCv ad v) :: (mLv ad Lo).filter (fun q => !(q.1 == i) && !(q.1 + 1 == i && q.2.category == 2)))) : lv_has ls' nL (mLv ad Lo') ∧ Lo'.length = Lo.length := by
  unfold mSt1 at hs
  split at hs
  · rename_i hi
    cases hs
    refine ⟨⟨h.1, h.2.1, fun q hq => h.2.2 q ?_⟩, by rw [List.length_set, mClr_len]⟩
    obtain ⟨u, h1, h2⟩ := mLv_mem.mp hq
    rw [mGetD_set] at h1
    by_cases hj : q.1 = i
    · rw [if_pos hj, if_pos (by rw [mClr_len]; exact hi)] at h1
      cases h1
      exact List.mem_cons.mpr (Or.inl (Prod.ext hj h2))
    · rw [if_neg hj] at h1
      obtain ⟨h3, h4⟩ := mClr_get h1
      refine List.mem_cons_of_mem _ (List.mem_filter.mpr ⟨mLv_mem.mpr ⟨u, h3, h2⟩, ?_⟩)
      have e1 : (q.1 == i) = false := by simp [hj]
      have e2 : (q.1 + 1 == i && q.2.category == 2) = false := by
        rw [h2, mCv_cat]
        by_cases a : q.1 + 1 = i
        · have : ¬ u.category = 2 := fun z => h4 ⟨a, z⟩
          simp [this]
        · simp [a]
      rw [e1, e2]
      rfl
  · cases hs
theorem mLv_st2 {ls' : Array Slot} {nL : Nat} {ad : Nat → Nat} {Lo Lo' : mL} {i : Nat} {v : Value} (hs : mSt2 Lo i v = some Lo') (h : lv_has ls' nL ((i, mCv ad v) :: (mLv ad Lo).filter (fun q => !(q.1 == i) && (!(q.1 == i + 1) && !(q.1 + 1 == i && q.2.category == 2))))) : lv_has ls' nL (mLv ad Lo') ∧ Lo'.length = Lo.length := by
  unfold mSt2 at hs
  split at hs
  · rename_i hi
    cases hs
    refine ⟨⟨h.1, h.2.1, fun q hq => h.2.2 q ?_⟩, by rw [List.length_set, List.length_set, mClr_len]⟩
    obtain ⟨u, h1, h2⟩ := mLv_mem.mp hq
    rw [mGetD_set] at h1
    by_cases hj1 : q.1 = i + 1
    · rw [if_pos hj1] at h1
      split at h1 <;> cases h1
    · rw [if_neg hj1, mGetD_set] at h1
      by_cases hj : q.1 = i
      · rw [if_pos hj, if_pos (by rw [mClr_len]; omega)] at h1
        cases h1
        exact List.mem_cons.mpr (Or.inl (Prod.ext hj h2))
      · rw [if_neg hj] at h1
        obtain ⟨h3, h4⟩ := mClr_get h1
        refine List.mem_cons_of_mem _ (List.mem_filter.mpr ⟨mLv_mem.mpr ⟨u, h3, h2⟩, ?_⟩)
        have e1 : (q.1 == i) = false := by simp [hj]
        have e3 : (q.1 == i + 1) = false := by simp [hj1]
        have e2 : (q.1 + 1 == i && q.2.category == 2) = false := by
          rw [h2, mCv_cat]
          by_cases a : q.1 + 1 = i
          · have : ¬ u.category = 2 := fun z => h4 ⟨a, z⟩
            simp [this]
          · simp [a]
        rw [e1, e2, e3]
        rfl
  · cases hs
/-! a method's start -/
theorem mArg_sl (ad : Nat → Nat) : ∀ (as : List Value), (lg_sl (as.map (mCv ad))).length = (mArg as).length
  | [] => rfl
  | v :: r => by
    have ih := mArg_sl ad r
    unfold lg_sl at ih ⊢
    rw [List.map_cons, List.flatMap_cons, List.length_append, ih, mCv_cat]
    cases v <;> simp [mArg, Value.category] <;> omega
theorem mArg_at (ad : Nat → Nat) : ∀ (as : List Value) (i j : Nat) (v : Value), (mArg as).getD j none = some v → (i + j, mCv ad v) ∈ lv_args i (as.map (mCv ad))
  | [], i, j, v, h => by simp [mArg] at h
  | u :: r, i, j, v, h => by
    have ih := mArg_at ad r
    rw [List.map_cons, lv_args, mCv_cat]
    have one : ∀ (h : (some u :: mArg r).getD j none = some v), (i + j, mCv ad v) ∈ (i, mCv ad u) :: lv_args (i + 1) (r.map (mCv ad)) := by
      intro h
      cases j with
      | zero =>
        simp at h
        subst h
        exact List.mem_cons_self
      | succ j =>
        have := ih (i + 1) j v (by simpa using h)
        rw [show i + 1 + j = i + (j + 1) by omega] at this
        exact List.mem_cons_of_mem _ this
    have two : ∀ (h : (some u :: none :: mArg r).getD j none = some v), (i + j, mCv ad v) ∈ (i, mCv ad u) :: lv_args (i + 2) (r.map (mCv ad)) := by
      intro h
      cases j with
      | zero =>
        simp at h
        subst h
        exact List.mem_cons_self
      | succ j =>
        cases j with
        | zero => simp at h
        | succ j =>
          have := ih (i + 2) j v (by simpa using h)
          rw [show i + 2 + j = i + (j + 1 + 1) by omega] at this
          exact List.mem_cons_of_mem _ this
    cases u with
    | long x => exact two h
    | double x => exact two h
    | int x => exact one h
    | float x => exact one h
    | null => exact one h
    | ref x => exact one h
    | retAddr x => exact one h
theorem mIni_len {ml : Nat} {as : List Value} (h : (mArg as).length ≤ ml) : (mIni ml as).length = ml := by
  unfold mIni
  rw [List.length_append, List.length_replicate]
  omega
theorem mIni_has {ad : Nat → Nat} {ml : Nat} {as : List Value} (h : (mArg as).length ≤ ml) : lv_has ((lg_sl (as.map (mCv ad)) ++ List.replicate (ml - (lg_sl (as.map (mCv ad))).length) Slot.unset).toArray) ml (mLv ad (mIni ml as)) := by
  have hl := lv_entry (as.map (mCv ad)) (n := ml) (by rw [mArg_sl]; exact h)
  refine ⟨hl.1, hl.2.1, fun q hq => hl.2.2 q ?_⟩
  obtain ⟨v, h1, h2⟩ := mLv_mem.mp hq
  have h3 : (mArg as).getD q.1 none = some v := by
    unfold mIni at h1
    rw [List.getD_eq_getElem?_getD] at h1 ⊢
    by_cases hq : q.1 < (mArg as).length
    · rw [List.getElem?_append_left hq] at h1
      exact h1
    · rw [List.getElem?_append_right (by omega)] at h1
      by_cases hr : q.1 - (mArg as).length < ml - (mArg as).length
      · rw [List.getElem?_replicate, if_pos hr] at h1
        cases h1
      · rw [List.getElem?_replicate, if_neg hr] at h1
        cases h1
  have := mArg_at ad as 0 q.1 v h3
  rw [Nat.zero_add, ← h2] at this
  exact this
/-! the world as cells -/
def mFs (ad : Nat → Nat) (w : mW) (i ci : Nat) : List Value := (List.range (gFt.getD ci []).length).map (fun k => mCv ad (mFld w i k (gKi ci k)))
def mCell (cy : Nat → ClassId) (ad : Nat → Nat) (w : mW) (i : Nat) : va_E := match (wS w).getD i (0, 11) with
  | (0, ci) => .inr (ci, mFs ad w i ci)
  | (4, n) => .inl (cy 4, n, .inr (.inl (wJ w i)))
  | (5, n) => .inl (cy 5, n, .inr (.inr (.inr (.inr (fun k => (wR w i k).map ad)))))
  | (t, n) => .inl (cy t, n, .inl (wI w i))
def mWs (cy : Nat → ClassId) (ad : Nat → Nat) (w : mW) : va_W := (List.range (wS w).length).map (fun i => (ad i, mCell cy ad w i))
theorem mWs_len {cy : Nat → ClassId} {ad : Nat → Nat} {w : mW} : (mWs cy ad w).length = w.1.length := by simp [mWs]
theorem mWs_get {cy : Nat → ClassId} {ad : Nat → Nat} {w : mW} {i : Nat} (h : i < w.1.length) : (mWs cy ad w)[i]? = some (ad i, mCell cy ad w i) := by simp [mWs, h]
theorem mWs_of {cy : Nat → ClassId} {ad : Nat → Nat} {w : mW} {i : Nat} {q : Nat × va_E} (h : (mWs cy ad w)[i]? = some q) : i < w.1.length ∧ q = (ad i, mCell cy ad w i) := by
  have hl : i < w.1.length := by rw [← mWs_len (cy := cy) (ad := ad)]; exact (List.getElem?_eq_some_iff.mp h).1
  exact ⟨hl, Option.some.inj (h.symm.trans (mWs_get hl))⟩
theorem mSh {w : mW} {a : Nat} {q : Nat × Nat} (h : (wS w)[a]? = some q) : a < w.1.length ∧ (wS w).getD a (0, 11) = q := ⟨(List.getElem?_eq_some_iff.mp h).1, by rw [List.getD_eq_getElem?_getD, h]; rfl⟩
theorem mCell_o {cy : Nat → ClassId} {ad : Nat → Nat} {w : mW} {a ci : Nat} (h : (wS w)[a]? = some (0, ci)) : mCell cy ad w a = .inr (ci, mFs ad w a ci) := by unfold mCell; rw [(mSh h).2]; rfl
theorem mCell_1 {cy : Nat → ClassId} {ad : Nat → Nat} {w : mW} {a n : Nat} (h : (wS w)[a]? = some (1, n)) : mCell cy ad w a = .inl (cy 1, n, .inl (wI w a)) := by unfold mCell; rw [(mSh h).2]; rfl
theorem mCell_2 {cy : Nat → ClassId} {ad : Nat → Nat} {w : mW} {a n : Nat} (h : (wS w)[a]? = some (2, n)) : mCell cy ad w a = .inl (cy 2, n, .inl (wI w a)) := by unfold mCell; rw [(mSh h).2]; rfl
theorem mCell_3 {cy : Nat → ClassId} {ad : Nat → Nat} {w : mW} {a n : Nat} (h : (wS w)[a]? = some (3, n)) : mCell cy ad w a = .inl (cy 3, n, .inl (wI w a)) := by unfold mCell; rw [(mSh h).2]; rfl
theorem mCell_4 {cy : Nat → ClassId} {ad : Nat → Nat} {w : mW} {a n : Nat} (h : (wS w)[a]? = some (4, n)) : mCell cy ad w a = .inl (cy 4, n, .inr (.inl (wJ w a))) := by unfold mCell; rw [(mSh h).2]; rfl
theorem mCell_5 {cy : Nat → ClassId} {ad : Nat → Nat} {w : mW} {a n : Nat} (h : (wS w)[a]? = some (5, n)) : mCell cy ad w a = .inl (cy 5, n, .inr (.inr (.inr (.inr (fun k => (wR w a k).map ad))))) := by unfold mCell; rw [(mSh h).2]; rfl
theorem mCell_eq {cy : Nat → ClassId} {ad : Nat → Nat} {w w' : mW} {i : Nat} (h0 : (wS w').getD i (0, 11) = (wS w).getD i (0, 11)) (h1 : wI w' i = wI w i) (h2 : wJ w' i = wJ w i) (h3 : wR w' i = wR w i) : mCell cy ad w' i = mCell cy ad w i := by
  have hf : ∀ k t, mFld w' i k t = mFld w i k t := by
    intro k t
    unfold mFld
    rw [h1, h2, h3]
  have hg : ∀ ci, mFs ad w' i ci = mFs ad w i ci := by
    intro ci
    unfold mFs
    simp only [hf]
  unfold mCell
  rw [h0, h1, h2, h3]
  simp only [hg]
theorem mWs_set {cy : Nat → ClassId} {ad : Nat → Nat} {w w' : mW} {a : Nat} {e : va_E} (h0 : w'.1 = w.1) (ha : a < w.1.length) (he : mCell cy ad w' a = e) (ho : ∀ j, j ≠ a → mCell cy ad w' j = mCell cy ad w j) : (mWs cy ad w).set a (ad a, e) = mWs cy ad w' := by
  apply List.ext_getElem?
  intro j
  by_cases hl : j < w.1.length
  · rw [mWs_get (w := w') (by rw [h0]; exact hl)]
    by_cases hj : a = j
    · subst hj
      rw [List.getElem?_set_self (by rw [mWs_len]; exact hl), he]
    · rw [List.getElem?_set_ne hj, mWs_get hl, ho j (fun q => hj q.symm)]
  · rw [List.getElem?_eq_none (by rw [List.length_set, mWs_len]; omega), List.getElem?_eq_none (by rw [mWs_len, h0]; omega)]
theorem mSet_o {α : Type} {f : Nat → Nat → α} {a k j : Nat} {v : α} (h : j ≠ a) : mSet f a k v j = f j := if_neg h
theorem mSet_s {α : Type} {f : Nat → Nat → α} {a k : Nat} {v : α} : mSet f a k v a = va_up (f a) k v := if_pos rfl
theorem mUp_o {α : Type} {f : Nat → α} {k j : Nat} {v : α} (h : j ≠ k) : va_up f k v j = f j := if_neg h
theorem mUp_s {α : Type} {f : Nat → α} {k : Nat} {v : α} : va_up f k v k = v := if_pos rfl
theorem mFs_set {ad : Nat → Nat} {w w' : mW} {a ci k : Nat} {v : Value} (hk : k < (gFt.getD ci []).length) (hv : mCv ad (mFld w' a k (gKi ci k)) = v) (ho : ∀ j, j ≠ k → mFld w' a j (gKi ci j) = mFld w a j (gKi ci j)) : mFs ad w' a ci = (mFs ad w a ci).set k v := by
  apply List.ext_getElem?
  intro j
  unfold mFs
  by_cases hl : j < (gFt.getD ci []).length
  · by_cases hj : k = j
    · subst hj
      rw [List.getElem?_set_self (by simpa using hl)]
      simp only [List.getElem?_map, List.getElem?_range hl, Option.map_some, hv]
    · rw [List.getElem?_set_ne hj]
      simp only [List.getElem?_map, List.getElem?_range hl, Option.map_some, ho j (fun q => hj q.symm)]
  · rw [List.getElem?_eq_none (by simp only [List.length_map, List.length_range]; omega), List.getElem?_eq_none (by simp only [List.length_set, List.length_map, List.length_range]; omega)]
theorem mFs_get {ad : Nat → Nat} {w : mW} {a ci k : Nat} (hk : k < (gFt.getD ci []).length) : (mFs ad w a ci)[k]? = some (mCv ad (mFld w a k (gKi ci k))) := by
  unfold mFs
  simp only [List.getElem?_map, List.getElem?_range hk, Option.map_some]
theorem mWs_new {cy : Nat → ClassId} {ad : Nat → Nat} {w : mW} {q : Nat × Nat} {n : Nat} {e : va_E} (he : mCell cy ad (mNew w q n) w.1.length = e) : mWs cy ad w ++ [(ad w.1.length, e)] = mWs cy ad (mNew w q n) := by
  have h1 : wS (mNew w q n) = w.1 ++ [q] := rfl
  unfold mWs
  rw [h1, List.length_append, List.length_singleton, List.range_succ, List.map_append, List.map_singleton, he]
  refine congrArg (· ++ _) (List.map_congr_left fun i hi => ?_)
  have hi : i < w.1.length := List.mem_range.mp hi
  have hne : i ≠ w.1.length := by omega
  rw [mCell_eq (w := w) (w' := mNew w q n)]
  · rw [h1, List.getD_eq_getElem?_getD, List.getD_eq_getElem?_getD, List.getElem?_append_left hi]
  · exact mUp_o hne
  · exact mUp_o hne
  · exact mUp_o hne
theorem mNew_sh {w : mW} {q : Nat × Nat} {n : Nat} : (wS (mNew w q n))[w.1.length]? = some q := by
  show (w.1 ++ [q])[w.1.length]? = some q
  simp
theorem mD {cy : Nat → ClassId} {base b : Nat} {adK : Nat → Nat} {w : mW} (h : w.1.length ≤ 1000000) : va_D (fun q => base ≤ q) (mWs cy (mAd base b adK) w) := by
  refine ⟨fun i j x y hi hj hxy => ?_, fun k q hk => ?_⟩
  · obtain ⟨h1, rfl⟩ := mWs_of hi
    obtain ⟨h2, rfl⟩ := mWs_of hj
    dsimp only at hxy
    rw [mAd_lt (by omega), mAd_lt (by omega)] at hxy
    omega
  · obtain ⟨h1, rfl⟩ := mWs_of hk
    dsimp only
    rw [mAd_lt (by omega)]
    omega
theorem mSize {D : va_G} {cl : List vw_C} {cy : Nat → ClassId} {base b : Nat} {adK : Nat → Nat} {w : mW} {H : Heap} (h : w.1.length ≤ 1000000) (hb : base ≤ H.size) (hP : va_P D cl (mWs cy (mAd base b adK) w) H) : base + w.1.length ≤ H.size := by
  rcases Nat.eq_zero_or_pos w.1.length with h0 | h0
  · omega
  · have := (hP (w.1.length - 1) _ (mWs_get (by omega))).lt
    dsimp only at this
    rw [mAd_lt (by omega)] at this
    omega
