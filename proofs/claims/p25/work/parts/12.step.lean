theorem gNest : ∀ q ∈ gCall, q.2.2.2 = 1 → q.2.2.1 < 1000 := by decide +kernel
theorem mSt1_lt {Lo L : mL} {k : Nat} {v : Value} (h : mSt1 Lo k v = some L) : k < Lo.length := by
  unfold mSt1 at h
  split at h
  · assumption
  · cases h
theorem mSt2_lt {Lo L : mL} {k : Nat} {v : Value} (h : mSt2 Lo k v = some L) : k + 1 < Lo.length := by
  unfold mSt2 at h
  split at h
  · assumption
  · cases h
/-- String.length and String.charAt of the five texts, as steps -/
def mStrOk (l : Launch) (base b : Nat) (adK : Nat → Nat) (Sx : State → Prop) : Prop :=
  (∀ {p : Program} {e : Env} {R : Room} {s : State} {m : MethodId} {args : Array Value} {below : List Frame} {meth : Method} {c : Code} {H : Heap} {locs : List Loc} {cells slots : Nat} {Q : State → Prop} {pc : Nat} {cc : ByteArray} {own : String} {ls : Array Slot} {rest : List Value} {a k : Nat}, p.tables.exec = Jvm.exec → c.code = cc → c.maxLocals = ls.size → s.vm.findClass own = some m.cls → (∀ w ∈ lwG, w.before args s = true) → Sx s → va_S (fun q => base ≤ q) s.heap H locs → base ≤ s.heap.size → Cond.methodLink own k yJ0_length_8abf5 ∈ lwG → 3 ≤ R.frames → 180 ≤ R.locals → mScr < a → a ≤ 1000005 → mCat rest ≤ 8 → cells ≤ R.cells → slots ≤ R.slots → decode cc pc = .ok (.invokevirtual k, 3) → W p l e R s m args below meth c H locs cells slots Q (F0 m (pc + 3) ls (.int (Int32.ofNat (gSb.getD (a - 1000001) []).length) :: rest)) → W p l e R s m args below meth c H locs cells slots Q (F0 m pc ls (.ref (mAd base b adK a) :: rest))) ∧
  (∀ {p : Program} {e : Env} {R : Room} {s : State} {m : MethodId} {args : Array Value} {below : List Frame} {meth : Method} {c : Code} {H : Heap} {locs : List Loc} {cells slots : Nat} {Q : State → Prop} {pc : Nat} {cc : ByteArray} {own : String} {ls : Array Slot} {rest : List Value} {a k : Nat} {j : Int32}, p.tables.exec = Jvm.exec → c.code = cc → c.maxLocals = ls.size → s.vm.findClass own = some m.cls → (∀ w ∈ lwG, w.before args s = true) → Sx s → va_S (fun q => base ≤ q) s.heap H locs → base ≤ s.heap.size → Cond.methodLink own k yJ0_charAt_5068e ∈ lwG → 6 ≤ R.frames → 360 ≤ R.locals → mScr < a → a ≤ 1000005 → ¬ mOut j (gSb.getD (a - 1000001) []).length → mCat rest ≤ 8 → cells ≤ R.cells → slots ≤ R.slots → decode cc pc = .ok (.invokevirtual k, 3) → W p l e R s m args below meth c H locs cells slots Q (F0 m (pc + 3) ls (.int ((gSb.getD (a - 1000001) []).getD j.toNatClampNeg 0) :: rest)) → W p l e R s m args below meth c H locs cells slots Q (F0 m pc ls (.int j :: .ref (mAd base b adK a) :: rest)))
/-! ONE PLAIN INSTRUCTION OF THE SMALL MACHINE IS ONE OF THE JVM -/
def mTys (cy : Nat → ClassId) : List (ClassId × FieldType) := [(cy 1, .int), (cy 2, .byte), (cy 3, .boolean), (cy 4, .long), (cy 5, .object RX2)]
/-- what the surroundings (texts, nest words) give -/
def mSxOk (base b : Nat) (adK : Nat → Nat) (Sx : State → Prop) : Prop :=
  (∀ s, Sx s → va_AO RX2 s) ∧
  (∀ s, Sx s → ∀ o x mj, mLk gCall o x = some (mj, 1) → va_Nw (.methodLinkNest (gOwn.getD o "") x (gSpY mj) "HouseClaps") s) ∧
  (∀ s, Sx s → ∀ o x v, mLk gCon o x = some (.ref v) → vk_R (gOwn.getD o "") x (gStr.getD (v - 1000001) "") (mAd base b adK v) s) ∧
  (∀ (s U : State) (H : Heap) (locs : List Loc), Sx s → va_S (fun q => base ≤ q) s.heap H locs → base ≤ s.heap.size → U.heap = H → s.WarmedH U.vm → Sx U) ∧
  (∀ (U : State) (g : JFrame) (mk : MethodId) (a : Array Value), Sx U → Sx (U.calling g mk a))
/-- a frame of method mi, d calls deep at most -/
def mFr (dC : Nat → ClassId) (dI : Nat → Nat → Nat) (cy : Nat → ClassId) (base b : Nat) (S : Nat × (Nat → Int32)) (Sx : State → Prop) (d mi : Nat) (p : Program) (R : Room) (s : State) (m : MethodId) (args : Array Value) (meth : Method) (c : Code) : Prop :=
  p.tables.exec = Jvm.exec ∧ c.code = (gMe mi).2.1 ∧ c.maxLocals = (gMe mi).2.2.1 ∧ s.vm.findClass (gOwn.getD (gO mi) "") = some m.cls ∧ (∀ w ∈ lwG, w.before args s = true) ∧ va_K (dC, dI) gCl (mTys cy) s ∧ Sx s ∧ ((gMe mi).2.2.2.2.2.2 = 2 → meth.name = "<init>") ∧ (d ≤ R.frames ∧ 60 * d ≤ R.locals) ∧ base ≤ s.heap.size ∧ (mi = 0 → va_X b S.1 S.2 s s.heap ∧ b < s.heap.size ∧ b < base)
/-- where the frame stands: world w, locals Lo -/
def mSt (dC : Nat → ClassId) (dI : Nat → Nat → Nat) (cy : Nat → ClassId) (base b : Nat) (adK : Nat → Nat) (s : State) (mi : Nat) (Lo : mL) (w : mW) (H : Heap) (locs : List Loc) (cells : Nat) (ls : Array Slot) : Prop :=
  s.heap.size + cells = base + w.1.length ∧ w.1.length ≤ 1000000 ∧ va_P (dC, dI) gCl (mWs cy (mAd base b adK) w) H ∧ va_S (fun q => base ≤ q) s.heap H locs ∧ lv_has ls (gMe mi).2.2.1 (mLv (mAd base b adK) Lo) ∧ Lo.length = (gMe mi).2.2.1
section STEP
variable {l : Launch} {dC : Nat → ClassId} {dI : Nat → Nat → Nat} {cy : Nat → ClassId} {base b : Nat} {adK : Nat → Nat} {S : Nat × (Nat → Int32)} {Sx : State → Prop}
variable {p : Program} {e : Env} {R : Room} {s : State} {m : MethodId} {args : Array Value} {below : List Frame} {meth : Method} {c : Code} {H : Heap} {locs : List Loc} {cells slots : Nat} {Q : State → Prop} {d mi pc : Nat} {Lo Lo1 : mL} {ls : Array Slot} {st st1' : List Value} {w w1 : mW}
theorem mW_sz {g : JFrame} (k : H.size ≤ s.heap.size + cells → W p l e R s m args below meth c H locs cells slots Q g) : W p l e R s m args below meth c H locs cells slots Q g := by
  intro T hT X
  refine k ?_ T hT X
  have h := X.same.2.2.1
  rw [← hT]
  exact h
theorem mGood (F : mFr dC dI cy base b S Sx d mi p R s m args meth c) {w : Cond} (h : w ∈ lwG) : w.before args s = true := F.2.2.2.2.1 w h
theorem mSpec {o x mj nn : Nat} (hg : mLk gCall o x = some (mj, nn)) (hmj : 1000 ≤ mj) : Cond.methodLink (gOwn.getD o "") x (gSpY mj) ∈ lwG := by
  rcases (gC_ok hg).1 with ⟨-, h1⟩ | ⟨hn1, -⟩
  · exact h1
  · exfalso
    subst hn1
    have := gNest _ (mLk_mem hg) rfl
    dsimp only at this
    omega
theorem mK_cy (hK : va_K (dC, dI) gCl (mTys cy) s) {t : Nat} {cA : ClassId} {ty : FieldType} (ht : (mTys cy)[t]? = some (cy (t + 1), ty)) {tys : List (ClassId × FieldType)} (h : va_K (dC, dI) gCl (tys ++ [(cA, ty)]) s) : cA = cy (t + 1) := by
  have h1 := (hK.2 t _ ht).2
  have h2 := (h.2 tys.length (cA, ty) (by simp)).2
  unfold va_RA at h1 h2
  cases ty with
  | object C =>
    obtain ⟨_, _, _, _, _, a⟩ := h1
    obtain ⟨_, _, _, _, _, a2⟩ := h2
    exact Option.some.inj (a2.symm.trans a)
  | _ => exact Option.some.inj (h2.symm.trans h1)
/-- a new cell's address -/
theorem mPin {D : va_G} {cl : List vw_C} {q : Nat} {en : va_E} {H1 : Heap} (hl : w.1.length < 1000000) (hP : va_P D cl (mWs cy (mAd base b adK) w ++ [(q, en)]) H1) (hD : va_D (fun q => base ≤ q) (mWs cy (mAd base b adK) w ++ [(q, en)])) (hz : H1.size ≤ base + w.1.length + 1) : q = mAd base b adK w.1.length := by
  have hlen : (mWs cy (mAd base b adK) w).length = w.1.length := mWs_len
  have hq : (mWs cy (mAd base b adK) w ++ [(q, en)])[w.1.length]? = some (q, en) := by
    rw [List.getElem?_append_right (by rw [hlen]; exact Nat.le_refl _), hlen, Nat.sub_self]
    rfl
  have h1 := (hP _ _ hq).lt
  have h2 := hD.2 _ _ hq
  dsimp only at h1 h2
  rw [mAd_lt hl]
  rcases Nat.lt_or_ge q (base + w.1.length) with hlt | hge
  · exfalso
    have hi : q - base < w.1.length := by omega
    have hg : (mWs cy (mAd base b adK) w ++ [(q, en)])[q - base]? = some (mAd base b adK (q - base), mCell cy (mAd base b adK) w (q - base)) := by
      rw [List.getElem?_append_left (by rw [hlen]; exact hi), mWs_get hi]
    have := hD.1 _ _ _ _ hg hq (by dsimp only; rw [mAd_lt (by omega)]; omega)
    omega
  · omega

set_option maxHeartbeats 4000000 in
set_option maxRecDepth 100000 in
theorem mStep (hSx : mSxOk base b adK Sx) (hstr : mStrOk l base b adK Sx) {i : Instr} (hdg : decode (gMe mi).2.1 pc = .ok (i, mLen i)) (F : mFr dC dI cy base b S Sx d mi p R s m args meth c) (X : mSt dC dI cy base b adK s mi Lo w H locs cells ls) (h : st1 S d mi i Lo st w = some (Lo1, st1', w1)) (hc : cells + w1.1.length ≤ R.cells + w.1.length) (hz : slots + wZ w1 ≤ R.slots + wZ w)
    (kk : ∀ (H1 : Heap) (locs1 : List Loc) (ls1 : Array Slot) (cells1 slots1 : Nat), cells1 + w.1.length = cells + w1.1.length → slots1 + wZ w = slots + wZ w1 → mSt dC dI cy base b adK s mi Lo1 w1 H1 locs1 cells1 ls1 → W p l e R s m args below meth c H1 locs1 cells1 slots1 Q (F0 m (pc + mLen i) ls1 (st1'.map (mCv (mAd base b adK))))) :
    W p l e R s m args below meth c H locs cells slots Q (F0 m pc ls (st.map (mCv (mAd base b adK)))) := by
  obtain ⟨hx, hb, hml, hown, hts, hK, hS0, hin, ⟨hfr, hlo⟩, hbs, hscr⟩ := id F
  obtain ⟨hE, hN, hP, hS, hl, hLo⟩ := id X
  have hD := mD (cy := cy) (base := base) (b := b) (adK := adK) hN
  have hA : ∀ q : Nat, s.heap.size ≤ q → (fun q => base ≤ q) q := fun q h => Nat.le_trans hbs h
  cases i

  case iconst n =>
    cases h
    exact lv_iconst hx hb hdg rfl (kk H locs ls cells slots rfl rfl X)
  case bipush n =>
    cases h
    exact lv_bipush hx hb hdg rfl (kk H locs ls cells slots rfl rfl X)
  case sipush n =>
    cases h
    exact lv_sipush hx hb hdg rfl (kk H locs ls cells slots rfl rfl X)
  case lconst n =>
    cases h
    exact lv_lconst hx hb hdg rfl (kk H locs ls cells slots rfl rfl X)
  case iload k =>
    obtain ⟨x, hv, hq⟩ := mLdI_inv h
    cases hq
    exact lv_iload hx hb hdg (mLv_ld hl hv) (kk H locs ls cells slots rfl rfl X)
  case iload_n k =>
    obtain ⟨x, hv, hq⟩ := mLdI_inv h
    cases hq
    exact lv_iload_n hx hb hdg rfl (mLv_ld hl hv) (kk H locs ls cells slots rfl rfl X)
  case lload k =>
    obtain ⟨x, hv, hq⟩ := mLdL_inv h
    cases hq
    exact lv_lload hx hb hdg (mLv_ld hl hv) (kk H locs ls cells slots rfl rfl X)
  case lload_n k =>
    obtain ⟨x, hv, hq⟩ := mLdL_inv h
    cases hq
    exact lv_lload_n hx hb hdg rfl (mLv_ld hl hv) (kk H locs ls cells slots rfl rfl X)
  case aload k =>
    obtain ⟨x, hv, hq⟩ := mLdA_inv h
    cases hq
    exact lv_aload hx hb hdg (mLv_ld hl hv) (kk H locs ls cells slots rfl rfl X)
  case aload_n k =>
    obtain ⟨x, hv, hq⟩ := mLdA_inv h
    cases hq
    exact lv_aload_n hx hb hdg rfl (mLv_ld hl hv) (kk H locs ls cells slots rfl rfl X)
  case istore k =>
    obtain ⟨x, r, L, rfl, hL, hq⟩ := mStI_inv h
    cases hq
    refine lv_istore hx hb hdg hl (by rw [← hLo]; exact mSt1_lt hL) rfl (fun ls1 h1 => ?_)
    obtain ⟨h2, h3⟩ := mLv_st1 hL h1
    exact kk H locs ls1 cells slots rfl rfl ⟨hE, hN, hP, hS, h2, h3.trans hLo⟩
  case istore_n k =>
    obtain ⟨x, r, L, rfl, hL, hq⟩ := mStI_inv h
    cases hq
    refine lv_istore_n hx hb hdg rfl hl (by rw [← hLo]; exact mSt1_lt hL) rfl (fun ls1 h1 => ?_)
    obtain ⟨h2, h3⟩ := mLv_st1 hL h1
    exact kk H locs ls1 cells slots rfl rfl ⟨hE, hN, hP, hS, h2, h3.trans hLo⟩
  case lstore k =>
    obtain ⟨x, r, L, rfl, hL, hq⟩ := mStL_inv h
    cases hq
    refine lv_lstore hx hb hdg hl (by rw [← hLo]; exact mSt2_lt hL) rfl (fun ls1 h1 => ?_)
    obtain ⟨h2, h3⟩ := mLv_st2 hL h1
    exact kk H locs ls1 cells slots rfl rfl ⟨hE, hN, hP, hS, h2, h3.trans hLo⟩
  case lstore_n k =>
    obtain ⟨x, r, L, rfl, hL, hq⟩ := mStL_inv h
    cases hq
    refine lv_lstore_n hx hb hdg rfl hl (by rw [← hLo]; exact mSt2_lt hL) rfl (fun ls1 h1 => ?_)
    obtain ⟨h2, h3⟩ := mLv_st2 hL h1
    exact kk H locs ls1 cells slots rfl rfl ⟨hE, hN, hP, hS, h2, h3.trans hLo⟩
  case astore k =>
    obtain ⟨x, r, L, rfl, hL, hq⟩ := mStA_inv h
    cases hq
    refine lv_astore hx hb hdg hl (by rw [← hLo]; exact mSt1_lt hL) rfl (fun ls1 h1 => ?_)
    obtain ⟨h2, h3⟩ := mLv_st1 hL h1
    exact kk H locs ls1 cells slots rfl rfl ⟨hE, hN, hP, hS, h2, h3.trans hLo⟩
  case astore_n k =>
    obtain ⟨x, r, L, rfl, hL, hq⟩ := mStA_inv h
    cases hq
    refine lv_astore_n hx hb hdg rfl hl (by rw [← hLo]; exact mSt1_lt hL) rfl (fun ls1 h1 => ?_)
    obtain ⟨h2, h3⟩ := mLv_st1 hL h1
    exact kk H locs ls1 cells slots rfl rfl ⟨hE, hN, hP, hS, h2, h3.trans hLo⟩
  case iinc k n =>
    obtain ⟨x, L, hv, hL, hq⟩ := mInc_inv h
    cases hq
    obtain ⟨z, hz1⟩ := List.getElem?_of_mem (mLv_mem (ad := mAd base b adK).mpr ⟨_, hv, rfl⟩ : (k, mCv (mAd base b adK) (.int x)) ∈ mLv (mAd base b adK) Lo)
    refine lv_iinc hx hb hdg hl hz1 rfl (by rw [← hLo]; exact mSt1_lt hL) rfl (fun ls1 h1 => ?_)
    obtain ⟨h2, h3⟩ := mLv_st1 hL h1
    exact kk H locs ls1 cells slots rfl rfl ⟨hE, hN, hP, hS, h2, h3.trans hLo⟩
  case iadd =>
    rcases mDef_inv (i := .iadd) h with ⟨x, y, r, v, rfl, hv, hq⟩ | ⟨x, y, r, v, rfl, hv, hq⟩ | ⟨x, y, r, v, rfl, hv, hq⟩
    · have hv : some (x + y) = some v := hv
      cases hv
      cases hq
      exact lv_iadd hx hb hdg (kk H locs ls cells slots rfl rfl X)
    · have hv : (none : Option Int64) = some v := hv
      cases hv
    · have hv : (none : Option Int64) = some v := hv
      cases hv
  case isub =>
    rcases mDef_inv (i := .isub) h with ⟨x, y, r, v, rfl, hv, hq⟩ | ⟨x, y, r, v, rfl, hv, hq⟩ | ⟨x, y, r, v, rfl, hv, hq⟩
    · have hv : some (x - y) = some v := hv
      cases hv
      cases hq
      exact lv_isub hx hb hdg (kk H locs ls cells slots rfl rfl X)
    · have hv : (none : Option Int64) = some v := hv
      cases hv
    · have hv : (none : Option Int64) = some v := hv
      cases hv
  case imul =>
    rcases mDef_inv (i := .imul) h with ⟨x, y, r, v, rfl, hv, hq⟩ | ⟨x, y, r, v, rfl, hv, hq⟩ | ⟨x, y, r, v, rfl, hv, hq⟩
    · have hv : some (x * y) = some v := hv
      cases hv
      cases hq
      exact lv_imul hx hb hdg (kk H locs ls cells slots rfl rfl X)
    · have hv : (none : Option Int64) = some v := hv
      cases hv
    · have hv : (none : Option Int64) = some v := hv
      cases hv
  case iand =>
    rcases mDef_inv (i := .iand) h with ⟨x, y, r, v, rfl, hv, hq⟩ | ⟨x, y, r, v, rfl, hv, hq⟩ | ⟨x, y, r, v, rfl, hv, hq⟩
    · have hv : some (x &&& y) = some v := hv
      cases hv
      cases hq
      exact lv_iand hx hb hdg (kk H locs ls cells slots rfl rfl X)
    · have hv : (none : Option Int64) = some v := hv
      cases hv
    · have hv : (none : Option Int64) = some v := hv
      cases hv
  case ior =>
    rcases mDef_inv (i := .ior) h with ⟨x, y, r, v, rfl, hv, hq⟩ | ⟨x, y, r, v, rfl, hv, hq⟩ | ⟨x, y, r, v, rfl, hv, hq⟩
    · have hv : some (x ||| y) = some v := hv
      cases hv
      cases hq
      exact lv_ior hx hb hdg (kk H locs ls cells slots rfl rfl X)
    · have hv : (none : Option Int64) = some v := hv
      cases hv
    · have hv : (none : Option Int64) = some v := hv
      cases hv
  case ixor =>
    rcases mDef_inv (i := .ixor) h with ⟨x, y, r, v, rfl, hv, hq⟩ | ⟨x, y, r, v, rfl, hv, hq⟩ | ⟨x, y, r, v, rfl, hv, hq⟩
    · have hv : some (x ^^^ y) = some v := hv
      cases hv
      cases hq
      exact lv_ixor hx hb hdg (kk H locs ls cells slots rfl rfl X)
    · have hv : (none : Option Int64) = some v := hv
      cases hv
    · have hv : (none : Option Int64) = some v := hv
      cases hv
  case ishl =>
    rcases mDef_inv (i := .ishl) h with ⟨x, y, r, v, rfl, hv, hq⟩ | ⟨x, y, r, v, rfl, hv, hq⟩ | ⟨x, y, r, v, rfl, hv, hq⟩
    · have hv : some (x <<< (y &&& 31)) = some v := hv
      cases hv
      cases hq
      exact lv_ishl hx hb hdg (kk H locs ls cells slots rfl rfl X)
    · have hv : (none : Option Int64) = some v := hv
      cases hv
    · have hv : (none : Option Int64) = some v := hv
      cases hv
  case ishr =>
    rcases mDef_inv (i := .ishr) h with ⟨x, y, r, v, rfl, hv, hq⟩ | ⟨x, y, r, v, rfl, hv, hq⟩ | ⟨x, y, r, v, rfl, hv, hq⟩
    · have hv : some (x >>> (y &&& 31)) = some v := hv
      cases hv
      cases hq
      exact lv_ishr hx hb hdg (kk H locs ls cells slots rfl rfl X)
    · have hv : (none : Option Int64) = some v := hv
      cases hv
    · have hv : (none : Option Int64) = some v := hv
      cases hv
  case iushr =>
    rcases mDef_inv (i := .iushr) h with ⟨x, y, r, v, rfl, hv, hq⟩ | ⟨x, y, r, v, rfl, hv, hq⟩ | ⟨x, y, r, v, rfl, hv, hq⟩
    · have hv : some ((x.toUInt32 >>> (y.toUInt32 &&& Int32.toUInt32 31)).toInt32) = some v := hv
      cases hv
      cases hq
      exact lv_iushr hx hb hdg rfl (kk H locs ls cells slots rfl rfl X)
    · have hv : (none : Option Int64) = some v := hv
      cases hv
    · have hv : (none : Option Int64) = some v := hv
      cases hv
  case idiv =>
    rcases mDef_inv (i := .idiv) h with ⟨x, y, r, v, rfl, hv, hq⟩ | ⟨x, y, r, v, rfl, hv, hq⟩ | ⟨x, y, r, v, rfl, hv, hq⟩
    · have hv : (if y = 0 then none else some (x / y)) = some v := hv
      split at hv
      · cases hv
      · rename_i hy
        cases hv
        cases hq
        exact lv_idiv hx hb hdg hy (kk H locs ls cells slots rfl rfl X)
    · have hv : (none : Option Int64) = some v := hv
      cases hv
    · have hv : (none : Option Int64) = some v := hv
      cases hv
  case irem =>
    rcases mDef_inv (i := .irem) h with ⟨x, y, r, v, rfl, hv, hq⟩ | ⟨x, y, r, v, rfl, hv, hq⟩ | ⟨x, y, r, v, rfl, hv, hq⟩
    · have hv : (if y = 0 then none else some (x - x / y * y)) = some v := hv
      split at hv
      · cases hv
      · rename_i hy
        cases hv
        cases hq
        exact lv_irem hx hb hdg hy (kk H locs ls cells slots rfl rfl X)
    · have hv : (none : Option Int64) = some v := hv
      cases hv
    · have hv : (none : Option Int64) = some v := hv
      cases hv
  case ladd =>
    rcases mDef_inv (i := .ladd) h with ⟨x, y, r, v, rfl, hv, hq⟩ | ⟨x, y, r, v, rfl, hv, hq⟩ | ⟨x, y, r, v, rfl, hv, hq⟩
    · have hv : (none : Option Int32) = some v := hv
      cases hv
    · have hv : some (x + y) = some v := hv
      cases hv
      cases hq
      exact lv_ladd hx hb hdg (kk H locs ls cells slots rfl rfl X)
    · have hv : (none : Option Int64) = some v := hv
      cases hv
  case lsub =>
    rcases mDef_inv (i := .lsub) h with ⟨x, y, r, v, rfl, hv, hq⟩ | ⟨x, y, r, v, rfl, hv, hq⟩ | ⟨x, y, r, v, rfl, hv, hq⟩
    · have hv : (none : Option Int32) = some v := hv
      cases hv
    · have hv : some (x - y) = some v := hv
      cases hv
      cases hq
      exact lv_lsub hx hb hdg (kk H locs ls cells slots rfl rfl X)
    · have hv : (none : Option Int64) = some v := hv
      cases hv
  case lmul =>
    rcases mDef_inv (i := .lmul) h with ⟨x, y, r, v, rfl, hv, hq⟩ | ⟨x, y, r, v, rfl, hv, hq⟩ | ⟨x, y, r, v, rfl, hv, hq⟩
    · have hv : (none : Option Int32) = some v := hv
      cases hv
    · have hv : some (x * y) = some v := hv
      cases hv
      cases hq
      exact lv_lmul hx hb hdg (kk H locs ls cells slots rfl rfl X)
    · have hv : (none : Option Int64) = some v := hv
      cases hv
  case land =>
    rcases mDef_inv (i := .land) h with ⟨x, y, r, v, rfl, hv, hq⟩ | ⟨x, y, r, v, rfl, hv, hq⟩ | ⟨x, y, r, v, rfl, hv, hq⟩
    · have hv : (none : Option Int32) = some v := hv
      cases hv
    · have hv : some (x &&& y) = some v := hv
      cases hv
      cases hq
      exact lv_land hx hb hdg (kk H locs ls cells slots rfl rfl X)
    · have hv : (none : Option Int64) = some v := hv
      cases hv
  case lor =>
    rcases mDef_inv (i := .lor) h with ⟨x, y, r, v, rfl, hv, hq⟩ | ⟨x, y, r, v, rfl, hv, hq⟩ | ⟨x, y, r, v, rfl, hv, hq⟩
    · have hv : (none : Option Int32) = some v := hv
      cases hv
    · have hv : some (x ||| y) = some v := hv
      cases hv
      cases hq
      exact lv_lor hx hb hdg (kk H locs ls cells slots rfl rfl X)
    · have hv : (none : Option Int64) = some v := hv
      cases hv
  case lxor =>
    rcases mDef_inv (i := .lxor) h with ⟨x, y, r, v, rfl, hv, hq⟩ | ⟨x, y, r, v, rfl, hv, hq⟩ | ⟨x, y, r, v, rfl, hv, hq⟩
    · have hv : (none : Option Int32) = some v := hv
      cases hv
    · have hv : some (x ^^^ y) = some v := hv
      cases hv
      cases hq
      exact lv_lxor hx hb hdg (kk H locs ls cells slots rfl rfl X)
    · have hv : (none : Option Int64) = some v := hv
      cases hv
  case ldiv =>
    rcases mDef_inv (i := .ldiv) h with ⟨x, y, r, v, rfl, hv, hq⟩ | ⟨x, y, r, v, rfl, hv, hq⟩ | ⟨x, y, r, v, rfl, hv, hq⟩
    · have hv : (none : Option Int32) = some v := hv
      cases hv
    · have hv : (if y = 0 then none else some (x / y)) = some v := hv
      split at hv
      · cases hv
      · rename_i hy
        cases hv
        cases hq
        exact lv_ldiv hx hb hdg hy (kk H locs ls cells slots rfl rfl X)
    · have hv : (none : Option Int64) = some v := hv
      cases hv
  case lrem =>
    rcases mDef_inv (i := .lrem) h with ⟨x, y, r, v, rfl, hv, hq⟩ | ⟨x, y, r, v, rfl, hv, hq⟩ | ⟨x, y, r, v, rfl, hv, hq⟩
    · have hv : (none : Option Int32) = some v := hv
      cases hv
    · have hv : (if y = 0 then none else some (x - x / y * y)) = some v := hv
      split at hv
      · cases hv
      · rename_i hy
        cases hv
        cases hq
        exact lv_lrem hx hb hdg hy (kk H locs ls cells slots rfl rfl X)
    · have hv : (none : Option Int64) = some v := hv
      cases hv
  case lshl =>
    rcases mDef_inv (i := .lshl) h with ⟨x, y, r, v, rfl, hv, hq⟩ | ⟨x, y, r, v, rfl, hv, hq⟩ | ⟨x, y, r, v, rfl, hv, hq⟩
    · have hv : (none : Option Int32) = some v := hv
      cases hv
    · have hv : (none : Option Int64) = some v := hv
      cases hv
    · have hv : some (x <<< (y.toInt64 &&& 63)) = some v := hv
      cases hv
      cases hq
      exact lv_lshl hx hb hdg rfl (kk H locs ls cells slots rfl rfl X)
  case lshr =>
    rcases mDef_inv (i := .lshr) h with ⟨x, y, r, v, rfl, hv, hq⟩ | ⟨x, y, r, v, rfl, hv, hq⟩ | ⟨x, y, r, v, rfl, hv, hq⟩
    · have hv : (none : Option Int32) = some v := hv
      cases hv
    · have hv : (none : Option Int64) = some v := hv
      cases hv
    · have hv : some (x >>> (y.toInt64 &&& 63)) = some v := hv
      cases hv
      cases hq
      exact lv_lshr hx hb hdg rfl (kk H locs ls cells slots rfl rfl X)
  case lushr =>
    rcases mDef_inv (i := .lushr) h with ⟨x, y, r, v, rfl, hv, hq⟩ | ⟨x, y, r, v, rfl, hv, hq⟩ | ⟨x, y, r, v, rfl, hv, hq⟩
    · have hv : (none : Option Int32) = some v := hv
      cases hv
    · have hv : (none : Option Int64) = some v := hv
      cases hv
    · have hv : some ((x.toUInt64 >>> (y.toInt64.toUInt64 &&& Int64.toUInt64 63)).toInt64) = some v := hv
      cases hv
      cases hq
      exact lv_lushr hx hb hdg rfl (kk H locs ls cells slots rfl rfl X)
  case ineg =>
    obtain ⟨x, r, rfl, hq⟩ := mUnI_inv h
    cases hq
    exact lv_ineg hx hb hdg (kk H locs ls cells slots rfl rfl X)
  case lneg =>
    obtain ⟨x, r, rfl, hq⟩ := mUnL_inv h
    cases hq
    exact lv_lneg hx hb hdg (kk H locs ls cells slots rfl rfl X)
  case i2l =>
    obtain ⟨x, r, rfl, hq⟩ := mUnI_inv h
    cases hq
    exact lv_i2l hx hb hdg rfl (kk H locs ls cells slots rfl rfl X)
  case i2b =>
    obtain ⟨x, r, rfl, hq⟩ := mUnI_inv h
    cases hq
    exact lv_i2b hx hb hdg rfl (kk H locs ls cells slots rfl rfl X)
  case l2i =>
    obtain ⟨x, r, rfl, hq⟩ := mUnL_inv h
    cases hq
    exact lv_l2i hx hb hdg rfl (kk H locs ls cells slots rfl rfl X)
  case lcmp =>
    obtain ⟨x, y, r, rfl, hq⟩ := mCmp_inv h
    cases hq
    exact W.lcmp hx hb hdg (kk H locs ls cells slots rfl rfl X)
  case dup =>
    obtain ⟨v, r, rfl, hv, hq⟩ := mDup_inv h
    cases hq
    exact lv_dup hx hb hdg (by rw [mCv_cat]; exact hv) (kk H locs ls cells slots rfl rfl X)
  case pop =>
    obtain ⟨v, r, rfl, hv, hq⟩ := mPp_inv h
    cases hq
    exact lv_pop hx hb hdg (by rw [mCv_cat]; exact hv) (kk H locs ls cells slots rfl rfl X)
  case dup2 =>
    obtain ⟨x, y, r, rfl, hq⟩ := mDup2_inv h
    cases hq
    exact lv_dup2_11 hx hb hdg rfl rfl (kk H locs ls cells slots rfl rfl X)
  case ldc k =>
    rcases mLdc_inv h with ⟨v, hv, hq⟩ | ⟨v, hv, hq⟩
    · cases hq
      exact lv_ldc hx hb hown (hts _ (gK_int hv)) hdg (kk H locs ls cells slots rfl rfl X)
    · cases hq
      exact va_ldcS hx hb hown (hSx.2.2.1 s hS0 _ _ _ hv) hdg (kk H locs ls cells slots rfl rfl X)
  case ldc_w k =>
    obtain ⟨v, hv, hq⟩ := mLdcW_inv h
    cases hq
    exact lv_ldcw hx hb hown (hts _ (gK_int hv)) hdg (kk H locs ls cells slots rfl rfl X)
  case ldc2_w k =>
    obtain ⟨v, hv, hq⟩ := mLdc2_inv h
    cases hq
    exact lv_ldc2 hx hb hown (hts _ (gK_long hv)) hdg (kk H locs ls cells slots rfl rfl X)
  case getfield k =>
    obtain ⟨a, r, ci, j, rfl, h1, h2, hq⟩ := mGet_inv h
    cases hq
    obtain ⟨f1, f2, f3⟩ := gF_ok h1
    obtain ⟨c1, c2, c3, c4, c5, c6, c7, c8, c9, c10⟩ := gOkAll ci f3
    exact va_get (D := (dC, dI)) (ci := ci) (C := (gc ci).1) (T := (gc ci).2.1) (N := (gc ci).2.2) hx hb hts (gWsG f3) hown hK hP a (by rw [mWs_get (mSh h2).1, mCell_o h2]) c10 j f2 (hts _ f1) (fun _ h9 => h9) (mFs_get (by rw [c4]; exact f2)) hdg (kk H locs ls cells slots rfl rfl X)
  case putfield k =>
    obtain ⟨v, a, r, ci, j, w9, rfl, h1, h2, hq, hv⟩ := mPut_inv h
    cases hq
    obtain ⟨f1, f2, f3⟩ := gF_ok h1
    obtain ⟨c1, c2, c3, c4, c5, c6, c7, c8, c9, c10⟩ := gOkAll ci f3
    have hj : j < (gFt.getD ci []).length := by rw [c4]; exact f2
    have ha := (mSh h2).1
    have he : (mWs cy (mAd base b adK) w)[a]? = some (mAd base b adK a, .inr (ci, mFs (mAd base b adK) w a ci)) := by rw [mWs_get ha, mCell_o h2]
    have hfl : j < (mFs (mAd base b adK) w a ci).length := by unfold mFs; simpa using hj
    rcases hv with ⟨z, rfl, hf, hk, rfl⟩ | ⟨z, rfl, hf, hk, rfl⟩ | ⟨z, rfl, hf, hk, hi, ho, rfl⟩
    · have hty : narrow (gTy ci j) (.int z) = .int z ∧ fits (gTy ci j) (.int z) = true := by
        rcases c6 j f2 with ⟨q, t⟩ | ⟨q, t⟩ | ⟨q, t⟩ | ⟨q, t⟩
        · rw [t]; exact ⟨rfl, rfl⟩
        · rcases hk with hk | hk
          · exact absurd (hk.symm.trans q) (by decide)
          · exact absurd (hk.1.symm.trans q) (by decide)
        · rw [t]
          rcases hk with hk | ⟨-, rfl | rfl⟩
          · exact absurd (hk.symm.trans q) (by decide)
          · exact ⟨rfl, rfl⟩
          · exact ⟨rfl, rfl⟩
        · rcases hk with hk | hk
          · exact absurd (hk.symm.trans q) (by decide)
          · exact absurd (hk.1.symm.trans q) (by decide)
      have hw : (mWs cy (mAd base b adK) w).set a (mAd base b adK a, .inr (ci, (mFs (mAd base b adK) w a ci).set j (.int z))) = mWs cy (mAd base b adK) (wsI w (mSet (wI w) a j z)) := by
        refine mWs_set rfl ha ?_ (fun q hq => mCell_eq rfl (mSet_o hq) rfl rfl)
        rw [mCell_o (w := wsI w (mSet (wI w) a j z)) h2, mFs_set (w := w) hj (v := .int z)]
        · have hv9 : mFld (wsI w (mSet (wI w) a j z)) a j (gKi ci j) = .int z := by
            rcases hk with hk | hk
            · rw [hk]
              show Value.int (mSet (wI w) a j z a j) = _
              rw [mSet_s, mUp_s]
            · rw [hk.1]
              show Value.int (mSet (wI w) a j z a j) = _
              rw [mSet_s, mUp_s]
          rw [hv9]; rfl
        · intro q hq
          unfold mFld
          split
          · rfl
          · rfl
          · show Value.int (mSet (wI w) a j z a q) = _
            rw [mSet_s, mUp_o hq]
      refine va_put (D := (dC, dI)) (ci := ci) (C := (gc ci).1) (T := (gc ci).2.1) (N := (gc ci).2.2) (ty := gTy ci j) hx hb hts (gWsG f3) (gTy ci) c2 c3 hown hK hP hD hS a he c10 j f2 (hts _ f1) (fun _ h9 => h9) ((c5 j f2).1.trans hf) (c2 j f2) hty.1 hty.2 hfl hdg (fun H1 locs1 hP1 hD1 hS1 => ?_)
      exact kk H1 locs1 ls cells slots rfl rfl ⟨hE, hN, (congrArg (fun q => va_P (dC, dI) gCl q H1) hw).mp hP1, hS1, hl, hLo⟩
    · have hty : narrow (gTy ci j) (.long z) = .long z ∧ fits (gTy ci j) (.long z) = true := by
        rcases c6 j f2 with ⟨q, t⟩ | ⟨q, t⟩ | ⟨q, t⟩ | ⟨q, t⟩
        · exact absurd (hk.symm.trans q) (by decide)
        · rw [t]; exact ⟨rfl, rfl⟩
        · exact absurd (hk.symm.trans q) (by decide)
        · exact absurd (hk.symm.trans q) (by decide)
      have hw : (mWs cy (mAd base b adK) w).set a (mAd base b adK a, .inr (ci, (mFs (mAd base b adK) w a ci).set j (.long z))) = mWs cy (mAd base b adK) (wsJ w (mSet (wJ w) a j z)) := by
        refine mWs_set rfl ha ?_ (fun q hq => mCell_eq rfl rfl (mSet_o hq) rfl)
        rw [mCell_o (w := wsJ w (mSet (wJ w) a j z)) h2, mFs_set (w := w) hj (v := .long z)]
        · have hv9 : mFld (wsJ w (mSet (wJ w) a j z)) a j (gKi ci j) = .long z := by
            rw [hk]
            show Value.long (mSet (wJ w) a j z a j) = _
            rw [mSet_s, mUp_s]
          rw [hv9]; rfl
        · intro q hq
          unfold mFld
          split
          · show Value.long (mSet (wJ w) a j z a q) = _
            rw [mSet_s, mUp_o hq]
          · rfl
          · rfl
      refine va_put (D := (dC, dI)) (ci := ci) (C := (gc ci).1) (T := (gc ci).2.1) (N := (gc ci).2.2) (ty := gTy ci j) hx hb hts (gWsG f3) (gTy ci) c2 c3 hown hK hP hD hS a he c10 j f2 (hts _ f1) (fun _ h9 => h9) ((c5 j f2).1.trans hf) (c2 j f2) hty.1 hty.2 hfl hdg (fun H1 locs1 hP1 hD1 hS1 => ?_)
      exact kk H1 locs1 ls cells slots rfl rfl ⟨hE, hN, (congrArg (fun q => va_P (dC, dI) gCl q H1) hw).mp hP1, hS1, hl, hLo⟩
    · have hty : narrow (gTy ci j) (.ref (mAd base b adK z)) = .ref (mAd base b adK z) ∧ fits (gTy ci j) (.ref (mAd base b adK z)) = true := by
        rcases c6 j f2 with ⟨q, t⟩ | ⟨q, t⟩ | ⟨q, t⟩ | ⟨q, t⟩
        · exact absurd (hk.symm.trans q) (by decide)
        · exact absurd (hk.symm.trans q) (by decide)
        · exact absurd (hk.symm.trans q) (by decide)
        · rcases t with ⟨t, e9⟩ | ⟨t, e9⟩
          · rw [e9]; exact ⟨rfl, rfl⟩
          · rw [e9]; exact ⟨rfl, rfl⟩
      have hw : (mWs cy (mAd base b adK) w).set a (mAd base b adK a, .inr (ci, (mFs (mAd base b adK) w a ci).set j (.ref (mAd base b adK z)))) = mWs cy (mAd base b adK) (wsR w (mSet (wR w) a j (some z))) := by
        refine mWs_set rfl ha ?_ (fun q hq => mCell_eq rfl rfl rfl (mSet_o hq))
        rw [mCell_o (w := wsR w (mSet (wR w) a j (some z))) h2, mFs_set (w := w) hj (v := .ref (mAd base b adK z))]
        · have hv9 : mFld (wsR w (mSet (wR w) a j (some z))) a j (gKi ci j) = .ref z := by
            rw [hk]
            show mRf (mSet (wR w) a j (some z) a j) = _
            rw [mSet_s, mUp_s]
            rfl
          rw [hv9]; rfl
        · intro q hq
          unfold mFld
          split
          · rfl
          · show mRf (mSet (wR w) a j (some z) a q) = _
            rw [mSet_s, mUp_o hq]
          · rfl
      refine va_putF (D := (dC, dI)) (ci := ci) (C := (gc ci).1) (T := (gc ci).2.1) (N := (gc ci).2.2) (ty := gTy ci j) hx hb hts (gWsG f3) (gTy ci) c2 c3 hown hK hP hD hS a he c10 j f2 (hts _ f1) (fun _ h9 => h9) ((c5 j f2).1.trans hf) (hin hi) (by rw [ho, gOwnC ci f3]; exact c7 j f2) (c2 j f2) hty.1 hty.2 hfl hdg (fun H1 locs1 hP1 hD1 hS1 => ?_)
      exact kk H1 locs1 ls cells slots rfl rfl ⟨hE, hN, (congrArg (fun q => va_P (dC, dI) gCl q H1) hw).mp hP1, hS1, hl, hLo⟩
  case iaload =>
    obtain ⟨j, a, r, rfl, hv⟩ := mIal_inv h
    rcases hv with ⟨rfl, hm, ho, hq⟩ | ⟨n, hn, ho, hq⟩
    · cases hq
      obtain ⟨x1, x2, x3⟩ := hscr hm
      exact va_sld hx hb x1 x2 (Nat.not_le.mpr x3) hS ho hdg (kk H locs ls cells slots rfl rfl X)
    · cases hq
      exact va_iald hx hb hK hP a 0 (by rw [mWs_get (mSh hn).1, mCell_1 hn]) rfl ho hdg (kk H locs ls cells slots rfl rfl X)
  case baload =>
    obtain ⟨j, a, r, n, rfl, hn, ho, hq⟩ := mBal_inv h
    cases hq
    rcases hn with hn | hn
    · exact va_bald hx hb hK hP a 1 (by rw [mWs_get (mSh hn).1, mCell_2 hn]) rfl ho hdg (kk H locs ls cells slots rfl rfl X)
    · exact va_zald hx hb hK hP a 2 (by rw [mWs_get (mSh hn).1, mCell_3 hn]) rfl ho hdg (kk H locs ls cells slots rfl rfl X)
  case laload =>
    obtain ⟨j, a, r, n, rfl, hn, ho, hq⟩ := mLal_inv h
    cases hq
    exact va_lald hx hb hK hP a 3 (by rw [mWs_get (mSh hn).1, mCell_4 hn]) rfl ho hdg (kk H locs ls cells slots rfl rfl X)
  case aaload =>
    obtain ⟨j, a, r, n, rfl, hn, ho, hq⟩ := mAal_inv h
    cases hq
    refine va_aldq hx hb hK hP a 4 (by rw [mWs_get (mSh hn).1, mCell_5 hn]) rfl ho hdg ?_
    have k9 := kk H locs ls cells slots rfl rfl X
    rw [List.map_cons, mCv_rf] at k9
    exact k9
  case iastore =>
    obtain ⟨v, j, a, r, n, rfl, hn, ho, hq⟩ := mIas_inv h
    cases hq
    have hw : (mWs cy (mAd base b adK) w).set a (mAd base b adK a, .inl (cy 1, n, .inl (upd (wI w a) j.toNatClampNeg v))) = mWs cy (mAd base b adK) (wsI w (mSet (wI w) a j.toNatClampNeg v)) := by
      refine mWs_set rfl (mSh hn).1 ?_ (fun q hq => mCell_eq rfl (mSet_o hq) rfl rfl)
      rw [mCell_1 (w := wsI w (mSet (wI w) a j.toNatClampNeg v)) hn]
      show Sum.inl (cy 1, n, Sum.inl (mSet (wI w) a j.toNatClampNeg v a)) = _
      rw [mSet_s]
      rfl
    refine va_iast hx hb hK hP hD hS a 0 (by rw [mWs_get (mSh hn).1, mCell_1 hn]) rfl ho hdg (fun H1 locs1 hP1 hD1 hS1 => ?_)
    exact kk H1 locs1 ls cells slots rfl rfl ⟨hE, hN, (congrArg (fun q => va_P (dC, dI) gCl q H1) hw).mp hP1, hS1, hl, hLo⟩
  case bastore =>
    obtain ⟨v, j, a, r, n, rfl, ho, hv⟩ := mBas_inv h
    rcases hv with ⟨hn, hq⟩ | ⟨hn, hq⟩
    · cases hq
      have hw : (mWs cy (mAd base b adK) w).set a (mAd base b adK a, .inl (cy 2, n, .inl (upd (wI w a) j.toNatClampNeg (vp_nar .byte v)))) = mWs cy (mAd base b adK) (wsI w (mSet (wI w) a j.toNatClampNeg (vp_nar .byte v))) := by
        refine mWs_set rfl (mSh hn).1 ?_ (fun q hq => mCell_eq rfl (mSet_o hq) rfl rfl)
        rw [mCell_2 (w := wsI w (mSet (wI w) a j.toNatClampNeg (vp_nar .byte v))) hn]
        show Sum.inl (cy 2, n, Sum.inl (mSet (wI w) a j.toNatClampNeg (vp_nar .byte v) a)) = _
        rw [mSet_s]
        rfl
      refine va_bast hx hb hK hP hD hS a 1 (by rw [mWs_get (mSh hn).1, mCell_2 hn]) rfl ho hdg (fun H1 locs1 hP1 hD1 hS1 => ?_)
      exact kk H1 locs1 ls cells slots rfl rfl ⟨hE, hN, (congrArg (fun q => va_P (dC, dI) gCl q H1) hw).mp hP1, hS1, hl, hLo⟩
    · cases hq
      have hw : (mWs cy (mAd base b adK) w).set a (mAd base b adK a, .inl (cy 3, n, .inl (upd (wI w a) j.toNatClampNeg (vp_nar .boolean v)))) = mWs cy (mAd base b adK) (wsI w (mSet (wI w) a j.toNatClampNeg (vp_nar .boolean v))) := by
        refine mWs_set rfl (mSh hn).1 ?_ (fun q hq => mCell_eq rfl (mSet_o hq) rfl rfl)
        rw [mCell_3 (w := wsI w (mSet (wI w) a j.toNatClampNeg (vp_nar .boolean v))) hn]
        show Sum.inl (cy 3, n, Sum.inl (mSet (wI w) a j.toNatClampNeg (vp_nar .boolean v) a)) = _
        rw [mSet_s]
        rfl
      refine va_zast hx hb hK hP hD hS a 2 (by rw [mWs_get (mSh hn).1, mCell_3 hn]) rfl ho hdg (fun H1 locs1 hP1 hD1 hS1 => ?_)
      exact kk H1 locs1 ls cells slots rfl rfl ⟨hE, hN, (congrArg (fun q => va_P (dC, dI) gCl q H1) hw).mp hP1, hS1, hl, hLo⟩
  case lastore =>
    obtain ⟨v, j, a, r, n, rfl, hn, ho, hq⟩ := mLas_inv h
    cases hq
    have hw : (mWs cy (mAd base b adK) w).set a (mAd base b adK a, .inl (cy 4, n, .inr (.inl (vp_updL (wJ w a) j.toNatClampNeg v)))) = mWs cy (mAd base b adK) (wsJ w (mSet (wJ w) a j.toNatClampNeg v)) := by
      refine mWs_set rfl (mSh hn).1 ?_ (fun q hq => mCell_eq rfl rfl (mSet_o hq) rfl)
      rw [mCell_4 (w := wsJ w (mSet (wJ w) a j.toNatClampNeg v)) hn]
      show Sum.inl (cy 4, n, Sum.inr (Sum.inl (mSet (wJ w) a j.toNatClampNeg v a))) = _
      rw [mSet_s]
      rfl
    refine va_last hx hb hK hP hD hS a 3 (by rw [mWs_get (mSh hn).1, mCell_4 hn]) rfl ho hdg (fun H1 locs1 hP1 hD1 hS1 => ?_)
    exact kk H1 locs1 ls cells slots rfl rfl ⟨hE, hN, (congrArg (fun q => va_P (dC, dI) gCl q H1) hw).mp hP1, hS1, hl, hLo⟩
  case aastore =>
    obtain ⟨v, j, a, r, n, rfl, hn, ho, hv, hq⟩ := mAas_inv h
    cases hq
    have hw : (mWs cy (mAd base b adK) w).set a (mAd base b adK a, .inl (cy 5, n, .inr (.inr (.inr (.inr (va_up (fun k => (wR w a k).map (mAd base b adK)) j.toNatClampNeg (some (mAd base b adK v)))))))) = mWs cy (mAd base b adK) (wsR w (mSet (wR w) a j.toNatClampNeg (some v))) := by
      refine mWs_set rfl (mSh hn).1 ?_ (fun q hq => mCell_eq rfl rfl rfl (mSet_o hq))
      rw [mCell_5 (w := wsR w (mSet (wR w) a j.toNatClampNeg (some v))) hn]
      show Sum.inl (cy 5, n, Sum.inr (Sum.inr (Sum.inr (Sum.inr (fun k => (mSet (wR w) a j.toNatClampNeg (some v) a k).map (mAd base b adK)))))) = _
      have hf : (fun k => (mSet (wR w) a j.toNatClampNeg (some v) a k).map (mAd base b adK)) = va_up (fun k => (wR w a k).map (mAd base b adK)) j.toNatClampNeg (some (mAd base b adK v)) := by
        funext k
        rw [mSet_s]
        by_cases hk : k = j.toNatClampNeg
        · subst hk
          rw [mUp_s, mUp_s]
          rfl
        · rw [mUp_o hk, mUp_o hk]
      rw [hf]
    refine va_astq (r := gc 2) hx hb hK hP hD hS a 4 v 2 (by rw [mWs_get (mSh hn).1, mCell_5 hn]) rfl (by rw [mWs_get (mSh hv).1, mCell_o hv]) rfl ho hdg (fun H1 locs1 hP1 hD1 hS1 => ?_)
    exact kk H1 locs1 ls cells slots rfl rfl ⟨hE, hN, (congrArg (fun q => va_P (dC, dI) gCl q H1) hw).mp hP1, hS1, hl, hLo⟩
  case arraylength =>
    obtain ⟨a, r, rfl, hv⟩ := mAln_inv h
    rcases hv with ⟨rfl, hm, hq⟩ | ⟨n, hn, hq⟩
    · cases hq
      obtain ⟨x1, x2, x3⟩ := hscr hm
      exact va_slen hx hb x1 x2 (Nat.not_le.mpr x3) hS hdg (kk H locs ls cells slots rfl rfl X)
    · cases hq
      rcases hn with hn | hn
      · exact va_alen (ty := .int) (x := (n, .inl (wI w a))) hx hb hK hP a 0 (by rw [mWs_get (mSh hn).1, mCell_1 hn]) rfl rfl hdg (kk H locs ls cells slots rfl rfl X)
      · exact va_alen (ty := .long) (x := (n, .inr (.inl (wJ w a)))) hx hb hK hP a 3 (by rw [mWs_get (mSh hn).1, mCell_4 hn]) rfl rfl hdg (kk H locs ls cells slots rfl rfl X)
  case newarray t =>
    obtain ⟨n, r, rfl, hn0, hn1, hlt, ht, hq⟩ := mNwa_inv h
    cases hq
    have hc1 : cells + (w.1 ++ [(mAk t, n.toNatClampNeg)]).length ≤ R.cells + w.1.length := hc
    rw [List.length_append, List.length_singleton] at hc1
    have hcl : cells + 1 ≤ R.cells := by omega
    have hz1 : slots + (wZ w + n.toNatClampNeg) ≤ R.slots + wZ w := hz
    have hsl : slots + n.toNatClampNeg ≤ R.slots := by omega
    cases t
    case int =>
      refine va_newa (atype := .int) (ty := .int) (a0 := (n.toNatClampNeg, .inl (fun _ => 0))) hx hb (hts _ gA_int) rfl hK hP hD hS hA (fun _ => rfl) hn0 rfl (Nat.le_trans (Nat.mul_le_mul_right _ hn1) (by decide)) hcl hsl hdg (fun q cA H1 hK1 hP1 hD1 hS1 => ?_)
      have hcA := mK_cy hK (t := 0) rfl hK1
      subst hcA
      refine mW_sz (fun hsz => ?_)
      have hq1 := mPin hlt hP1 hD1 (by omega)
      subst hq1
      rw [mWs_new (q := (1, n.toNatClampNeg)) (n := n.toNatClampNeg) (by rw [mCell_1 mNew_sh]; rw [show wI (mNew w (1, n.toNatClampNeg) n.toNatClampNeg) w.1.length = (fun _ => 0) from mUp_s])] at hP1
      exact kk H1 locs ls (cells + 1) (slots + n.toNatClampNeg) (by show cells + 1 + w.1.length = cells + (w.1 ++ _).length; rw [List.length_append, List.length_singleton]; omega) (by show slots + n.toNatClampNeg + wZ w = slots + (wZ w + n.toNatClampNeg); omega) ⟨by show s.heap.size + (cells + 1) = base + (w.1 ++ _).length; rw [List.length_append, List.length_singleton]; omega, by show (w.1 ++ _).length ≤ 1000000; rw [List.length_append, List.length_singleton]; omega, hP1, hS1, hl, hLo⟩
    case byte =>
      refine va_newa (atype := .byte) (ty := .byte) (a0 := (n.toNatClampNeg, .inl (fun _ => 0))) hx hb (hts _ gA_byte) rfl hK hP hD hS hA (fun _ => rfl) hn0 rfl (Nat.le_trans (Nat.mul_le_mul_right _ hn1) (by decide)) hcl hsl hdg (fun q cA H1 hK1 hP1 hD1 hS1 => ?_)
      have hcA := mK_cy hK (t := 1) rfl hK1
      subst hcA
      refine mW_sz (fun hsz => ?_)
      have hq1 := mPin hlt hP1 hD1 (by omega)
      subst hq1
      rw [mWs_new (q := (2, n.toNatClampNeg)) (n := n.toNatClampNeg) (by rw [mCell_2 mNew_sh]; rw [show wI (mNew w (2, n.toNatClampNeg) n.toNatClampNeg) w.1.length = (fun _ => 0) from mUp_s])] at hP1
      exact kk H1 locs ls (cells + 1) (slots + n.toNatClampNeg) (by show cells + 1 + w.1.length = cells + (w.1 ++ _).length; rw [List.length_append, List.length_singleton]; omega) (by show slots + n.toNatClampNeg + wZ w = slots + (wZ w + n.toNatClampNeg); omega) ⟨by show s.heap.size + (cells + 1) = base + (w.1 ++ _).length; rw [List.length_append, List.length_singleton]; omega, by show (w.1 ++ _).length ≤ 1000000; rw [List.length_append, List.length_singleton]; omega, hP1, hS1, hl, hLo⟩
    case boolean =>
      refine va_newa (atype := .boolean) (ty := .boolean) (a0 := (n.toNatClampNeg, .inl (fun _ => 0))) hx hb (hts _ gA_bool) rfl hK hP hD hS hA (fun _ => rfl) hn0 rfl (Nat.le_trans (Nat.mul_le_mul_right _ hn1) (by decide)) hcl hsl hdg (fun q cA H1 hK1 hP1 hD1 hS1 => ?_)
      have hcA := mK_cy hK (t := 2) rfl hK1
      subst hcA
      refine mW_sz (fun hsz => ?_)
      have hq1 := mPin hlt hP1 hD1 (by omega)
      subst hq1
      rw [mWs_new (q := (3, n.toNatClampNeg)) (n := n.toNatClampNeg) (by rw [mCell_3 mNew_sh]; rw [show wI (mNew w (3, n.toNatClampNeg) n.toNatClampNeg) w.1.length = (fun _ => 0) from mUp_s])] at hP1
      exact kk H1 locs ls (cells + 1) (slots + n.toNatClampNeg) (by show cells + 1 + w.1.length = cells + (w.1 ++ _).length; rw [List.length_append, List.length_singleton]; omega) (by show slots + n.toNatClampNeg + wZ w = slots + (wZ w + n.toNatClampNeg); omega) ⟨by show s.heap.size + (cells + 1) = base + (w.1 ++ _).length; rw [List.length_append, List.length_singleton]; omega, by show (w.1 ++ _).length ≤ 1000000; rw [List.length_append, List.length_singleton]; omega, hP1, hS1, hl, hLo⟩
    case long =>
      refine va_newa (atype := .long) (ty := .long) (a0 := (n.toNatClampNeg, .inr (.inl (fun _ => 0)))) hx hb (hts _ gA_long) rfl hK hP hD hS hA (fun _ => rfl) hn0 rfl (Nat.le_trans (Nat.mul_le_mul_right _ hn1) (by decide)) hcl hsl hdg (fun q cA H1 hK1 hP1 hD1 hS1 => ?_)
      have hcA := mK_cy hK (t := 3) rfl hK1
      subst hcA
      refine mW_sz (fun hsz => ?_)
      have hq1 := mPin hlt hP1 hD1 (by omega)
      subst hq1
      rw [mWs_new (q := (4, n.toNatClampNeg)) (n := n.toNatClampNeg) (by rw [mCell_4 mNew_sh]; rw [show wJ (mNew w (4, n.toNatClampNeg) n.toNatClampNeg) w.1.length = (fun _ => 0) from mUp_s])] at hP1
      exact kk H1 locs ls (cells + 1) (slots + n.toNatClampNeg) (by show cells + 1 + w.1.length = cells + (w.1 ++ _).length; rw [List.length_append, List.length_singleton]; omega) (by show slots + n.toNatClampNeg + wZ w = slots + (wZ w + n.toNatClampNeg); omega) ⟨by show s.heap.size + (cells + 1) = base + (w.1 ++ _).length; rw [List.length_append, List.length_singleton]; omega, by show (w.1 ++ _).length ≤ 1000000; rw [List.length_append, List.length_singleton]; omega, hP1, hS1, hl, hLo⟩
    all_goals exact absurd rfl ht
  case anewarray k =>
    obtain ⟨n, r, rfl, hn0, hn1, hlt, ht, hq⟩ := mNwq_inv h
    cases hq
    have hc1 : cells + (w.1 ++ [(5, n.toNatClampNeg)]).length ≤ R.cells + w.1.length := hc
    rw [List.length_append, List.length_singleton] at hc1
    have hcl : cells + 1 ≤ R.cells := by omega
    have hz1 : slots + (wZ w + n.toNatClampNeg) ≤ R.slots + wZ w := hz
    have hsl : slots + n.toNatClampNeg ≤ R.slots := by omega
    refine va_newq (C := RX2) hx hb hown (hts _ (gN_ok ht).1) (hSx.1 s hS0) hK hP hD hS hA hn0 rfl (by omega) hcl hsl hdg (fun q cA H1 hK1 hP1 hD1 hS1 => ?_)
    have hcA := mK_cy hK (t := 4) rfl hK1
    subst hcA
    refine mW_sz (fun hsz => ?_)
    have hq1 := mPin hlt hP1 hD1 (by omega)
    subst hq1
    rw [mWs_new (q := (5, n.toNatClampNeg)) (n := n.toNatClampNeg) (by rw [mCell_5 mNew_sh]; rw [show wR (mNew w (5, n.toNatClampNeg) n.toNatClampNeg) w.1.length = (fun _ => none) from mUp_s]; rfl)] at hP1
    exact kk H1 locs ls (cells + 1) (slots + n.toNatClampNeg) (by show cells + 1 + w.1.length = cells + (w.1 ++ _).length; rw [List.length_append, List.length_singleton]; omega) (by show slots + n.toNatClampNeg + wZ w = slots + (wZ w + n.toNatClampNeg); omega) ⟨by show s.heap.size + (cells + 1) = base + (w.1 ++ _).length; rw [List.length_append, List.length_singleton]; omega, by show (w.1 ++ _).length ≤ 1000000; rw [List.length_append, List.length_singleton]; omega, hP1, hS1, hl, hLo⟩
  case new k =>
    obtain ⟨ci, ht, hci, hlt, hq⟩ := mNwo_inv h
    cases hq
    obtain ⟨c1, c2, c3, c4, c5, c6, c7, c8, c9, c10⟩ := gOkAll ci hci
    have hc1 : cells + (w.1 ++ [(0, ci)]).length ≤ R.cells + w.1.length := hc
    rw [List.length_append, List.length_singleton] at hc1
    have hcl : cells + 1 ≤ R.cells := by omega
    have hz1 : slots + (wZ w + (gFt.getD ci []).length) ≤ R.slots + wZ w := hz
    have hsl : slots + (gc ci).2.2 ≤ R.slots := by rw [← c4]; omega
    have hins : Cond.instantiable (gc ci).1 (gc ci).2.2 ∈ lwG := by
      rcases c8 with c8 | c8
      · exact lwG_in c8 rfl
      · omega
    refine va_new (ci := ci) (fs := mFs (mAd base b adK) (mNew w (0, ci) (gFt.getD ci []).length) w.1.length ci) (C := (gc ci).1) (T := (gc ci).2.1) (N := (gc ci).2.2) hx hb hts (gWsG hci) (gTy ci) c2 hown (hts _ (gN_ok ht).1) (hts _ hins) (hts _ (lwG_in c9 rfl)) hK hP hD hS hA c10 (fun j hj => ?_) hcl hsl hdg (fun q H1 hP1 hD1 hS1 => ?_)
    · unfold vp_V
      rw [List.getD_eq_getElem?_getD, mFs_get (by rw [c4]; exact hj), Option.getD_some]
      have e1 : wI (mNew w (0, ci) (gFt.getD ci []).length) w.1.length = fun _ => 0 := mUp_s
      have e2 : wJ (mNew w (0, ci) (gFt.getD ci []).length) w.1.length = fun _ => 0 := mUp_s
      have e3 : wR (mNew w (0, ci) (gFt.getD ci []).length) w.1.length = fun _ => none := mUp_s
      rcases c6 j hj with ⟨q, t⟩ | ⟨q, t⟩ | ⟨q, t⟩ | ⟨q, ⟨t, e9⟩ | ⟨t, e9⟩⟩
      · rw [t, show gKi ci j = 0 from q]; show _ = Value.int (wI _ _ j); rw [e1]; rfl
      · rw [t, show gKi ci j = 1 from q]; show _ = Value.long (wJ _ _ j); rw [e2]; rfl
      · rw [t, show gKi ci j = 3 from q]; show _ = Value.int (wI _ _ j); rw [e1]; rfl
      · rw [e9, show gKi ci j = 2 from q]; show _ = mCv _ (mRf (wR _ _ j)); rw [e3]; rfl
      · rw [e9, show gKi ci j = 2 from q]; show _ = mCv _ (mRf (wR _ _ j)); rw [e3]; rfl
    · refine mW_sz (fun hsz => ?_)
      have hq1 := mPin hlt hP1 hD1 (by omega)
      subst hq1
      rw [mWs_new (q := (0, ci)) (n := (gFt.getD ci []).length) (by rw [mCell_o mNew_sh])] at hP1
      rw [← c4]
      exact kk H1 locs ls (cells + 1) (slots + (gFt.getD ci []).length) (by show cells + 1 + w.1.length = cells + (w.1 ++ _).length; rw [List.length_append, List.length_singleton]; omega) (by show slots + (gFt.getD ci []).length + wZ w = slots + (wZ w + (gFt.getD ci []).length); omega) ⟨by show s.heap.size + (cells + 1) = base + (w.1 ++ _).length; rw [List.length_append, List.length_singleton]; omega, by show (w.1 ++ _).length ≤ 1000000; rw [List.length_append, List.length_singleton]; omega, hP1, hS1, hl, hLo⟩
  case invokespecial k =>
    obtain ⟨a, r, rfl, hm, hd0, hr, hq⟩ := mIsp_inv h
    have h9 : mCat (r.map (mCv (mAd base b adK))) ≤ 8 := by rw [mCats]; exact hr
    simp only [mCat] at h9
    cases hg : mLk gCall (gO mi) k with
    | none => rw [hg] at hm; cases hm
    | some q9 =>
      obtain ⟨mj, nn⟩ := q9
      rw [hg] at hm
      have hm : mj = 1000 := Option.some.inj hm
      subst hm
      have h1 : Cond.methodLink (gOwn.getD (gO mi) "") k objectInit ∈ lwG := mSpec hg (by decide)
      cases hq
      refine W.objInit hx hb hown (hts _ h1) (hts _ gOi) (hts _ gOc) rfl (by rw [hml]; exact hl.1) rfl hdg (Nat.le_trans hd0 hfr) ?_ (kk H locs ls cells slots rfl rfl X)
      have h7 : 2 * (F0 m pc ls (Value.ref (mAd base b adK a) :: st1'.map (mCv (mAd base b adK)))).monitorRoom = 0 := rfl
      rw [h7]
      omega
  case invokestatic k =>
    obtain ⟨mj, nn, hg, hv⟩ := mIst_inv h
    have h1 : 1000 ≤ mj → Cond.methodLink (gOwn.getD (gO mi) "") k (gSpY mj) ∈ lwG := mSpec hg
    rcases hv with ⟨rfl, hv⟩ | ⟨rfl, hv⟩ | ⟨rfl, hv⟩ | ⟨rfl, hv⟩
    · have h1 := h1 (by decide)
      obtain ⟨n, dp, a, sp, a0, r, n0, n1, rfl, hd0, hr, g1, g2, g3, g4, g5, hv⟩ := mAcp_inv hv
      have h9 : mCat (r.map (mCv (mAd base b adK))) ≤ 8 := by rw [mCats]; exact hr
      simp only [mCat] at h9
      have h8 : nativeFrameWords "java/lang/System" "arraycopy" 5 ≤ 40 := by decide +kernel
      rcases hv with ⟨s0, s1, hq⟩ | ⟨s0, s1, hq⟩
      · cases hq
        have hw : (mWs cy (mAd base b adK) w).set a (mAd base b adK a, .inl (cy 1, n1, .inl (va_cpy (wI w a0) (wI w a) sp.toNatClampNeg dp.toNatClampNeg n.toNatClampNeg))) = mWs cy (mAd base b adK) (wsI w (va_up (wI w) a (va_cpy (wI w a0) (wI w a) sp.toNatClampNeg dp.toNatClampNeg n.toNatClampNeg))) := by
          refine mWs_set rfl (mSh s1).1 ?_ (fun q hq => mCell_eq rfl (mUp_o hq) rfl rfl)
          rw [mCell_1 (w := wsI w (va_up (wI w) a (va_cpy (wI w a0) (wI w a) sp.toNatClampNeg dp.toNatClampNeg n.toNatClampNeg))) s1]
          show Sum.inl (cy 1, n1, Sum.inl (va_up (wI w) a _ a)) = _
          rw [mUp_s]
        refine va_copyi (ty := .int) hx hb (hml.trans hl.1.symm) hown (hts _ h1) (hts _ gCpn) (hts _ gCps) (hts _ gSyi) hK hP hD hS a0 a 0 0 (by rw [mWs_get (mSh s0).1, mCell_1 s0]) (by rw [mWs_get (mSh s1).1, mCell_1 s1]) rfl rfl rfl g1 g2 g3 g4 g5 (fun _ _ => rfl) (Nat.le_trans hd0 hfr) (by omega) hdg (fun H1 locs1 hP1 hD1 hS1 => ?_)
        exact kk H1 locs1 ls cells slots rfl rfl ⟨hE, hN, (congrArg (fun q => va_P (dC, dI) gCl q H1) hw).mp hP1, hS1, hl, hLo⟩
      · cases hq
        have hw : (mWs cy (mAd base b adK) w).set a (mAd base b adK a, .inl (cy 4, n1, .inr (.inl (va_cpy (wJ w a0) (wJ w a) sp.toNatClampNeg dp.toNatClampNeg n.toNatClampNeg)))) = mWs cy (mAd base b adK) (wsJ w (va_up (wJ w) a (va_cpy (wJ w a0) (wJ w a) sp.toNatClampNeg dp.toNatClampNeg n.toNatClampNeg))) := by
          refine mWs_set rfl (mSh s1).1 ?_ (fun q hq => mCell_eq rfl rfl (mUp_o hq) rfl)
          rw [mCell_4 (w := wsJ w (va_up (wJ w) a (va_cpy (wJ w a0) (wJ w a) sp.toNatClampNeg dp.toNatClampNeg n.toNatClampNeg))) s1]
          show Sum.inl (cy 4, n1, Sum.inr (Sum.inl (va_up (wJ w) a _ a))) = _
          rw [mUp_s]
        refine va_copyl (ty := .long) hx hb (hml.trans hl.1.symm) hown (hts _ h1) (hts _ gCpn) (hts _ gCps) (hts _ gSyi) hK hP hD hS a0 a 3 3 (by rw [mWs_get (mSh s0).1, mCell_4 s0]) (by rw [mWs_get (mSh s1).1, mCell_4 s1]) rfl rfl rfl g1 g2 g3 g4 g5 (fun _ _ => rfl) (Nat.le_trans hd0 hfr) (by omega) hdg (fun H1 locs1 hP1 hD1 hS1 => ?_)
        exact kk H1 locs1 ls cells slots rfl rfl ⟨hE, hN, (congrArg (fun q => va_P (dC, dI) gCl q H1) hw).mp hP1, hS1, hl, hLo⟩
    · have h1 := h1 (by decide)
      obtain ⟨x, y, r, rfl, hd0, hr, hq⟩ := mM2_inv hv
      cases hq
      refine va_mmax hx hb (hml.trans hl.1.symm) hown (hts _ h1) (hts _ gMmax) (hts _ gMini) (hts _ gMmaxC) (Nat.le_trans hd0 hfr) ?_ (by omega) (by omega) hdg (kk H locs ls cells slots rfl rfl X)
      have h9 : mCat (r.map (mCv (mAd base b adK))) ≤ 8 := by rw [mCats]; exact hr
      simp only [mCat] at h9
      omega
    · have h1 := h1 (by decide)
      obtain ⟨x, y, r, rfl, hd0, hr, hq⟩ := mM2_inv hv
      cases hq
      refine va_mmin hx hb (hml.trans hl.1.symm) hown (hts _ h1) (hts _ gMmin) (hts _ gMini) (hts _ gMminC) (Nat.le_trans hd0 hfr) ?_ (by omega) (by omega) hdg (kk H locs ls cells slots rfl rfl X)
      have h9 : mCat (r.map (mCv (mAd base b adK))) ≤ 8 := by rw [mCats]; exact hr
      simp only [mCat] at h9
      omega
    · have h1 := h1 (by decide)
      obtain ⟨x, r, rfl, hd0, hr, hq⟩ := mM1_inv hv
      cases hq
      refine va_mabs hx hb (hml.trans hl.1.symm) hown (hts _ h1) (hts _ gMabs) (hts _ gMini) (hts _ gMabsC) (Nat.le_trans hd0 hfr) ?_ (by omega) (by omega) hdg (kk H locs ls cells slots rfl rfl X)
      have h9 : mCat (r.map (mCv (mAd base b adK))) ≤ 8 := by rw [mCats]; exact hr
      simp only [mCat] at h9
      omega
  case invokevirtual k =>
    obtain ⟨mj, nn, hg, hv⟩ := mIvt_inv h
    have h1 : 1000 ≤ mj → Cond.methodLink (gOwn.getD (gO mi) "") k (gSpY mj) ∈ lwG := mSpec hg
    rcases hv with ⟨rfl, hv⟩ | ⟨rfl, hv⟩
    · obtain ⟨a, r, rfl, hd0, hr, ha0, ha1, hq⟩ := mSln_inv hv
      cases hq
      exact hstr.1 hx hb (hml.trans hl.1.symm) hown hts hS0 hS hbs (h1 (by decide)) (Nat.le_trans hd0 hfr) (by omega) ha0 ha1 (by rw [mCats]; exact hr) (by omega) (by omega) hdg (kk H locs ls cells slots rfl rfl X)
    · obtain ⟨j, a, r, rfl, hd0, hr, ha0, ha1, ho, hq⟩ := mSch_inv hv
      cases hq
      exact hstr.2 hx hb (hml.trans hl.1.symm) hown hts hS0 hS hbs (h1 (by decide)) (Nat.le_trans hd0 hfr) (by omega) ha0 ha1 ho (by rw [mCats]; exact hr) (by omega) (by omega) hdg (kk H locs ls cells slots rfl rfl X)
  all_goals exact absurd h (by simp [st1])
end STEP
