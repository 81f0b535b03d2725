/-! THE SMALL MACHINE IS SOUND: where it comes to an end, the JVM does, with the same world -/
theorem mPop_eq : ∀ {k : Nat} {st as r : List Value}, mPop k st = some (as, r) → st = as.reverse ++ r ∧ as.length = k
  | 0, st, as, r, h => by
    unfold mPop at h
    cases h
    exact ⟨rfl, rfl⟩
  | k + 1, [], as, r, h => by
    unfold mPop at h
    cases h
  | k + 1, v :: st, as, r, h => by
    unfold mPop at h
    split at h
    · rename_i as1 r1 h1
      cases h
      obtain ⟨h2, h3⟩ := mPop_eq h1
      refine ⟨?_, by rw [List.length_append, h3]; rfl⟩
      rw [h2, List.reverse_append]
      rfl
    · cases h
def mRetAt (mi pc : Nat) (v : Option Value) : Prop := (v = none ∧ decode (gMe mi).2.1 pc = .ok (.return_, 1) ∧ (gMe mi).2.2.2.1 = none) ∨ (∃ x, v = some (.int x) ∧ decode (gMe mi).2.1 pc = .ok (.ireturn, 1) ∧ ((gMe mi).2.2.2.1 = some .int ∨ ((gMe mi).2.2.2.1 = some .boolean ∧ (x = 0 ∨ x = 1)))) ∨ (∃ x, v = some (.long x) ∧ decode (gMe mi).2.1 pc = .ok (.lreturn, 1) ∧ (gMe mi).2.2.2.1 = some .long)
def mRm (d mc ms : Nat) : Room := { frames := d, cells := mc, slots := ms, locals := 60 * d }
def mPU (dC : Nat → ClassId) (dI : Nat → Nat → Nat) (cy : Nat → ClassId) (base b : Nat) (adK : Nat → Nat) (Sx : State → Prop) (w : mW) (U : State) : Prop := U.heap.size = base + w.1.length ∧ w.1.length ≤ 1000000 ∧ va_P (dC, dI) gCl (mWs cy (mAd base b adK) w) U.heap ∧ va_K (dC, dI) gCl (mTys cy) U ∧ Sx U
def mPc (dC : Nat → ClassId) (dI : Nat → Nat → Nat) (cy : Nat → ClassId) (base b : Nat) (adK : Nat → Nat) (Sx : State → Prop) (av : List Value) (w : mW) : Array Value → State → Prop := fun v U => v = av.toArray ∧ mPU dC dI cy base b adK Sx w U
def mQc (dC : Nat → ClassId) (dI : Nat → Nat → Nat) (cy : Nat → ClassId) (base b : Nat) (adK : Nat → Nat) (v : Option Value) (w' : mW) : Array Value → State → Outcome → State → Prop := fun _ st oc t => (oc = .returned (v.map (mCv (mAd base b adK))) ∧ t.heap.size = base + w'.1.length ∧ w'.1.length ≤ 1000000 ∧ va_P (dC, dI) gCl (mWs cy (mAd base b adK) w') t.heap) ∧ va_F (fun q => base ≤ q) st t
/-- from any frame at this point of the method: the end that the small machine comes to -/
def SND (l : Launch) (dC : Nat → ClassId) (dI : Nat → Nat → Nat) (cy : Nat → ClassId) (base b : Nat) (adK : Nat → Nat) (S : Nat × (Nat → Int32)) (Sx : State → Prop) (n : Nat) : Prop := ∀ (d mi pc : Nat) (Lo : mL) (st : List Value) (w w' : mW) (o : mO), mi < 253 → (gLw mi = true → mi = 0) → ex S n d mi pc Lo st w = some (o, w') → (w.1.length ≤ w'.1.length ∧ wZ w ≤ wZ w') ∧
  ∀ (p : Program) (e : Env) (R : Room) (s : State) (m : MethodId) (args : Array Value) (below : List Frame) (meth : Method) (c : Code) (H : Heap) (locs : List Loc) (cells slots : Nat) (Q : State → Prop) (ls : Array Slot), mFr dC dI cy base b S Sx d mi p R s m args meth c → mSt dC dI cy base b adK s mi Lo w H locs cells ls → cells + w'.1.length ≤ R.cells + w.1.length → slots + wZ w' ≤ R.slots + wZ w →
  (∀ v, o = some v → ∀ (pc' : Nat) (ls' : Array Slot) (H' : Heap) (locs' : List Loc) (cells' slots' : Nat), mRetAt mi pc' v → cells' + w.1.length = cells + w'.1.length → slots' + wZ w = slots + wZ w' → va_P (dC, dI) gCl (mWs cy (mAd base b adK) w') H' → va_S (fun q => base ≤ q) s.heap H' locs' → w'.1.length ≤ 1000000 → s.heap.size + cells' = base + w'.1.length → W p l e R s m args below meth c H' locs' cells' slots' Q (F0 m pc' ls' (v.map (mCv (mAd base b adK))).toList)) →
  (o = none → ∀ (pc' x : Nat) (ls' : Array Slot) (st' : List Value) (w0 : mW) (Lo0 : mL) (H' : Heap) (locs' : List Loc) (cells' slots' : Nat), w' = mNew w0 (0, 11) 6 → cod mi pc' = some (.new x, 3) → mLk gNew (gO mi) x = some 11 → w0.1.length < 1000000 → mCat st' ≤ 8 → cells' + w.1.length = cells + w0.1.length → slots' + wZ w = slots + wZ w0 → mSt dC dI cy base b adK s mi Lo0 w0 H' locs' cells' ls' → W p l e R s m args below meth c H' locs' cells' slots' Q (F0 m pc' ls' (st'.map (mCv (mAd base b adK))))) →
  W p l e R s m args below meth c H locs cells slots Q (F0 m pc ls (st.map (mCv (mAd base b adK))))
/-- the law's three helpers, as steps -/
def HELP (l : Launch) (dC : Nat → ClassId) (dI : Nat → Nat → Nat) (cy : Nat → ClassId) (base b : Nat) (adK : Nat → Nat) (S : Nat × (Nat → Int32)) (Sx : State → Prop) (n : Nat) : Prop := ∀ (d2 mj x0 q : Nat) (p0 p1 : Int32) (w w1 w2 : mW) (o : mO) (v : Int32), 246 ≤ mj → mj ≤ 248 → 6 ≤ d2 → (wS w)[q]? = some (4, 1) → (wS w)[x0]? = some (0, 9) → ex S n d2 (mHelp mj) 0 (mIni (gMe (mHelp mj)).2.2.1 [.ref x0, .int p0, .int p1]) [] w = some (o, w1) → ((∃ z, o = some (some (.int z)) ∧ v = 0 ∧ w2 = wsJ w1 (mSet (wJ w1) q 0 z.toInt64)) ∨ (o = none ∧ v = 1 ∧ w2 = w1)) →
  ∀ (p : Program) (e : Env) (R : Room) (s : State) (m : MethodId) (args : Array Value) (below : List Frame) (meth : Method) (c : Code) (H : Heap) (locs : List Loc) (cells slots : Nat) (Q : State → Prop) (ls : Array Slot) (d mi pc k : Nat) (Lo : mL) (r : List Value), d2 + 2 ≤ d → mFr dC dI cy base b S Sx d mi p R s m args meth c → mSt dC dI cy base b adK s mi Lo w H locs cells ls → cells + w1.1.length ≤ R.cells + w.1.length → slots + wZ w1 ≤ R.slots + wZ w → mCat r ≤ 8 → mLk gCall (gO mi) k = some (mj, 0) → decode (gMe mi).2.1 pc = .ok (.invokestatic k, 3) →
  (∀ (H1 : Heap) (locs1 : List Loc) (ls1 : Array Slot) (cells1 slots1 : Nat), cells1 + w.1.length = cells + w1.1.length → slots1 + wZ w = slots + wZ w1 → mSt dC dI cy base b adK s mi Lo w2 H1 locs1 cells1 ls1 → W p l e R s m args below meth c H1 locs1 cells1 slots1 Q (F0 m (pc + 3) ls1 ((Value.int v :: r).map (mCv (mAd base b adK))))) →
  W p l e R s m args below meth c H locs cells slots Q (F0 m pc ls ((.ref q :: .int p1 :: .int p0 :: .ref x0 :: r).map (mCv (mAd base b adK))))
section SNDS
variable {l : Launch} {dC : Nat → ClassId} {dI : Nat → Nat → Nat} {cy : Nat → ClassId} {base b : Nat} {adK : Nat → Nat} {S : Nat × (Nat → Int32)} {Sx : State → Prop}
set_option maxHeartbeats 1000000 in
theorem mMet (hSx : mSxOk base b adK Sx) {n d mj : Nat} {as : List Value} {w w' : mW} {v : Option Value} (hS : SND l dC dI cy base b adK S Sx n) (hj : mj < 253) (hlw : gLw mj = false) (hx : ex S n d mj 0 (mIni (gMe mj).2.2.1 as) [] w = some (some v, w')) (hlen : (mArg as).length ≤ (gMe mj).2.2.1) :
    Met l (gMe mj).1 (Cond.code (gMe mj).1 (gMe mj).2.1 (gMe mj).2.2.1 (gMe mj).2.2.2.1 :: lwG) (mRm d (w'.1.length - w.1.length) (wZ w' - wZ w)) (mPc dC dI cy base b adK Sx (as.map (mCv (mAd base b adK))) w) (mQc dC dI cy base b adK v w') (w'.1.length - w.1.length) (wZ w' - wZ w) (fun q => base ≤ q) := by
  obtain ⟨k1, k2, k3, k4, k5, k6, k7, k8, k9, k10⟩ := gM_ok hj hlw
  have hne : mj ≠ 0 := by
    intro z
    subst z
    cases hlw
  refine Met.ofW (cc := (gMe mj).2.1) (maxL := (gMe mj).2.2.1) (ret := (gMe mj).2.2.2.1) k8 rfl ?_
  intro p e s m args below meth c s₁ B hml hv
  obtain ⟨rfl, hsz, hN, hP, hK, hSx1⟩ := hv
  obtain ⟨⟨hm1, hm2⟩, hgo⟩ := hS d mj 0 (mIni (gMe mj).2.2.1 as) [] w w' (some v) hj (fun z => absurd (z.symm.trans hlw) (by decide)) hx
  rw [lg_entry_eq]
  have hr := B.returns
  have hlocks := B.notSynchronized
  refine hgo p e _ s m _ below meth c s.heap [] 0 0 _ _ ⟨B.exec, B.bytes, hml, ?_, ?_, hK, hSx1, ?_, ⟨Nat.le_refl d, Nat.le_refl (60 * d)⟩, by omega, fun z => absurd z hne⟩ ⟨by omega, hN, hP, va_S.rf, mIni_has hlen, mIni_len hlen⟩ ?_ ?_ ?_ (fun z => by cases z)
  · rw [← k9]
    exact findClass_of_methodNamed B.named
  · intro q hq
    exact atoms_spec (ws := Cond.code (gMe mj).1 (gMe mj).2.1 (gMe mj).2.2.1 (gMe mj).2.2.2.1 :: lwG) B.pre q (List.mem_cons_of_mem _ hq)
  · intro z
    rw [(name_of_methodNamed B.named B.method).1]
    exact (k6 z).1
  · show 0 + w'.1.length ≤ (w'.1.length - w.1.length) + w.1.length
    omega
  · show 0 + wZ w' ≤ (wZ w' - wZ w) + wZ w
    omega
  · intro v1 hv1 pc' ls' H' locs' cells' slots' hra hc1 hc2 hP1 hS1 hN1 hE1
    cases hv1
    have hc3 : cells' = w'.1.length - w.1.length := by omega
    have hc4 : slots' = wZ w' - wZ w := by omega
    subst hc3
    subst hc4
    refine mW_sz (fun hsz1 => ?_)
    have hlo := mSize hN1 (Nat.le_trans (by omega : base ≤ s.heap.size) hS1.1) hP1
    have hH : H'.size = base + w'.1.length := by omega
    have hq : ∀ t : State, t.heap = H' → s.WarmedH t.vm → mQc dC dI cy base b adK v w' (as.map (mCv (mAd base b adK))).toArray s (.returned (v.map (mCv (mAd base b adK)))) t := fun t ht hW => ⟨⟨rfl, by rw [ht]; exact hH, hN1, by rw [ht]; exact hP1⟩, hS1.F ht⟩
    rcases hra with ⟨rfl, hdg, hrt⟩ | ⟨x, rfl, hdg, hrt⟩ | ⟨x, rfl, hdg, hrt⟩
    · exact W.vret B.exec B.bytes (hr.trans hrt) hq hS1.2.2 hdg hlocks
    · rcases hrt with hrt | ⟨hrt, hx01⟩
      · exact W.iret B.exec B.bytes (hr.trans hrt) hq hS1.2.2 hdg hlocks
      · refine W.zret (ty := .boolean) B.exec B.bytes (hr.trans hrt) ?_ hq hS1.2.2 hdg hlocks
        rcases hx01 with rfl | rfl <;> rfl
    · exact W.lret B.exec B.bytes (hr.trans hrt) hq hS1.2.2 hdg hlocks
variable {p : Program} {e : Env} {R : Room} {s : State} {m : MethodId} {args : Array Value} {below : List Frame} {meth : Method} {c : Code} {H : Heap} {locs : List Loc} {cells slots : Nat} {Q : State → Prop} {d mi pc : Nat} {Lo Lo1 : mL} {ls : Array Slot} {st st1' : List Value} {w w1 : mW}
theorem mCall {v : Option Value} {w' : mW} {mc ms : Nat} {st0 rest : List Value} {a : Array Value} (hr : va_Run p l e R s m args below meth c H locs cells slots mc ms (F0 m pc ls st0) rest (mQc dC dI cy base b adK v w' a) (fun q => base ≤ q)) (hS : va_S (fun q => base ≤ q) s.heap H locs)
    (kk : ∀ (H1 : Heap) (locs1 : List Loc), w'.1.length ≤ 1000000 → va_P (dC, dI) gCl (mWs cy (mAd base b adK) w') H1 → va_S (fun q => base ≤ q) s.heap H1 locs1 → W p l e R s m args below meth c H1 locs1 (cells + mc) (slots + ms) Q (F0 m (pc + 3) ls ((v.map (mCv (mAd base b adK))).toList ++ rest))) : W p l e R s m args below meth c H locs cells slots Q (F0 m pc ls st0) := by
  intro T hT X
  obtain ⟨v9, st₀, t, T', L, h0, X', hL, e1, e2, ⟨⟨hv, hz1, hN, hP⟩, hz, hk⟩, st⟩ := hr T hT X
  cases hv
  rw [h0] at hz hk
  obtain ⟨t2, a1, b1⟩ := kk T'.heap (locs ++ L) hN (by rw [e1]; exact hP) ⟨Nat.le_trans hS.1 (by rw [e1]; exact hz), fun q h1 h2 => by rw [e1, hk q (Nat.lt_of_lt_of_le h1 hS.1) h2]; exact hS.2.1 q h1 h2, fun q hq => by
      rcases List.mem_append.mp hq with h | h
      · exact hS.2.2 q h
      · exact hL q h⟩ T' rfl X'
  exact ⟨t2, st t2 a1, b1⟩
/-- the start that a callee asks for -/
theorem mPre (hSx : mSxOk base b adK Sx) (F : mFr dC dI cy base b S Sx d mi p R s m args meth c) (X : mSt dC dI cy base b adK s mi Lo w H locs cells ls) (hH : H.size = base + w.1.length) (av : List Value) : FrameBlind (mPc dC dI cy base b adK Sx av w) ∧ ∀ U : State, U.heap = H → s.WarmedH U.vm → mPc dC dI cy base b adK Sx av w av.toArray U := by
  obtain ⟨hx, hb, hml, hown, hts, hK, hS0, hin, ⟨hfr, hlo⟩, hbs, hscr⟩ := F
  obtain ⟨hE, hN, hP, hS, hl, hLo⟩ := X
  refine ⟨fun a U g mk q => ⟨q.1, q.2.1, q.2.2.1, q.2.2.2.1, va_K.moved (u := U) (U := U.calling g mk a) (Vm.Alike.refl U.vm) q.2.2.2.2.1, hSx.2.2.2.2 U g mk a q.2.2.2.2.2⟩, fun U hU hW => ⟨rfl, by rw [hU]; exact hH, hN, by rw [hU]; exact hP, va_K.moved hW.alike hK, hSx.2.2.2.1 s U H locs hS0 hS hbs hU hW⟩⟩
theorem gGood {mj : Nat} (k1 : Cond.code (gMe mj).1 (gMe mj).2.1 (gMe mj).2.2.1 (gMe mj).2.2.2.1 ∈ lw_tbl) : GoodIn lwG (Cond.code (gMe mj).1 (gMe mj).2.1 (gMe mj).2.2.1 (gMe mj).2.2.2.1 :: lwG) := by
  intro w hw
  rcases List.mem_cons.mp hw with rfl | hw
  · exact ⟨lwG_in k1 rfl, good_of_word rfl⟩
  · exact ⟨hw, good_of_word (lwG_good hw)⟩
theorem gGoodA {A B : List Cond} (hA : ∀ w ∈ A, w ∈ lwG) (hB : GoodIn lwG B) : GoodIn lwG (A ++ B) := by
  intro w hw
  rcases List.mem_append.mp hw with hw | hw
  · exact ⟨hA w hw, good_of_word (lwG_good (hA w hw))⟩
  · exact hB w hw
end SNDS
