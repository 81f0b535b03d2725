section
section SEGW
variable {l : Launch} {dC : Nat → ClassId} {dI : Nat → Nat → Nat} {cy : Nat → ClassId} {base b : Nat} {adK : Nat → Nat} {S : Nat × (Nat → Int32)} {Sx : State → Prop}
variable {p : Program} {e : Env} {R : Room} {s : State} {m : MethodId} {args : Array Value} {below : List Frame} {meth : Method} {c : Code} {Q : State → Prop} {d mi : Nat}
/-- a straight stretch in any frame -/
theorem mSegW (hSx : mSxOk base b adK Sx) (hstr : mStrOk l base b adK Sx) {C : List (Nat × Instr × Nat)} {pc1 : Nat} {Lo1 : mL} {st1' : List Value} {w1 : mW} (hmi : mi < 253) (hC : gCs.getD mi [] = C) : ∀ (k : Nat) {pc : Nat} {Lo : mL} {st : List Value} {w : mW} {H : Heap} {locs : List Loc} {cells slots : Nat} {ls : Array Slot}, stN S d mi C k pc Lo st w = some (pc1, Lo1, st1', w1) → mFr dC dI cy base b S Sx d mi p R s m args meth c → mSt dC dI cy base b adK s mi Lo w H locs cells ls → cells + w1.1.length ≤ R.cells + w.1.length → slots + wZ w1 ≤ R.slots + wZ w →
    (∀ (H1 : Heap) (locs1 : List Loc) (ls1 : Array Slot) (cells1 slots1 : Nat), cells1 + w.1.length = cells + w1.1.length → slots1 + wZ w = slots + wZ w1 → mSt dC dI cy base b adK s mi Lo1 w1 H1 locs1 cells1 ls1 → W p l e R s m args below meth c H1 locs1 cells1 slots1 Q (F0 m pc1 ls1 (st1'.map (mCv (mAd base b adK))))) →
    W p l e R s m args below meth c H locs cells slots Q (F0 m pc ls (st.map (mCv (mAd base b adK)))) := by
  have mono : ∀ (k : Nat) {pc : Nat} {Lo : mL} {st : List Value} {w : mW}, stN S d mi C k pc Lo st w = some (pc1, Lo1, st1', w1) → w.1.length ≤ w1.1.length ∧ wZ w ≤ wZ w1 := by
    intro k
    induction k with
    | zero => intro pc Lo st w h; cases h; exact ⟨Nat.le_refl _, Nat.le_refl _⟩
    | succ k ih =>
      intro pc Lo st w h
      unfold stN at h
      split at h
      · split at h
        · rename_i hs
          have h1 := st1_mono hs
          have h2 := ih h
          exact ⟨Nat.le_trans h1.1 h2.1, Nat.le_trans h1.2 h2.2⟩
        · split at h
          · exact ih h
          · cases h
      · cases h
  intro k
  induction k with
  | zero =>
    intro pc Lo st w H locs cells slots ls h F X hc hz kk
    cases h
    exact kk H locs ls cells slots rfl rfl X
  | succ k ih =>
    intro pc Lo st w H locs cells slots ls h F X hc hz kk
    unfold stN at h
    split at h
    · rename_i i len hf
      have hcod : cod mi pc = some (i, len) := by unfold cod; rw [hC]; exact hf
      obtain ⟨hdec, hfwd, hlen⟩ := gD_at hmi hcod
      split at h
      · rename_i Lo2 st2 w2 hs
        have m1 := st1_mono hs
        have m2 := mono k h
        have hl9 : mLen i = len := by
          rcases hlen with h | h
          · exact h
          · exfalso
            cases i <;> simp only [mLen] at h <;> first | omega | (exact absurd hs (by simp [st1]))
        subst hl9
        refine mStep hSx hstr hdec F X hs (by omega) (by omega) (fun H1 locs1 ls1 cells1 slots1 e1 e2 X1 => ?_)
        exact ih h F X1 (by omega) (by omega) (fun H3 locs3 ls3 cells3 slots3 e3 e4 X3 => kk H3 locs3 ls3 cells3 slots3 (by omega) (by omega) X3)
      · split at h
        · rename_i off hs
          have hl9 : len = 3 := by rcases hlen with h | h <;> simp only [mLen] at h <;> omega
          subst hl9
          exact lv_goto F.1 F.2.1 hdec (mTgt_ok hfwd) (ih h F X hc hz kk)
        · cases h
    · cases h
/-- the end of a helper -/
theorem hEnd {Lo : mL} {w2 w1 w : mW} {H : Heap} {locs : List Loc} {cells slots pc : Nat} {ls : Array Slot} {v : Int32} {cc : ByteArray} (hcc : (gMe mi).2.1 = cc) (hc : cells = w1.1.length - w.1.length) (hz : slots = wZ w1 - wZ w) (F : mFr dC dI cy base b S Sx d mi p R s m args meth c) (X : mSt dC dI cy base b adK s mi Lo w2 H locs cells ls) (hr : meth.sig.returnType = some .int) (hlocks : meth.locks = false) (hdg : decode (gMe mi).2.1 pc = .ok (.ireturn, 1)) :
    W p l e R s m args below meth c H locs cells slots (MQ below (mQc dC dI cy base b adK (some (.int v)) w2) args s (w1.1.length - w.1.length) (wZ w1 - wZ w) (fun q => base ≤ q)) (F0 m pc ls (([.int v] : List Value).map (mCv (mAd base b adK)))) := by
  subst hc
  subst hz
  obtain ⟨hE, hN, hP, hS, hl, hLo⟩ := X
  refine mW_sz (fun hsz => ?_)
  have hlo := mSize hN (Nat.le_trans F.2.2.2.2.2.2.2.2.2.1 hS.1) hP
  exact W.iret F.1 F.2.1 hr (fun t ht hW => ⟨⟨rfl, by rw [ht]; omega, hN, by rw [ht]; exact hP⟩, hS.F ht⟩) hS.2.2 hdg hlocks
end SEGW
section HELPS
variable {l : Launch} {dC : Nat → ClassId} {dI : Nat → Nat → Nat} {cy : Nat → ClassId} {base b : Nat} {adK adV : Nat → Nat} {S : Nat × (Nat → Int32)}
def mXC (dC : Nat → ClassId) (dI : Nat → Nat → Nat) (cy : Nat → ClassId) (base b : Nat) (adK : Nat → Nat) (w' : mW) : String → State → State → Prop := fun E st t => E = exN ∧ t.heap.size = base + w'.1.length ∧ w'.1.length ≤ 1000000 ∧ va_P (dC, dI) gCl (mWs cy (mAd base b adK) w') t.heap ∧ va_F (fun q => base ≤ q) st t
set_option maxHeartbeats 1000000 in
/-- a method that throws -/
theorem mMetT (hl : l.stackTraces = false) {n d mj : Nat} {as : List Value} {w w' : mW} (hS : SND l dC dI cy base b adK S (SxD base b adK adV (ExE base)) n) (hj : mj = 103 ∨ mj = 108 ∨ mj = 124) (hx : ex S n d mj 0 (mIni (gMe mj).2.2.1 as) [] w = some (none, w')) (hlen : (mArg as).length ≤ (gMe mj).2.2.1) (hd : 6 ≤ d) :
    vx_Met l (gMe mj).1 (Cond.code (gMe mj).1 (gMe mj).2.1 (gMe mj).2.2.1 (gMe mj).2.2.2.1 :: lwG) (mRm d (w'.1.length - w.1.length) (wZ w' - wZ w)) (mPc dC dI cy base b adK (SxD base b adK adV (ExE base)) (as.map (mCv (mAd base b adK))) w) (fun _ _ _ _ => False) (mXC dC dI cy base b adK w') (w'.1.length - w.1.length) (wZ w' - wZ w) (fun q => base ≤ q) := by
  have hj253 : mj < 253 := by omega
  have hlw : gLw mj = false := by rcases hj with rfl | rfl | rfl <;> rfl
  have hne : mj ≠ 0 := by omega
  have hcls : (gMe mj).1.cls = "HouseClaps" := by rcases hj with rfl | rfl | rfl <;> rfl
  obtain ⟨k1, k2, k3, k4, k5, k6, k7, k8, k9, k10⟩ := gM_ok hj253 hlw
  refine vx_ofW (cc := (gMe mj).2.1) (maxL := (gMe mj).2.2.1) (ret := (gMe mj).2.2.2.1) k8 rfl ?_
  intro p e s m args below meth c s₁ B hml hexc hv
  obtain ⟨rfl, hsz, hN, hP, hK, hSx1⟩ := hv
  obtain ⟨⟨hm1, hm2⟩, hgo⟩ := hS d mj 0 (mIni (gMe mj).2.2.1 as) [] w w' none hj253 (fun z => absurd (z.symm.trans hlw) (by decide)) hx
  rw [lg_entry_eq]
  have hlocks := B.notSynchronized
  have hts : ∀ q ∈ lwG, q.before _ s = true := fun q hq => atoms_spec (ws := Cond.code (gMe mj).1 (gMe mj).2.1 (gMe mj).2.2.1 (gMe mj).2.2.2.1 :: lwG) B.pre q (List.mem_cons_of_mem _ hq)
  have hown : s.vm.findClass (gMe mj).1.cls = some m.cls := findClass_of_methodNamed B.named
  refine hgo p e _ s m _ below meth c s.heap [] 0 0 _ _ ⟨B.exec, B.bytes, hml, by rw [← k9]; exact hown, hts, hK, hSx1, ?_, ⟨Nat.le_refl d, Nat.le_refl (60 * d)⟩, by omega, fun z => absurd z hne⟩ ⟨by omega, hN, hP, va_S.rf, mIni_has hlen, mIni_len hlen⟩ ?_ ?_ (fun v hv => by cases hv) ?_
  · intro z
    rw [(name_of_methodNamed B.named B.method).1]
    exact (k6 z).1
  · show 0 + w'.1.length ≤ (w'.1.length - w.1.length) + w.1.length
    omega
  · show 0 + wZ w' ≤ (wZ w' - wZ w) + wZ w
    omega
  · intro _ pc' x ls' st' w0 Lo0 H' locs' cells' slots' q1 q2 q3 q4 q8 q5 q6 q7
    obtain ⟨rfl, c3, c4, c7⟩ := exAt mj hj pc' x q2
    obtain ⟨hE', hN', hP', hS', hl', hLo'⟩ := q7
    subst q1
    have hw1 : (mNew w0 (0, 11) 6).1.length = w0.1.length + 1 := by
      show (w0.1 ++ _).length = _
      rw [List.length_append, List.length_singleton]
    have hw2 : wZ (mNew w0 (0, 11) 6) = wZ w0 + 6 := rfl
    refine mW_sz (fun hsz1 => ?_)
    have hlo' := mSize hN' (Nat.le_trans (by omega : base ≤ s.heap.size) hS'.1) hP'
    have hH' : H'.size = base + w0.1.length := by omega
    have h8 : mCat (st'.map (mCv (mAd base b adK))) ≤ 8 := by rw [mCats]; exact q8
    simp only [mCat] at h8
    refine xx_throw (own := "HouseClaps") (cls := exN) (names := exS) (ik := 132) (ic := 134) (A := fun q => base ≤ q) B.exec B.bytes hl (by rw [← hcls]; exact hown) (by decide +kernel) (by decide +kernel) (hts _ exK) (hts _ exI) (ExE_words hts hSx1.2.2.2.2.2.2) exL_ot hSx1.2.2.2.2.2.2.1 hSx1.2.2.2.2.2.2.2.1 hS' (hl'.1.trans hml.symm) (gD_at hj253 q2).1 (gD_at hj253 c3).1 (gD_at hj253 c4).1 (gD_at hj253 c7).1 (fun x hx => (hexc x hx).elim) (by show 2 + 3 < d; omega) (by show _ + (13 * (2 + 1) + 42) ≤ 60 * d; omega) (by show cells' + 1 ≤ (mNew w0 (0, 11) 6).1.length - w.1.length; omega) (by show slots' + 6 ≤ wZ (mNew w0 (0, 11) 6) - wZ w; omega) hlocks ?_ hS'.2.2 (by omega) (by omega)
    intro t ce ha hsz2 hsm hce hcv hcl
    refine ⟨rfl, by rw [hw1]; omega, by rw [hw1]; omega, ?_, ?_⟩
    · have hcell : mCell cy (mAd base b adK) (mNew w0 (0, 11) 6) w0.1.length = .inr (11, []) := by
        rw [mCell_o mNew_sh]
        rfl
      rw [← mWs_new (q := (0, 11)) (n := 6) hcell]
      refine (hP'.kept (fun k q hk => hsm q.1 ((hP' k q hk).lt))).app (fun k q hk => ?_)
      have hz : k < 1 := (List.getElem?_eq_some_iff.mp hk).1
      rw [show k = 0 by omega] at hk
      cases hk
      have hcC : s.vm.findClass exN = some (dC 11) := (hK.1 11 (gc 11) rfl).2.1
      have hcc : ce.cls = dC 11 := Option.some.inj (hcl.symm.trans hcC)
      refine ⟨gc 11, rfl, ce, ?_, hcc, hcv, fun k hk => absurd hk (Nat.not_lt_zero k)⟩
      show t.heap[mAd base b adK w0.1.length]? = some ce
      rw [mAd_lt q4, ← hH']
      exact hce
    · exact ⟨by have := hS'.1; omega, fun q hq hA => by rw [hsm q (Nat.lt_of_lt_of_le hq hS'.1)]; exact hS'.2.1 q hq hA⟩
variable {p : Program} {e : Env} {R : Room} {s : State} {m : MethodId} {args : Array Value} {below : List Frame} {meth : Method} {c : Code} {H : Heap} {locs : List Loc} {cells slots : Nat} {Q : State → Prop} {pc : Nat} {ls : Array Slot}
theorem mCallT {w' : mW} {mc ms : Nat} {st0 rest : List Value} (hr : vx_Run p l e R s m args below meth c H locs cells slots mc ms (F0 m pc ls st0) rest (fun _ _ _ => False) (mXC dC dI cy base b adK w') (fun q => base ≤ q)) (hS : va_S (fun q => base ≤ q) s.heap H locs)
    (kx : ∀ (ce : Cell) (q9 : Addr) (H1 : Heap) (locs1 : List Loc), w'.1.length ≤ 1000000 → va_P (dC, dI) gCl (mWs cy (mAd base b adK) w') H1 → va_S (fun q => base ≤ q) s.heap H1 locs1 → H1[q9]? = some ce → ce.vm = .none → s.vm.findClass exN = some ce.cls → vx_W p l e R s m args below meth c H1 locs1 (cells + mc) (slots + ms) Q (F0 m pc ls rest) q9) : W p l e R s m args below meth c H locs cells slots Q (F0 m pc ls st0) := by
  intro T hT X
  rcases hr T hT X with ⟨v, st₀, t, T', L, h0, X', hL, e1, e2, hF, st⟩ | ⟨q, st₀, t, T', L, E, ce, h0, X', hL, e1, e2, ⟨rfl, hz1, hN, hP, hz, hk⟩, hce, hcv, hcl, st⟩
  · exact hF.elim
  · rw [h0] at hz hk
    obtain ⟨t2, a1, b1⟩ := kx ce q T'.heap (locs ++ L) hN (by rw [e1]; exact hP) ⟨Nat.le_trans hS.1 (by rw [e1]; exact hz), fun q h1 h2 => by rw [e1, hk q (Nat.lt_of_lt_of_le h1 hS.1) h2]; exact hS.2.1 q h1 h2, fun q hq => by
        rcases List.mem_append.mp hq with h | h
        · exact hS.2.2 q h
        · exact hL q h⟩ (by rw [e1]; exact hce) hcv hcl T' rfl X'
    exact ⟨t2, st.trans a1, b1⟩
theorem hw_246 : Cond.codeWith yL_seat cL_seat 5 (some .int) [(0, 10, 13, 13)] ∈ lwG := lwG_in (gTb5 (p := 144) rfl) rfl
theorem hs_246 : Cond.static yL_seat ∈ lwG := lwG_in (gTb5 (p := 143) rfl) rfl
set_option maxHeartbeats 2000000 in
set_option maxRecDepth 20000 in
theorem hm_246 (hl : l.stackTraces = false) {n d2 x0 q : Nat} {p0 p1 : Int32} {w w1 w2 : mW} {o : mO} {v : Int32} (hS : SND l dC dI cy base b adK S (SxD base b adK adV (ExE base)) n) (hd : 6 ≤ d2) (hq : (wS w)[q]? = some (4, 1)) (hx0 : (wS w)[x0]? = some (0, 9)) (hx : ex S n d2 103 0 (mIni (gMe 103).2.2.1 [.ref x0, .int p0, .int p1]) [] w = some (o, w1)) (ho : (∃ z, o = some (some (.int z)) ∧ v = 0 ∧ w2 = wsJ w1 (mSet (wJ w1) q 0 z.toInt64)) ∨ (o = none ∧ v = 1 ∧ w2 = w1)) :
    Met l yL_seat (Cond.codeWith yL_seat cL_seat 5 (some .int) [(0, 10, 13, 13)] :: lwG) (mRm (d2 + 1) (w1.1.length - w.1.length) (wZ w1 - wZ w)) (mPc dC dI cy base b adK (SxD base b adK adV (ExE base)) [.ref (mAd base b adK x0), .int p0, .int p1, .ref (mAd base b adK q)] w) (mQc dC dI cy base b adK (some (.int v)) w2) (w1.1.length - w.1.length) (wZ w1 - wZ w) (fun q => base ≤ q) := by
  have hSx := SxD_ok (b := b) (adK := adK) (adV := adV) (ExE_keeps (base := base))
  have hstr := SxD_str (b := b) (adK := adK) (adV := adV) (ExE_keeps (base := base)) l
  have hlw : gLw 103 = false := rfl
  have hj : (103 : Nat) < 253 := by decide
  obtain ⟨k1, k2, k3, k4, k5, k6, k7, k8, k9, k10⟩ := gM_ok hj hlw
  obtain ⟨⟨c1, c2⟩, -⟩ := hS d2 103 0 _ [] w w1 _ hj (fun z => absurd (z.symm.trans hlw) (by decide)) hx
  refine va_MetW (cc := cL_seat) (maxL := 5) (ret := some .int) (by decide +kernel) rfl ?_
  intro p e s m args below meth c s₁ B hml hv
  obtain ⟨rfl, hsz, hN, hP, hK, hSx1⟩ := hv
  have hr := B.returns
  have hlocks := B.notSynchronized
  have hts : ∀ z ∈ lwG, z.before _ s = true := fun z hz => atoms_spec (ws := Cond.codeWith yL_seat cL_seat 5 (some .int) [(0, 10, 13, 13)] :: lwG) B.pre z (List.mem_cons_of_mem _ hz)
  have hown : s.vm.findClass RL = some m.cls := findClass_of_methodNamed B.named
  have htab := vx_table (x := yL_seat) B (hts _ hw_246)
  refine W.eq (lg_entry_eq m ([.ref (mAd base b adK x0), .int p0, .int p1, .ref (mAd base b adK q)] : List Value) 5) ?_
  have hlen : (mArg [.ref x0, .int p0, .int p1, .ref q]).length ≤ 5 := Nat.le_of_ble_eq_true rfl
  have hl0 := mIni_has (ad := mAd base b adK) (ml := 5) (as := [.ref x0, .int p0, .int p1, .ref q]) hlen
  have F : mFr dC dI cy base b S (SxD base b adK adV (ExE base)) (d2 + 1) 246 p (headSpec (Cond.codeWith yL_seat cL_seat 5 (some .int) [(0, 10, 13, 13)] :: lwG) (mRm (d2 + 1) (w1.1.length - w.1.length) (wZ w1 - wZ w))).room s m _ meth c := ⟨B.exec, B.bytes, hml, hown, hts, hK, hSx1, fun z => absurd z (by decide), ⟨Nat.le_refl _, Nat.le_refl _⟩, by omega, fun z => absurd z (by decide)⟩
  have X : mSt dC dI cy base b adK s 246 (mIni 5 [.ref x0, .int p0, .int p1, .ref q]) w s.heap [] 0 ((lg_sl ([.ref (mAd base b adK x0), .int p0, .int p1, .ref (mAd base b adK q)] : List Value) ++ List.replicate (5 - (lg_sl ([.ref (mAd base b adK x0), .int p0, .int p1, .ref (mAd base b adK q)] : List Value)).length) Slot.unset).toArray) := ⟨by omega, hN, hP, va_S.rf, hl0, rfl⟩
  have hR1 : (headSpec (Cond.codeWith yL_seat cL_seat 5 (some .int) [(0, 10, 13, 13)] :: lwG) (mRm (d2 + 1) (w1.1.length - w.1.length) (wZ w1 - wZ w))).room.cells = w1.1.length - w.1.length := rfl
  have hR2 : (headSpec (Cond.codeWith yL_seat cL_seat 5 (some .int) [(0, 10, 13, 13)] :: lwG) (mRm (d2 + 1) (w1.1.length - w.1.length) (wZ w1 - wZ w))).room.slots = wZ w1 - wZ w := rfl
  have hR3 : (headSpec (Cond.codeWith yL_seat cL_seat 5 (some .int) [(0, 10, 13, 13)] :: lwG) (mRm (d2 + 1) (w1.1.length - w.1.length) (wZ w1 - wZ w))).room.frames = d2 + 1 := rfl
  have hR4 : (headSpec (Cond.codeWith yL_seat cL_seat 5 (some .int) [(0, 10, 13, 13)] :: lwG) (mRm (d2 + 1) (w1.1.length - w.1.length) (wZ w1 - wZ w))).room.locals = 60 * (d2 + 1) := rfl
  generalize (headSpec (Cond.codeWith yL_seat cL_seat 5 (some .int) [(0, 10, 13, 13)] :: lwG) (mRm (d2 + 1) (w1.1.length - w.1.length) (wZ w1 - wZ w))).room = RR9 at F hR1 hR2 hR3 hR4 ⊢
  show W p l e RR9 s m _ below meth c s.heap [] 0 0 _ (F0 m 0 _ (([] : List Value).map (mCv (mAd base b adK))))
  refine mSegW hSx hstr (C := gC246) (pc1 := 5) (Lo1 := [some (.ref x0), some (.int p0), some (.int p1), some (.ref q), none]) (st1' := [.int p1, .int p0, .ref x0, .int 0, .ref q]) (w1 := w) (by decide) rfl 5 (pc := 0) (st := []) (w := w) rfl F X (by omega) (by omega) (fun H1 locs1 ls1 cells1 slots1 e1 e2 X1 => ?_)
  have e1 : cells1 = 0 := by omega
  have e2 : slots1 = 0 := by omega
  subst e1
  subst e2
  obtain ⟨xE, xN, xP, xS, xl, xLo⟩ := id X1
  have hdec : decode cL_seat 5 = .ok (.invokevirtual 7, 3) := (gD_at (mi := 246) (by decide) rfl).1
  refine mW_sz (fun hszH => ?_)
  have hH : H1.size = base + w.1.length := by
    have := mSize xN (Nat.le_trans (by omega : base ≤ s.heap.size) xS.1) xP
    omega
  have hpre := mPre hSx F X1 hH [.ref (mAd base b adK x0), .int p0, .int p1]
  have hsel := k5 rfl
  have hgood : GoodIn lwG (wsV RL 7 (gMe 103).1.cls (gMe 103).1 (Cond.code (gMe 103).1 (gMe 103).2.1 (gMe 103).2.2.1 (gMe 103).2.2.2.1 :: lwG)) := by
    refine gGoodA (fun z hz => ?_) (gGood k1)
    simp only [List.mem_cons, List.not_mem_nil, or_false] at hz
    rcases hz with rfl | rfl | rfl | rfl
    · rcases (gC_ok (o := 11) (x := 7) (mj := 103) (nn := 0) rfl).1 with ⟨-, h1⟩ | ⟨h0, -⟩
      · exact h1
      · cases h0
    · exact lwG_in (k4 (by decide)) rfl
    · exact lwG_in hsel.1 rfl
    · exact lwG_in k2 rfl
  have hrc := va_recv (a := mAd base b adK x0) F.2.2.2.2.2.1 xP (gOkAll 9 (by decide)).2.2.2.2.2.2.2.2.2 (q0 := x0) (by rw [mWs_get (mSh hx0).1, mCell_o hx0])
  rcases ho with ⟨z, rfl, rfl, rfl⟩ | ⟨rfl, rfl, hw2⟩
  · have hM := mMet (as := [.ref x0, .int p0, .int p1]) hSx hS hj hlw hx (Nat.le_of_ble_eq_true rfl)
    refine mCall (mc := w1.1.length - w.1.length) (ms := wZ w1 - wZ w) (va_runV (C := (gMe 103).1.cls) (Ts := lwG) (own := RL) (index := 7) (b := mAd base b adK x0) (As := [.int p0, .int p1]) (rest := [.int 0, .ref (mAd base b adK q)]) ⟨F.1, F.2.1, F.2.2.1, F.2.2.2.1, hts⟩ hM (cwV 2 hts hgood rfl rfl rfl ⟨rfl, k7⟩ ⟨by show d2 + 1 ≤ RR9.frames; omega, by show 8 + (3 + 11) + 60 * d2 ≤ RR9.locals; omega⟩) ⟨hpre.1, hrc, hpre.2⟩ rfl rfl xl.1 rfl (lv_room (Nat.le_of_ble_eq_true rfl)) hdec ⟨by omega, by omega⟩) xS (fun H2 locs2 n2 p2 s2 => ?_)
    have hq1 : (wS w1)[q]? = some (4, 1) := ex_shape hx hq
    have X2 : mSt dC dI cy base b adK s 246 [some (.ref x0), some (.int p0), some (.int p1), some (.ref q), none] w1 H2 locs2 (0 + (w1.1.length - w.1.length)) ls1 := ⟨by omega, n2, p2, s2, xl, rfl⟩
    show W p l e RR9 s m _ below meth c H2 locs2 _ _ _ (F0 m 8 ls1 (([.int z, .int 0, .ref q] : List Value).map (mCv (mAd base b adK))))
    refine mSegW hSx hstr (C := gC246) (pc1 := 9) (Lo1 := [some (.ref x0), some (.int p0), some (.int p1), some (.ref q), none]) (st1' := [.long z.toInt64, .int 0, .ref q]) (w1 := w1) (by decide) rfl 1 (w := w1) rfl F X2 (by omega) (by omega) (fun H3 locs3 ls3 cells3 slots3 e3 e4 X3 => ?_)
    have hst0 : mLas [some (.ref x0), some (.int p0), some (.int p1), some (.ref q), none] [.long z.toInt64, .int 0, .ref q] w1 = some ([some (.ref x0), some (.int p0), some (.int p1), some (.ref q), none], [], wsJ w1 (mSet (wJ w1) q 0 z.toInt64)) := by
      unfold mLas
      dsimp only
      rw [hq1]
      rfl
    have hst : st1 S (d2 + 1) 246 .lastore [some (.ref x0), some (.int p0), some (.int p1), some (.ref q), none] [.long z.toInt64, .int 0, .ref q] w1 = some ([some (.ref x0), some (.int p0), some (.int p1), some (.ref q), none], [], wsJ w1 (mSet (wJ w1) q 0 z.toInt64)) := by
      unfold st1
      exact hst0
    refine mStep hSx hstr (i := .lastore) (gD_at (mi := 246) (pc := 9) (by decide) rfl).1 F X3 hst (by show cells3 + w1.1.length ≤ RR9.cells + w1.1.length; omega) (by show slots3 + wZ w1 ≤ RR9.slots + wZ w1; omega) (fun H4 locs4 ls4 cells4 slots4 e5 e6 X4 => ?_)
    have e5 : cells4 + w1.1.length = cells3 + w1.1.length := e5
    have e6 : slots4 + wZ w1 = slots3 + wZ w1 := e6
    refine mSegW hSx hstr (C := gC246) (pc1 := 18) (Lo1 := [some (.ref x0), some (.int p0), some (.int p1), some (.ref q), none]) (st1' := [.int 0]) (w1 := wsJ w1 (mSet (wJ w1) q 0 z.toInt64)) (by decide) rfl 2 (w := wsJ w1 (mSet (wJ w1) q 0 z.toInt64)) rfl F X4 (by show cells4 + w1.1.length ≤ RR9.cells + w1.1.length; omega) (by show slots4 + wZ w1 ≤ RR9.slots + wZ w1; omega) (fun H5 locs5 ls5 cells5 slots5 e7 e8 X5 => ?_)
    have e7 : cells5 + w1.1.length = cells4 + w1.1.length := e7
    have e8 : slots5 + wZ w1 = slots4 + wZ w1 := e8
    exact hEnd (cc := cL_seat) rfl (by omega) (by omega) F X5 hr hlocks (gD_at (mi := 246) (pc := 18) (by decide) rfl).1
  · obtain rfl : w1 = w2 := hw2.symm
    have hM := mMetT (as := [.ref x0, .int p0, .int p1]) hl hS (by decide) hx (Nat.le_of_ble_eq_true rfl) hd
    refine mCallT (mc := w1.1.length - w.1.length) (ms := wZ w1 - wZ w) (vx_runV (C := (gMe 103).1.cls) (Ts := lwG) (own := RL) (index := 7) (b := mAd base b adK x0) (As := [.int p0, .int p1]) (rest := [.int 0, .ref (mAd base b adK q)]) ⟨F.1, F.2.1, F.2.2.1, F.2.2.2.1, hts⟩ hM (cwV 2 hts hgood rfl rfl rfl ⟨rfl, k7⟩ ⟨by show d2 + 1 ≤ RR9.frames; omega, by show 8 + (3 + 11) + 60 * d2 ≤ RR9.locals; omega⟩) ⟨hpre.1, hrc, hpre.2⟩ rfl rfl xl.1 rfl (lv_room (Nat.le_of_ble_eq_true rfl)) hdec ⟨by omega, by omega⟩) xS (fun ce q9 H2 locs2 n2 p2 s2 hc1 hc2 hc3 => ?_)
    refine vx_catch (own := RL) (name := exN) (E := exN) hown [] ⟨0, 10, 13, 13⟩ [] (htab.trans rfl) (fun z hz => by cases hz) (by decide) (by decide) (hts _ exKL) (va_Nw.use rfl (hSx1.2.2.2.2.2.2.2.2 _ exL_cast rfl)) hc1 hc2 hc3 ?_
    refine lv_astore F.1 F.2.1 (gD_at (mi := 246) (pc := 13) (by decide) rfl).1 xl (by decide) rfl (fun ls6 hl6 => ?_)
    refine lv_iconst (v := 1) F.1 F.2.1 (gD_at (mi := 246) (pc := 15) (by decide) rfl).1 (by decide) ?_
    have X9 : mSt dC dI cy base b adK s 246 [none, none, none, none, none] w1 H2 locs2 (0 + (w1.1.length - w.1.length)) ls6 := ⟨by omega, n2, p2, s2, ⟨hl6.1, hl6.2.1, fun q hq => by cases hq⟩, rfl⟩
    exact hEnd (w1 := w1) (w := w) (cc := _) rfl (by omega) (by omega) F X9 hr hlocks (gD_at (mi := 246) (pc := 16) (by decide) rfl).1

theorem hw_247 : Cond.codeWith yL_cue cL_cue 5 (some .int) [(0, 10, 13, 13)] ∈ lwG := lwG_in (gTb5 (p := 217) rfl) rfl
theorem hs_247 : Cond.static yL_cue ∈ lwG := lwG_in (gTb5 (p := 216) rfl) rfl
set_option maxHeartbeats 2000000 in
set_option maxRecDepth 20000 in
theorem hm_247 (hl : l.stackTraces = false) {n d2 x0 q : Nat} {p0 p1 : Int32} {w w1 w2 : mW} {o : mO} {v : Int32} (hS : SND l dC dI cy base b adK S (SxD base b adK adV (ExE base)) n) (hd : 6 ≤ d2) (hq : (wS w)[q]? = some (4, 1)) (hx0 : (wS w)[x0]? = some (0, 9)) (hx : ex S n d2 108 0 (mIni (gMe 108).2.2.1 [.ref x0, .int p0, .int p1]) [] w = some (o, w1)) (ho : (∃ z, o = some (some (.int z)) ∧ v = 0 ∧ w2 = wsJ w1 (mSet (wJ w1) q 0 z.toInt64)) ∨ (o = none ∧ v = 1 ∧ w2 = w1)) :
    Met l yL_cue (Cond.codeWith yL_cue cL_cue 5 (some .int) [(0, 10, 13, 13)] :: lwG) (mRm (d2 + 1) (w1.1.length - w.1.length) (wZ w1 - wZ w)) (mPc dC dI cy base b adK (SxD base b adK adV (ExE base)) [.ref (mAd base b adK x0), .int p0, .int p1, .ref (mAd base b adK q)] w) (mQc dC dI cy base b adK (some (.int v)) w2) (w1.1.length - w.1.length) (wZ w1 - wZ w) (fun q => base ≤ q) := by
  have hSx := SxD_ok (b := b) (adK := adK) (adV := adV) (ExE_keeps (base := base))
  have hstr := SxD_str (b := b) (adK := adK) (adV := adV) (ExE_keeps (base := base)) l
  have hlw : gLw 108 = false := rfl
  have hj : (108 : Nat) < 253 := by decide
  obtain ⟨k1, k2, k3, k4, k5, k6, k7, k8, k9, k10⟩ := gM_ok hj hlw
  obtain ⟨⟨c1, c2⟩, -⟩ := hS d2 108 0 _ [] w w1 _ hj (fun z => absurd (z.symm.trans hlw) (by decide)) hx
  refine va_MetW (cc := cL_cue) (maxL := 5) (ret := some .int) (by decide +kernel) rfl ?_
  intro p e s m args below meth c s₁ B hml hv
  obtain ⟨rfl, hsz, hN, hP, hK, hSx1⟩ := hv
  have hr := B.returns
  have hlocks := B.notSynchronized
  have hts : ∀ z ∈ lwG, z.before _ s = true := fun z hz => atoms_spec (ws := Cond.codeWith yL_cue cL_cue 5 (some .int) [(0, 10, 13, 13)] :: lwG) B.pre z (List.mem_cons_of_mem _ hz)
  have hown : s.vm.findClass RL = some m.cls := findClass_of_methodNamed B.named
  have htab := vx_table (x := yL_cue) B (hts _ hw_247)
  refine W.eq (lg_entry_eq m ([.ref (mAd base b adK x0), .int p0, .int p1, .ref (mAd base b adK q)] : List Value) 5) ?_
  have hlen : (mArg [.ref x0, .int p0, .int p1, .ref q]).length ≤ 5 := Nat.le_of_ble_eq_true rfl
  have hl0 := mIni_has (ad := mAd base b adK) (ml := 5) (as := [.ref x0, .int p0, .int p1, .ref q]) hlen
  have F : mFr dC dI cy base b S (SxD base b adK adV (ExE base)) (d2 + 1) 247 p (headSpec (Cond.codeWith yL_cue cL_cue 5 (some .int) [(0, 10, 13, 13)] :: lwG) (mRm (d2 + 1) (w1.1.length - w.1.length) (wZ w1 - wZ w))).room s m _ meth c := ⟨B.exec, B.bytes, hml, hown, hts, hK, hSx1, fun z => absurd z (by decide), ⟨Nat.le_refl _, Nat.le_refl _⟩, by omega, fun z => absurd z (by decide)⟩
  have X : mSt dC dI cy base b adK s 247 (mIni 5 [.ref x0, .int p0, .int p1, .ref q]) w s.heap [] 0 ((lg_sl ([.ref (mAd base b adK x0), .int p0, .int p1, .ref (mAd base b adK q)] : List Value) ++ List.replicate (5 - (lg_sl ([.ref (mAd base b adK x0), .int p0, .int p1, .ref (mAd base b adK q)] : List Value)).length) Slot.unset).toArray) := ⟨by omega, hN, hP, va_S.rf, hl0, rfl⟩
  have hR1 : (headSpec (Cond.codeWith yL_cue cL_cue 5 (some .int) [(0, 10, 13, 13)] :: lwG) (mRm (d2 + 1) (w1.1.length - w.1.length) (wZ w1 - wZ w))).room.cells = w1.1.length - w.1.length := rfl
  have hR2 : (headSpec (Cond.codeWith yL_cue cL_cue 5 (some .int) [(0, 10, 13, 13)] :: lwG) (mRm (d2 + 1) (w1.1.length - w.1.length) (wZ w1 - wZ w))).room.slots = wZ w1 - wZ w := rfl
  have hR3 : (headSpec (Cond.codeWith yL_cue cL_cue 5 (some .int) [(0, 10, 13, 13)] :: lwG) (mRm (d2 + 1) (w1.1.length - w.1.length) (wZ w1 - wZ w))).room.frames = d2 + 1 := rfl
  have hR4 : (headSpec (Cond.codeWith yL_cue cL_cue 5 (some .int) [(0, 10, 13, 13)] :: lwG) (mRm (d2 + 1) (w1.1.length - w.1.length) (wZ w1 - wZ w))).room.locals = 60 * (d2 + 1) := rfl
  generalize (headSpec (Cond.codeWith yL_cue cL_cue 5 (some .int) [(0, 10, 13, 13)] :: lwG) (mRm (d2 + 1) (w1.1.length - w.1.length) (wZ w1 - wZ w))).room = RR9 at F hR1 hR2 hR3 hR4 ⊢
  show W p l e RR9 s m _ below meth c s.heap [] 0 0 _ (F0 m 0 _ (([] : List Value).map (mCv (mAd base b adK))))
  refine mSegW hSx hstr (C := gC247) (pc1 := 5) (Lo1 := [some (.ref x0), some (.int p0), some (.int p1), some (.ref q), none]) (st1' := [.int p1, .int p0, .ref x0, .int 0, .ref q]) (w1 := w) (by decide) rfl 5 (pc := 0) (st := []) (w := w) rfl F X (by omega) (by omega) (fun H1 locs1 ls1 cells1 slots1 e1 e2 X1 => ?_)
  have e1 : cells1 = 0 := by omega
  have e2 : slots1 = 0 := by omega
  subst e1
  subst e2
  obtain ⟨xE, xN, xP, xS, xl, xLo⟩ := id X1
  have hdec : decode cL_cue 5 = .ok (.invokevirtual 15, 3) := (gD_at (mi := 247) (by decide) rfl).1
  refine mW_sz (fun hszH => ?_)
  have hH : H1.size = base + w.1.length := by
    have := mSize xN (Nat.le_trans (by omega : base ≤ s.heap.size) xS.1) xP
    omega
  have hpre := mPre hSx F X1 hH [.ref (mAd base b adK x0), .int p0, .int p1]
  have hsel := k5 rfl
  have hgood : GoodIn lwG (wsV RL 15 (gMe 108).1.cls (gMe 108).1 (Cond.code (gMe 108).1 (gMe 108).2.1 (gMe 108).2.2.1 (gMe 108).2.2.2.1 :: lwG)) := by
    refine gGoodA (fun z hz => ?_) (gGood k1)
    simp only [List.mem_cons, List.not_mem_nil, or_false] at hz
    rcases hz with rfl | rfl | rfl | rfl
    · rcases (gC_ok (o := 11) (x := 15) (mj := 108) (nn := 0) rfl).1 with ⟨-, h1⟩ | ⟨h0, -⟩
      · exact h1
      · cases h0
    · exact lwG_in (k4 (by decide)) rfl
    · exact lwG_in hsel.1 rfl
    · exact lwG_in k2 rfl
  have hrc := va_recv (a := mAd base b adK x0) F.2.2.2.2.2.1 xP (gOkAll 9 (by decide)).2.2.2.2.2.2.2.2.2 (q0 := x0) (by rw [mWs_get (mSh hx0).1, mCell_o hx0])
  rcases ho with ⟨z, rfl, rfl, rfl⟩ | ⟨rfl, rfl, hw2⟩
  · have hM := mMet (as := [.ref x0, .int p0, .int p1]) hSx hS hj hlw hx (Nat.le_of_ble_eq_true rfl)
    refine mCall (mc := w1.1.length - w.1.length) (ms := wZ w1 - wZ w) (va_runV (C := (gMe 108).1.cls) (Ts := lwG) (own := RL) (index := 15) (b := mAd base b adK x0) (As := [.int p0, .int p1]) (rest := [.int 0, .ref (mAd base b adK q)]) ⟨F.1, F.2.1, F.2.2.1, F.2.2.2.1, hts⟩ hM (cwV 2 hts hgood rfl rfl rfl ⟨rfl, k7⟩ ⟨by show d2 + 1 ≤ RR9.frames; omega, by show 8 + (3 + 11) + 60 * d2 ≤ RR9.locals; omega⟩) ⟨hpre.1, hrc, hpre.2⟩ rfl rfl xl.1 rfl (lv_room (Nat.le_of_ble_eq_true rfl)) hdec ⟨by omega, by omega⟩) xS (fun H2 locs2 n2 p2 s2 => ?_)
    have hq1 : (wS w1)[q]? = some (4, 1) := ex_shape hx hq
    have X2 : mSt dC dI cy base b adK s 247 [some (.ref x0), some (.int p0), some (.int p1), some (.ref q), none] w1 H2 locs2 (0 + (w1.1.length - w.1.length)) ls1 := ⟨by omega, n2, p2, s2, xl, rfl⟩
    show W p l e RR9 s m _ below meth c H2 locs2 _ _ _ (F0 m 8 ls1 (([.int z, .int 0, .ref q] : List Value).map (mCv (mAd base b adK))))
    refine mSegW hSx hstr (C := gC247) (pc1 := 9) (Lo1 := [some (.ref x0), some (.int p0), some (.int p1), some (.ref q), none]) (st1' := [.long z.toInt64, .int 0, .ref q]) (w1 := w1) (by decide) rfl 1 (w := w1) rfl F X2 (by omega) (by omega) (fun H3 locs3 ls3 cells3 slots3 e3 e4 X3 => ?_)
    have hst0 : mLas [some (.ref x0), some (.int p0), some (.int p1), some (.ref q), none] [.long z.toInt64, .int 0, .ref q] w1 = some ([some (.ref x0), some (.int p0), some (.int p1), some (.ref q), none], [], wsJ w1 (mSet (wJ w1) q 0 z.toInt64)) := by
      unfold mLas
      dsimp only
      rw [hq1]
      rfl
    have hst : st1 S (d2 + 1) 247 .lastore [some (.ref x0), some (.int p0), some (.int p1), some (.ref q), none] [.long z.toInt64, .int 0, .ref q] w1 = some ([some (.ref x0), some (.int p0), some (.int p1), some (.ref q), none], [], wsJ w1 (mSet (wJ w1) q 0 z.toInt64)) := by
      unfold st1
      exact hst0
    refine mStep hSx hstr (i := .lastore) (gD_at (mi := 247) (pc := 9) (by decide) rfl).1 F X3 hst (by show cells3 + w1.1.length ≤ RR9.cells + w1.1.length; omega) (by show slots3 + wZ w1 ≤ RR9.slots + wZ w1; omega) (fun H4 locs4 ls4 cells4 slots4 e5 e6 X4 => ?_)
    have e5 : cells4 + w1.1.length = cells3 + w1.1.length := e5
    have e6 : slots4 + wZ w1 = slots3 + wZ w1 := e6
    refine mSegW hSx hstr (C := gC247) (pc1 := 18) (Lo1 := [some (.ref x0), some (.int p0), some (.int p1), some (.ref q), none]) (st1' := [.int 0]) (w1 := wsJ w1 (mSet (wJ w1) q 0 z.toInt64)) (by decide) rfl 2 (w := wsJ w1 (mSet (wJ w1) q 0 z.toInt64)) rfl F X4 (by show cells4 + w1.1.length ≤ RR9.cells + w1.1.length; omega) (by show slots4 + wZ w1 ≤ RR9.slots + wZ w1; omega) (fun H5 locs5 ls5 cells5 slots5 e7 e8 X5 => ?_)
    have e7 : cells5 + w1.1.length = cells4 + w1.1.length := e7
    have e8 : slots5 + wZ w1 = slots4 + wZ w1 := e8
    exact hEnd (cc := cL_cue) rfl (by omega) (by omega) F X5 hr hlocks (gD_at (mi := 247) (pc := 18) (by decide) rfl).1
  · obtain rfl : w1 = w2 := hw2.symm
    have hM := mMetT (as := [.ref x0, .int p0, .int p1]) hl hS (by decide) hx (Nat.le_of_ble_eq_true rfl) hd
    refine mCallT (mc := w1.1.length - w.1.length) (ms := wZ w1 - wZ w) (vx_runV (C := (gMe 108).1.cls) (Ts := lwG) (own := RL) (index := 15) (b := mAd base b adK x0) (As := [.int p0, .int p1]) (rest := [.int 0, .ref (mAd base b adK q)]) ⟨F.1, F.2.1, F.2.2.1, F.2.2.2.1, hts⟩ hM (cwV 2 hts hgood rfl rfl rfl ⟨rfl, k7⟩ ⟨by show d2 + 1 ≤ RR9.frames; omega, by show 8 + (3 + 11) + 60 * d2 ≤ RR9.locals; omega⟩) ⟨hpre.1, hrc, hpre.2⟩ rfl rfl xl.1 rfl (lv_room (Nat.le_of_ble_eq_true rfl)) hdec ⟨by omega, by omega⟩) xS (fun ce q9 H2 locs2 n2 p2 s2 hc1 hc2 hc3 => ?_)
    refine vx_catch (own := RL) (name := exN) (E := exN) hown [] ⟨0, 10, 13, 13⟩ [] (htab.trans rfl) (fun z hz => by cases hz) (by decide) (by decide) (hts _ exKL) (va_Nw.use rfl (hSx1.2.2.2.2.2.2.2.2 _ exL_cast rfl)) hc1 hc2 hc3 ?_
    refine lv_astore F.1 F.2.1 (gD_at (mi := 247) (pc := 13) (by decide) rfl).1 xl (by decide) rfl (fun ls6 hl6 => ?_)
    refine lv_iconst (v := 1) F.1 F.2.1 (gD_at (mi := 247) (pc := 15) (by decide) rfl).1 (by decide) ?_
    have X9 : mSt dC dI cy base b adK s 247 [none, none, none, none, none] w1 H2 locs2 (0 + (w1.1.length - w.1.length)) ls6 := ⟨by omega, n2, p2, s2, ⟨hl6.1, hl6.2.1, fun q hq => by cases hq⟩, rfl⟩
    exact hEnd (w1 := w1) (w := w) (cc := _) rfl (by omega) (by omega) F X9 hr hlocks (gD_at (mi := 247) (pc := 16) (by decide) rfl).1

theorem hw_248 : Cond.codeWith yL_worthOf cL_worthOf 5 (some .int) [(0, 10, 13, 13)] ∈ lwG := lwG_in (gTb5 (p := 224) rfl) rfl
theorem hs_248 : Cond.static yL_worthOf ∈ lwG := lwG_in (gTb5 (p := 223) rfl) rfl
set_option maxHeartbeats 2000000 in
set_option maxRecDepth 20000 in
theorem hm_248 (hl : l.stackTraces = false) {n d2 x0 q : Nat} {p0 p1 : Int32} {w w1 w2 : mW} {o : mO} {v : Int32} (hS : SND l dC dI cy base b adK S (SxD base b adK adV (ExE base)) n) (hd : 6 ≤ d2) (hq : (wS w)[q]? = some (4, 1)) (hx0 : (wS w)[x0]? = some (0, 9)) (hx : ex S n d2 124 0 (mIni (gMe 124).2.2.1 [.ref x0, .int p0, .int p1]) [] w = some (o, w1)) (ho : (∃ z, o = some (some (.int z)) ∧ v = 0 ∧ w2 = wsJ w1 (mSet (wJ w1) q 0 z.toInt64)) ∨ (o = none ∧ v = 1 ∧ w2 = w1)) :
    Met l yL_worthOf (Cond.codeWith yL_worthOf cL_worthOf 5 (some .int) [(0, 10, 13, 13)] :: lwG) (mRm (d2 + 1) (w1.1.length - w.1.length) (wZ w1 - wZ w)) (mPc dC dI cy base b adK (SxD base b adK adV (ExE base)) [.ref (mAd base b adK x0), .int p0, .int p1, .ref (mAd base b adK q)] w) (mQc dC dI cy base b adK (some (.int v)) w2) (w1.1.length - w.1.length) (wZ w1 - wZ w) (fun q => base ≤ q) := by
  have hSx := SxD_ok (b := b) (adK := adK) (adV := adV) (ExE_keeps (base := base))
  have hstr := SxD_str (b := b) (adK := adK) (adV := adV) (ExE_keeps (base := base)) l
  have hlw : gLw 124 = false := rfl
  have hj : (124 : Nat) < 253 := by decide
  obtain ⟨k1, k2, k3, k4, k5, k6, k7, k8, k9, k10⟩ := gM_ok hj hlw
  obtain ⟨⟨c1, c2⟩, -⟩ := hS d2 124 0 _ [] w w1 _ hj (fun z => absurd (z.symm.trans hlw) (by decide)) hx
  refine va_MetW (cc := cL_worthOf) (maxL := 5) (ret := some .int) (by decide +kernel) rfl ?_
  intro p e s m args below meth c s₁ B hml hv
  obtain ⟨rfl, hsz, hN, hP, hK, hSx1⟩ := hv
  have hr := B.returns
  have hlocks := B.notSynchronized
  have hts : ∀ z ∈ lwG, z.before _ s = true := fun z hz => atoms_spec (ws := Cond.codeWith yL_worthOf cL_worthOf 5 (some .int) [(0, 10, 13, 13)] :: lwG) B.pre z (List.mem_cons_of_mem _ hz)
  have hown : s.vm.findClass RL = some m.cls := findClass_of_methodNamed B.named
  have htab := vx_table (x := yL_worthOf) B (hts _ hw_248)
  refine W.eq (lg_entry_eq m ([.ref (mAd base b adK x0), .int p0, .int p1, .ref (mAd base b adK q)] : List Value) 5) ?_
  have hlen : (mArg [.ref x0, .int p0, .int p1, .ref q]).length ≤ 5 := Nat.le_of_ble_eq_true rfl
  have hl0 := mIni_has (ad := mAd base b adK) (ml := 5) (as := [.ref x0, .int p0, .int p1, .ref q]) hlen
  have F : mFr dC dI cy base b S (SxD base b adK adV (ExE base)) (d2 + 1) 248 p (headSpec (Cond.codeWith yL_worthOf cL_worthOf 5 (some .int) [(0, 10, 13, 13)] :: lwG) (mRm (d2 + 1) (w1.1.length - w.1.length) (wZ w1 - wZ w))).room s m _ meth c := ⟨B.exec, B.bytes, hml, hown, hts, hK, hSx1, fun z => absurd z (by decide), ⟨Nat.le_refl _, Nat.le_refl _⟩, by omega, fun z => absurd z (by decide)⟩
  have X : mSt dC dI cy base b adK s 248 (mIni 5 [.ref x0, .int p0, .int p1, .ref q]) w s.heap [] 0 ((lg_sl ([.ref (mAd base b adK x0), .int p0, .int p1, .ref (mAd base b adK q)] : List Value) ++ List.replicate (5 - (lg_sl ([.ref (mAd base b adK x0), .int p0, .int p1, .ref (mAd base b adK q)] : List Value)).length) Slot.unset).toArray) := ⟨by omega, hN, hP, va_S.rf, hl0, rfl⟩
  have hR1 : (headSpec (Cond.codeWith yL_worthOf cL_worthOf 5 (some .int) [(0, 10, 13, 13)] :: lwG) (mRm (d2 + 1) (w1.1.length - w.1.length) (wZ w1 - wZ w))).room.cells = w1.1.length - w.1.length := rfl
  have hR2 : (headSpec (Cond.codeWith yL_worthOf cL_worthOf 5 (some .int) [(0, 10, 13, 13)] :: lwG) (mRm (d2 + 1) (w1.1.length - w.1.length) (wZ w1 - wZ w))).room.slots = wZ w1 - wZ w := rfl
  have hR3 : (headSpec (Cond.codeWith yL_worthOf cL_worthOf 5 (some .int) [(0, 10, 13, 13)] :: lwG) (mRm (d2 + 1) (w1.1.length - w.1.length) (wZ w1 - wZ w))).room.frames = d2 + 1 := rfl
  have hR4 : (headSpec (Cond.codeWith yL_worthOf cL_worthOf 5 (some .int) [(0, 10, 13, 13)] :: lwG) (mRm (d2 + 1) (w1.1.length - w.1.length) (wZ w1 - wZ w))).room.locals = 60 * (d2 + 1) := rfl
  generalize (headSpec (Cond.codeWith yL_worthOf cL_worthOf 5 (some .int) [(0, 10, 13, 13)] :: lwG) (mRm (d2 + 1) (w1.1.length - w.1.length) (wZ w1 - wZ w))).room = RR9 at F hR1 hR2 hR3 hR4 ⊢
  show W p l e RR9 s m _ below meth c s.heap [] 0 0 _ (F0 m 0 _ (([] : List Value).map (mCv (mAd base b adK))))
  refine mSegW hSx hstr (C := gC248) (pc1 := 5) (Lo1 := [some (.ref x0), some (.int p0), some (.int p1), some (.ref q), none]) (st1' := [.int p1, .int p0, .ref x0, .int 0, .ref q]) (w1 := w) (by decide) rfl 5 (pc := 0) (st := []) (w := w) rfl F X (by omega) (by omega) (fun H1 locs1 ls1 cells1 slots1 e1 e2 X1 => ?_)
  have e1 : cells1 = 0 := by omega
  have e2 : slots1 = 0 := by omega
  subst e1
  subst e2
  obtain ⟨xE, xN, xP, xS, xl, xLo⟩ := id X1
  have hdec : decode cL_worthOf 5 = .ok (.invokevirtual 18, 3) := (gD_at (mi := 248) (by decide) rfl).1
  refine mW_sz (fun hszH => ?_)
  have hH : H1.size = base + w.1.length := by
    have := mSize xN (Nat.le_trans (by omega : base ≤ s.heap.size) xS.1) xP
    omega
  have hpre := mPre hSx F X1 hH [.ref (mAd base b adK x0), .int p0, .int p1]
  have hsel := k5 rfl
  have hgood : GoodIn lwG (wsV RL 18 (gMe 124).1.cls (gMe 124).1 (Cond.code (gMe 124).1 (gMe 124).2.1 (gMe 124).2.2.1 (gMe 124).2.2.2.1 :: lwG)) := by
    refine gGoodA (fun z hz => ?_) (gGood k1)
    simp only [List.mem_cons, List.not_mem_nil, or_false] at hz
    rcases hz with rfl | rfl | rfl | rfl
    · rcases (gC_ok (o := 11) (x := 18) (mj := 124) (nn := 0) rfl).1 with ⟨-, h1⟩ | ⟨h0, -⟩
      · exact h1
      · cases h0
    · exact lwG_in (k4 (by decide)) rfl
    · exact lwG_in hsel.1 rfl
    · exact lwG_in k2 rfl
  have hrc := va_recv (a := mAd base b adK x0) F.2.2.2.2.2.1 xP (gOkAll 9 (by decide)).2.2.2.2.2.2.2.2.2 (q0 := x0) (by rw [mWs_get (mSh hx0).1, mCell_o hx0])
  rcases ho with ⟨z, rfl, rfl, rfl⟩ | ⟨rfl, rfl, hw2⟩
  · have hM := mMet (as := [.ref x0, .int p0, .int p1]) hSx hS hj hlw hx (Nat.le_of_ble_eq_true rfl)
    refine mCall (mc := w1.1.length - w.1.length) (ms := wZ w1 - wZ w) (va_runV (C := (gMe 124).1.cls) (Ts := lwG) (own := RL) (index := 18) (b := mAd base b adK x0) (As := [.int p0, .int p1]) (rest := [.int 0, .ref (mAd base b adK q)]) ⟨F.1, F.2.1, F.2.2.1, F.2.2.2.1, hts⟩ hM (cwV 2 hts hgood rfl rfl rfl ⟨rfl, k7⟩ ⟨by show d2 + 1 ≤ RR9.frames; omega, by show 8 + (5 + 11) + 60 * d2 ≤ RR9.locals; omega⟩) ⟨hpre.1, hrc, hpre.2⟩ rfl rfl xl.1 rfl (lv_room (Nat.le_of_ble_eq_true rfl)) hdec ⟨by omega, by omega⟩) xS (fun H2 locs2 n2 p2 s2 => ?_)
    have hq1 : (wS w1)[q]? = some (4, 1) := ex_shape hx hq
    have X2 : mSt dC dI cy base b adK s 248 [some (.ref x0), some (.int p0), some (.int p1), some (.ref q), none] w1 H2 locs2 (0 + (w1.1.length - w.1.length)) ls1 := ⟨by omega, n2, p2, s2, xl, rfl⟩
    show W p l e RR9 s m _ below meth c H2 locs2 _ _ _ (F0 m 8 ls1 (([.int z, .int 0, .ref q] : List Value).map (mCv (mAd base b adK))))
    refine mSegW hSx hstr (C := gC248) (pc1 := 9) (Lo1 := [some (.ref x0), some (.int p0), some (.int p1), some (.ref q), none]) (st1' := [.long z.toInt64, .int 0, .ref q]) (w1 := w1) (by decide) rfl 1 (w := w1) rfl F X2 (by omega) (by omega) (fun H3 locs3 ls3 cells3 slots3 e3 e4 X3 => ?_)
    have hst0 : mLas [some (.ref x0), some (.int p0), some (.int p1), some (.ref q), none] [.long z.toInt64, .int 0, .ref q] w1 = some ([some (.ref x0), some (.int p0), some (.int p1), some (.ref q), none], [], wsJ w1 (mSet (wJ w1) q 0 z.toInt64)) := by
      unfold mLas
      dsimp only
      rw [hq1]
      rfl
    have hst : st1 S (d2 + 1) 248 .lastore [some (.ref x0), some (.int p0), some (.int p1), some (.ref q), none] [.long z.toInt64, .int 0, .ref q] w1 = some ([some (.ref x0), some (.int p0), some (.int p1), some (.ref q), none], [], wsJ w1 (mSet (wJ w1) q 0 z.toInt64)) := by
      unfold st1
      exact hst0
    refine mStep hSx hstr (i := .lastore) (gD_at (mi := 248) (pc := 9) (by decide) rfl).1 F X3 hst (by show cells3 + w1.1.length ≤ RR9.cells + w1.1.length; omega) (by show slots3 + wZ w1 ≤ RR9.slots + wZ w1; omega) (fun H4 locs4 ls4 cells4 slots4 e5 e6 X4 => ?_)
    have e5 : cells4 + w1.1.length = cells3 + w1.1.length := e5
    have e6 : slots4 + wZ w1 = slots3 + wZ w1 := e6
    refine mSegW hSx hstr (C := gC248) (pc1 := 18) (Lo1 := [some (.ref x0), some (.int p0), some (.int p1), some (.ref q), none]) (st1' := [.int 0]) (w1 := wsJ w1 (mSet (wJ w1) q 0 z.toInt64)) (by decide) rfl 2 (w := wsJ w1 (mSet (wJ w1) q 0 z.toInt64)) rfl F X4 (by show cells4 + w1.1.length ≤ RR9.cells + w1.1.length; omega) (by show slots4 + wZ w1 ≤ RR9.slots + wZ w1; omega) (fun H5 locs5 ls5 cells5 slots5 e7 e8 X5 => ?_)
    have e7 : cells5 + w1.1.length = cells4 + w1.1.length := e7
    have e8 : slots5 + wZ w1 = slots4 + wZ w1 := e8
    exact hEnd (cc := cL_worthOf) rfl (by omega) (by omega) F X5 hr hlocks (gD_at (mi := 248) (pc := 18) (by decide) rfl).1
  · obtain rfl : w1 = w2 := hw2.symm
    have hM := mMetT (as := [.ref x0, .int p0, .int p1]) hl hS (by decide) hx (Nat.le_of_ble_eq_true rfl) hd
    refine mCallT (mc := w1.1.length - w.1.length) (ms := wZ w1 - wZ w) (vx_runV (C := (gMe 124).1.cls) (Ts := lwG) (own := RL) (index := 18) (b := mAd base b adK x0) (As := [.int p0, .int p1]) (rest := [.int 0, .ref (mAd base b adK q)]) ⟨F.1, F.2.1, F.2.2.1, F.2.2.2.1, hts⟩ hM (cwV 2 hts hgood rfl rfl rfl ⟨rfl, k7⟩ ⟨by show d2 + 1 ≤ RR9.frames; omega, by show 8 + (5 + 11) + 60 * d2 ≤ RR9.locals; omega⟩) ⟨hpre.1, hrc, hpre.2⟩ rfl rfl xl.1 rfl (lv_room (Nat.le_of_ble_eq_true rfl)) hdec ⟨by omega, by omega⟩) xS (fun ce q9 H2 locs2 n2 p2 s2 hc1 hc2 hc3 => ?_)
    refine vx_catch (own := RL) (name := exN) (E := exN) hown [] ⟨0, 10, 13, 13⟩ [] (htab.trans rfl) (fun z hz => by cases hz) (by decide) (by decide) (hts _ exKL) (va_Nw.use rfl (hSx1.2.2.2.2.2.2.2.2 _ exL_cast rfl)) hc1 hc2 hc3 ?_
    refine lv_astore F.1 F.2.1 (gD_at (mi := 248) (pc := 13) (by decide) rfl).1 xl (by decide) rfl (fun ls6 hl6 => ?_)
    refine lv_iconst (v := 1) F.1 F.2.1 (gD_at (mi := 248) (pc := 15) (by decide) rfl).1 (by decide) ?_
    have X9 : mSt dC dI cy base b adK s 248 [none, none, none, none, none] w1 H2 locs2 (0 + (w1.1.length - w.1.length)) ls6 := ⟨by omega, n2, p2, s2, ⟨hl6.1, hl6.2.1, fun q hq => by cases hq⟩, rfl⟩
    exact hEnd (w1 := w1) (w := w) (cc := _) rfl (by omega) (by omega) F X9 hr hlocks (gD_at (mi := 248) (pc := 16) (by decide) rfl).1

end HELPS
end
section
section HLP
variable {l : Launch} {dC : Nat → ClassId} {dI : Nat → Nat → Nat} {cy : Nat → ClassId} {base b : Nat} {adK adV : Nat → Nat} {S : Nat × (Nat → Int32)}
theorem hIni : Cond.initialized RL ∈ lwG := lwG_in (gTb1 (p := 0) rfl) rfl
set_option maxHeartbeats 2000000 in
set_option maxRecDepth 20000 in
theorem hHELP (hl : l.stackTraces = false) (n : Nat) (hS : SND l dC dI cy base b adK S (SxD base b adK adV (ExE base)) n) : HELP l dC dI cy base b adK S (SxD base b adK adV (ExE base)) n := by
  intro d2 mj x0 q p0 p1 w w1 w2 o v h1 h2 hd hq hx0 hx ho p e R s m args below meth c H locs cells slots Q ls d mi pc k Lo r hd2 F X hc hz hr8 hlk hdec kk
  have hSx := SxD_ok (b := b) (adK := adK) (adV := adV) (ExE_keeps (base := base))
  have hmj : mj = 246 ∨ mj = 247 ∨ mj = 248 := by omega
  have hj : mHelp mj < 253 := by rcases hmj with rfl | rfl | rfl <;> decide
  have hlw : gLw (mHelp mj) = false := by rcases hmj with rfl | rfl | rfl <;> rfl
  obtain ⟨⟨c1, c2⟩, -⟩ := hS d2 (mHelp mj) 0 _ [] w w1 _ hj (fun z => absurd (z.symm.trans hlw) (by decide)) hx
  have hw2 : w2.1.length = w1.1.length := by
    rcases ho with ⟨z, -, -, rfl⟩ | ⟨-, -, rfl⟩ <;> rfl
  refine mW_sz (fun hsz => ?_)
  have hH : H.size = base + w.1.length := by
    have := mSize X.2.1 (Nat.le_trans F.2.2.2.2.2.2.2.2.2.1 X.2.2.2.1.1) X.2.2.1
    have := X.1
    omega
  have hroom := F.2.2.2.2.2.2.2.2.1
  have hlnk : Cond.methodLink (gOwn.getD (gO mi) "") k (gSpY mj) ∈ lwG := by
    rcases (gC_ok hlk).1 with ⟨-, h⟩ | ⟨h, -⟩
    · exact h
    · exact absurd h (by decide)
  have hpre := mPre hSx F X hH [.ref (mAd base b adK x0), .int p0, .int p1, .ref (mAd base b adK q)]
  rcases hmj with rfl | rfl | rfl
  · have hM := hm_246 hl hS hd hq hx0 hx ho
    have hgood : GoodIn lwG (va_wsS (gOwn.getD (gO mi) "") k yL_seat (Cond.codeWith yL_seat cL_seat 5 (some .int) [(0, 10, 13, 13)] :: lwG)) := by
      refine gGoodA (fun z hz => ?_) ?_
      · simp only [List.mem_cons, List.not_mem_nil, or_false] at hz
        rcases hz with rfl | rfl | rfl
        · exact hlnk
        · exact hs_246
        · exact hIni
      · intro z hz
        rcases List.mem_cons.mp hz with rfl | hz
        · exact ⟨hw_246, good_of_word rfl⟩
        · exact ⟨hz, good_of_word (lwG_good hz)⟩
    refine mCall (v := some (.int v)) (w' := w2) (mc := w1.1.length - w.1.length) (ms := wZ w1 - wZ w) (rest := r.map (mCv (mAd base b adK))) (vx_runSW (Ts := lwG) (own := gOwn.getD (gO mi) "") (index := k) (As := [.ref (mAd base b adK x0), .int p0, .int p1, .ref (mAd base b adK q)]) (rest := r.map (mCv (mAd base b adK))) ⟨F.1, F.2.1, F.2.2.1, F.2.2.2.1, F.2.2.2.2.1⟩ hM (vx_cwSW 4 F.2.2.2.2.1 hgood rfl rfl rfl ⟨by decide, by decide, by decide +kernel⟩ ⟨by show d2 + 1 + 1 ≤ R.frames; omega, by show 8 + (5 + 11) + 60 * (d2 + 1) ≤ R.locals; omega⟩) hpre rfl rfl X.2.2.2.2.1.1 rfl (lv_room (by rw [← mCats (mAd base b adK)] at hr8; exact hr8)) hdec ⟨by omega, by omega⟩) X.2.2.2.1 (fun H2 locs2 n2 p2 s2 => ?_)
    exact kk H2 locs2 ls _ _ (by omega) (by omega) ⟨by have := X.1; omega, n2, p2, s2, X.2.2.2.2.1, X.2.2.2.2.2⟩
  · have hM := hm_247 hl hS hd hq hx0 hx ho
    have hgood : GoodIn lwG (va_wsS (gOwn.getD (gO mi) "") k yL_cue (Cond.codeWith yL_cue cL_cue 5 (some .int) [(0, 10, 13, 13)] :: lwG)) := by
      refine gGoodA (fun z hz => ?_) ?_
      · simp only [List.mem_cons, List.not_mem_nil, or_false] at hz
        rcases hz with rfl | rfl | rfl
        · exact hlnk
        · exact hs_247
        · exact hIni
      · intro z hz
        rcases List.mem_cons.mp hz with rfl | hz
        · exact ⟨hw_247, good_of_word rfl⟩
        · exact ⟨hz, good_of_word (lwG_good hz)⟩
    refine mCall (v := some (.int v)) (w' := w2) (mc := w1.1.length - w.1.length) (ms := wZ w1 - wZ w) (rest := r.map (mCv (mAd base b adK))) (vx_runSW (Ts := lwG) (own := gOwn.getD (gO mi) "") (index := k) (As := [.ref (mAd base b adK x0), .int p0, .int p1, .ref (mAd base b adK q)]) (rest := r.map (mCv (mAd base b adK))) ⟨F.1, F.2.1, F.2.2.1, F.2.2.2.1, F.2.2.2.2.1⟩ hM (vx_cwSW 4 F.2.2.2.2.1 hgood rfl rfl rfl ⟨by decide, by decide, by decide +kernel⟩ ⟨by show d2 + 1 + 1 ≤ R.frames; omega, by show 8 + (5 + 11) + 60 * (d2 + 1) ≤ R.locals; omega⟩) hpre rfl rfl X.2.2.2.2.1.1 rfl (lv_room (by rw [← mCats (mAd base b adK)] at hr8; exact hr8)) hdec ⟨by omega, by omega⟩) X.2.2.2.1 (fun H2 locs2 n2 p2 s2 => ?_)
    exact kk H2 locs2 ls _ _ (by omega) (by omega) ⟨by have := X.1; omega, n2, p2, s2, X.2.2.2.2.1, X.2.2.2.2.2⟩
  · have hM := hm_248 hl hS hd hq hx0 hx ho
    have hgood : GoodIn lwG (va_wsS (gOwn.getD (gO mi) "") k yL_worthOf (Cond.codeWith yL_worthOf cL_worthOf 5 (some .int) [(0, 10, 13, 13)] :: lwG)) := by
      refine gGoodA (fun z hz => ?_) ?_
      · simp only [List.mem_cons, List.not_mem_nil, or_false] at hz
        rcases hz with rfl | rfl | rfl
        · exact hlnk
        · exact hs_248
        · exact hIni
      · intro z hz
        rcases List.mem_cons.mp hz with rfl | hz
        · exact ⟨hw_248, good_of_word rfl⟩
        · exact ⟨hz, good_of_word (lwG_good hz)⟩
    refine mCall (v := some (.int v)) (w' := w2) (mc := w1.1.length - w.1.length) (ms := wZ w1 - wZ w) (rest := r.map (mCv (mAd base b adK))) (vx_runSW (Ts := lwG) (own := gOwn.getD (gO mi) "") (index := k) (As := [.ref (mAd base b adK x0), .int p0, .int p1, .ref (mAd base b adK q)]) (rest := r.map (mCv (mAd base b adK))) ⟨F.1, F.2.1, F.2.2.1, F.2.2.2.1, F.2.2.2.2.1⟩ hM (vx_cwSW 4 F.2.2.2.2.1 hgood rfl rfl rfl ⟨by decide, by decide, by decide +kernel⟩ ⟨by show d2 + 1 + 1 ≤ R.frames; omega, by show 8 + (5 + 11) + 60 * (d2 + 1) ≤ R.locals; omega⟩) hpre rfl rfl X.2.2.2.2.1.1 rfl (lv_room (by rw [← mCats (mAd base b adK)] at hr8; exact hr8)) hdec ⟨by omega, by omega⟩) X.2.2.2.1 (fun H2 locs2 n2 p2 s2 => ?_)
    exact kk H2 locs2 ls _ _ (by omega) (by omega) ⟨by have := X.1; omega, n2, p2, s2, X.2.2.2.2.1, X.2.2.2.2.2⟩
end HLP
end
