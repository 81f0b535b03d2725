section
/-! THE OWED STATEMENT OUT OF ONE ABOUT THE SMALL MACHINE -/
def mW0 : mW := ([], fun _ _ => 0, fun _ _ => 0, fun _ _ => none, 0, 0)
def nFl : List Cond := flatC (Jvm.Cond.and given_1 narrow_1)
theorem nFl_in {w : Cond} {p : Nat} (h : nFl[p]? = some w) : w ∈ flatC (Jvm.Cond.and given_1 narrow_1) := List.mem_of_getElem? h
def sTm (i : Nat) : Term := match i with
  | 0 => .string "HouseClaps$HouseText" 30
  | 1 => .string "HouseClaps$HouseText" 112
  | 2 => .string "HouseClaps$HouseText" 110
  | 3 => .string "HouseClaps$CueText" 38
  | _ => .string "HouseClaps$CueText" 62
theorem sEx : ∀ i, i < 5 → nFl[([22, 90, 167, 189, 204] : List Nat).getD i 0]? = some (Cond.exactly (sTm i) "java/lang/String") := by decide +kernel
theorem sCo : ∀ i, i < 5 → nFl[([23, 91, 168, 190, 205] : List Nat).getD i 0]? = some (Cond.eq (.field (sTm i) "java/lang/String" "coder" "B") (.int 0)) := by decide +kernel
theorem sAr : ∀ i, i < 5 → nFl[([24, 92, 169, 191, 206] : List Nat).getD i 0]? = some (Cond.arrayOf (.field (sTm i) "java/lang/String" "value" "[B") .byte) := by decide +kernel
theorem sLe : ∀ i, i < 5 → nFl[([25, 93, 170, 192, 207] : List Nat).getD i 0]? = some (Cond.eq (.length (.field (sTm i) "java/lang/String" "value" "[B")) (.int (Int32.ofNat ((gSb.map List.length).getD i 0)))) := by decide +kernel
set_option maxRecDepth 100000 in
theorem sEl : ∀ i, i < 5 → ∀ j, j < (gSb.map List.length).getD i 0 → nFl[([26, 94, 171, 193, 208] : List Nat).getD i 0 + j]? = some (Cond.eq (.elem (.field (sTm i) "java/lang/String" "value" "[B") (.int (Int32.ofNat j))) (.int ((gSb.getD i []).getD j 0))) := by decide +kernel
theorem sNe : ∀ i, i < 5 → ∀ j, j < 5 → i < j → nFl[(([[0, 166, 187, 201, 240], [0, 0, 188, 202, 241], [0, 0, 0, 203, 242], [0, 0, 0, 0, 243], [0, 0, 0, 0, 0]] : List (List Nat)).getD i []).getD j 0]? = some (Cond.not (Cond.eq (sTm i) (sTm j))) := by decide +kernel
theorem sLn : ∀ i, i < 5 → (gSb.map List.length).getD i 0 < 2 ^ 31 := by decide +kernel
theorem sCon : ∀ q ∈ gCon, (match q.2.2 with | .ref v => decide (v < 1000006) && decide (1000001 ≤ v) && decide (sTm (v - 1000001) = .string (gOwn.getD q.1 "") q.2.1) && decide (Cond.stringRef (gOwn.getD q.1 "") q.2.1 (gStr.getD (v - 1000001) "") ∈ [Cond.stringRef "HouseClaps$HouseText" 30 "row     up      down    price   leaves  carry   paid    rows    ", Cond.stringRef "HouseClaps$HouseText" 112 "near    ahead   beside  behind  seen    house   self    held    not     ", Cond.stringRef "HouseClaps$HouseText" 110 "and     or      ", Cond.stringRef "HouseClaps$CueText" 38 "at      ", Cond.stringRef "HouseClaps$CueText" 62 "pay     hiss    free    still   "]) | _ => true) = true := by decide +kernel
theorem sStr {w : Cond} (h : w ∈ [Cond.stringRef "HouseClaps$HouseText" 30 "row     up      down    price   leaves  carry   paid    rows    ", Cond.stringRef "HouseClaps$HouseText" 112 "near    ahead   beside  behind  seen    house   self    held    not     ", Cond.stringRef "HouseClaps$HouseText" 110 "and     or      ", Cond.stringRef "HouseClaps$CueText" 38 "at      ", Cond.stringRef "HouseClaps$CueText" 62 "pay     hiss    free    still   "]) : w ∈ lw_tbl := by
  simp only [List.mem_cons, List.not_mem_nil, or_false] at h
  rcases h with rfl | rfl | rfl | rfl | rfl
  · exact gTb3 (p := 38) rfl
  · exact gTb3 (p := 128) rfl
  · exact gTb3 (p := 146) rfl
  · exact gTb4 (p := 16) rfl
  · exact gTb4 (p := 21) rfl
theorem gInst : ∀ ci, ci < 11 → ∃ n, Cond.instantiable (gc ci).1 n ∈ lw_tbl := by
  intro ci h
  rcases (show ci = 0 ∨ ci = 1 ∨ ci = 2 ∨ ci = 3 ∨ ci = 4 ∨ ci = 5 ∨ ci = 6 ∨ ci = 7 ∨ ci = 8 ∨ ci = 9 ∨ ci = 10 by omega) with rfl | rfl | rfl | rfl | rfl | rfl | rfl | rfl | rfl | rfl | rfl
  · exact ⟨_, gTb2 (p := 25) rfl⟩
  · exact ⟨_, gTb2 (p := 41) rfl⟩
  · exact ⟨_, gTb1 (p := 52) rfl⟩
  · exact ⟨_, gTb1 (p := 58) rfl⟩
  · exact ⟨_, gTb1 (p := 237) rfl⟩
  · exact ⟨_, gTb2 (p := 47) rfl⟩
  · exact ⟨_, gTb1 (p := 34) rfl⟩
  · exact ⟨_, gTb1 (p := 194) rfl⟩
  · exact ⟨_, gTb2 (p := 131) rfl⟩
  · exact ⟨_, gTb1 (p := 26) rfl⟩
  · exact ⟨_, gTb6 (p := 4) rfl⟩
/-! THE CLAIM OUT OF ONE WALK OF THE LAW'S BODY. Your part is whole_start (and what it stands on); all else here is the same for every law, but numbers. -/
def R_law : String := "HouseClapsLaw"
def lw_P (b : Addr) (xs : List Int32) (args : Array Value) (s : State) : Prop := args = #[.ref b] ∧ s.IntsAt b xs ∧ xs.length ≤ 384 ∧ (Jvm.Cond.and given_1 narrow_1).before args s = true
def lw_Q (_ : Array Value) (s : State) (o : Outcome) (t : State) : Prop := o = .returned (some (.int 1)) ∧ Framed s o t [] 717683 6948432
def lw_Z (below : List Frame) (a : Array Value) (s : State) : State → Prop := fun t => ∃ o, t.status = .running ∧ Ended t below o ∧ lw_Q a s o t
/-- the law's own end, with 1 on the stack, nothing written that was there before, its room as the claim has it -/
theorem lw_ret {p : Program} {l : Launch} {e : Env} {s : State} {m : MethodId} {below : List Frame} {meth : Method} {c : Code} {b : Nat} (hx : p.tables.exec = Jvm.exec) (hb : c.code = code) (hr : meth.sig.returnType = ret) (hlocks : meth.locks = false) {pc : Nat} {H : Heap} {ls : Array Slot} (hdg : decode code pc = .ok (.ireturn, 1)) : W p l e room_1 s m #[Value.ref b] below meth c H [] 717683 6948432 (lw_Z below #[Value.ref b] s) (F0 m pc ls [.int 1]) := by
  intro T hT X
  obtain ⟨fs, hret, hrun, hended, hW, hframe⟩ := X.leave (v := some (.int 1)) (hlocks := hlocks) (fun h => by rw [hr] at h; cases h)
  have hmeth' : T.vm.method? m = some meth := X.method'
  refine ⟨T.setFrames fs, ?_, .returned (some (.int 1)), hrun, hended, rfl, ⟨_, rfl⟩, hW, hframe⟩
  jvm_step X.here [X.here.top, hx, hb, hdg, hmeth', hr, ret, narrow_b1]
  (try refine ⟨rfl, ?_⟩); (try refine ⟨rfl, ?_⟩)
  first | (intro acts; rw [hret _ acts rfl rfl rfl]) | rw [hret _ _ rfl rfl rfl]
  exact Steps.refl _
/-- what holds at the law's entry: the machine, the code, the tables' words (any of lw_tbl by 'hts w (by decide +kernel)'), the script of L ints xs at the cell b, what the Statement gives of the start (any of its parts by flat_of_before) -/
def lw_At (p : Program) (s : State) (m : MethodId) (meth : Method) (c : Code) (b L : Nat) (xs : Nat → Int32) : Prop :=
  p.tables.exec = Jvm.exec ∧ c.code = code ∧ meth.sig.returnType = ret ∧ c.maxLocals = 7 ∧ s.vm.findClass R_law = some m.cls ∧ (∀ w ∈ lw_tbl, w.before #[Value.ref b] s = true) ∧ va_X b L xs s s.heap ∧ b < s.heap.size ∧ meth.locks = false ∧ (Jvm.Cond.and given_1 narrow_1).before #[Value.ref b] s = true
/-- what is to be shown of the small machine -/
def mPure (L : Nat) (xs : Nat → Int32) : Prop := ∃ n w', ex (L, xs) n 1300 0 0 (mIni 7 [.ref mScr]) [] mW0 = some (some (some (.int 1)), w') ∧ w'.1.length ≤ 717683 ∧ wZ w' ≤ 6948432
set_option maxHeartbeats 4000000 in
theorem whole_start {p : Program} {e : Env} {s : State} {m : MethodId} {below : List Frame} {meth : Method} {c : Code} (l : Launch) (hl : l.stackTraces = false) {b L : Nat} {xs : Nat → Int32} (hpu : mPure L xs) (C0 : lw_At p s m meth c b L xs) : W p l e room_1 s m #[Value.ref b] below meth c s.heap [] 0 0 (lw_Z below #[Value.ref b] s) (entryFrame m ([Value.ref b] : List Value).toArray 7) := by
  obtain ⟨hx, hb, hr, hml, hown, hts, hX, hbl, hlocks, hgv⟩ := id C0
  have hs := flat_of_before _ hgv
  have hA : ∀ a : Nat, a < s.heap.size → ¬ (fun q : Nat => s.heap.size ≤ q) a := fun a ha => Nat.not_le.mpr ha

  have hKn : ∀ ci, ∃ q : ClassId × (Nat → Nat), ci < 12 → u_Kn s (gc ci).1 (gc ci).2.1 (gc ci).2.2 q.1 q.2 := by
    intro ci
    by_cases h11 : ci < 11
    · obtain ⟨n, hn⟩ := gInst ci h11
      obtain ⟨c0, iS, h⟩ := u_known (C := (gc ci).1) (T := (gc ci).2.1) (N := (gc ci).2.2) (n := n) hts (gOkAll ci h11).1 (hts _ hn)
      exact ⟨(c0, iS), fun _ => h⟩
    · by_cases h12 : ci = 11
      · subst h12
        obtain ⟨c0, iS, h⟩ := u_known (C := exN) (T := gTx) (N := 0) (n := 6) hts (fun w hw => by simp [u_ws] at hw) (hts _ (gTb5 (p := 151) rfl))
        exact ⟨(c0, iS), fun _ => h⟩
      · exact ⟨(0, fun _ => 0), fun h => by omega⟩
  obtain ⟨kd, hkd⟩ := Classical.axiomOfChoice hKn
  have hT : ∀ ty, Cond.arrayClass ty ∈ lw_tbl → (∀ C, ty ≠ .object C) → ∃ cA, ArrOfT s cA ty ∧ va_RA s cA ty := by
    intro ty h hn
    obtain ⟨cA, k, comp, h1, h2, h3⟩ := Cond.arrayClass_spec (args := #[Value.ref b]) (first := s) (o := none) (s := s) (idx := []) (hts _ h)
    refine ⟨cA, fun n z => ⟨fun k h => (by cases h), k, h2, comp, h3⟩, ?_⟩
    cases ty with
    | object C => exact absurd rfl (hn C)
    | _ => exact h1
  obtain ⟨c1, h11, h12⟩ := hT .int (gTb1 (p := 50) rfl) (fun C h => by cases h)
  obtain ⟨c2, h21, h22⟩ := hT .byte (gTb3 (p := 225) rfl) (fun C h => by cases h)
  obtain ⟨c3, h31, h32⟩ := hT .boolean (gTb6 (p := 227) rfl) (fun C h => by cases h)
  obtain ⟨c4, h41, h42⟩ := hT .long (gTb1 (p := 147) rfl) (fun C h => by cases h)
  obtain ⟨comp5, c5, k5, g1, -, g3, g4, g5⟩ := Cond.arrayOver_spec (args := #[Value.ref b]) (first := s) (o := none) (s := s) (idx := []) (hts _ gA_ev)
  have hK : va_K (fun k => (kd k).1, fun k => (kd k).2) gCl (mTys (fun t => match t with | 1 => c1 | 2 => c2 | 3 => c3 | 4 => c4 | _ => c5)) s := by
    refine ⟨fun k q hq => ?_, fun k q hq => ?_⟩
    · have hk : k < 12 := (List.getElem?_eq_some_iff.mp hq).1
      have h := hkd k hk
      have hg : gc k = q := by show gCl.getD k _ = q; rw [List.getD_eq_getElem?_getD, hq]; rfl
      rw [hg] at h
      exact h
    · match k, hq with
      | 0, hq => cases hq; exact ⟨h11, h12⟩
      | 1, hq => cases hq; exact ⟨h21, h22⟩
      | 2, hq => cases hq; exact ⟨h31, h32⟩
      | 3, hq => cases hq; exact ⟨h41, h42⟩
      | 4, hq => cases hq; exact ⟨fun n z => ⟨fun k h => (by cases h), k5, g3, comp5, g4⟩, k5, comp5, g3, g4, g1, g5⟩
      | k + 5, hq => simp [mTys] at hq

  obtain ⟨adK, adV, hSt, hadK⟩ := vk_Sof (args := #[Value.ref b]) (s := s) (N := 5) (tm := sTm) (len := gSb.map List.length) (byt := gSb) (A := fun q : Nat => s.heap.size ≤ q) sLn (fun i hi => hs _ (nFl_in (sEx i hi))) (fun i hi => hs _ (nFl_in (sCo i hi))) (fun i hi => hs _ (nFl_in (sAr i hi))) (fun i hi => hs _ (nFl_in (sLe i hi))) (fun i hi j hj => hs _ (nFl_in (sEl i hi j hj))) (fun i j hi hj hij => by
    rcases Nat.lt_or_gt_of_ne hij with h | h
    · exact Or.inl (hs _ (nFl_in (sNe i hi j hj h)))
    · exact Or.inr (hs _ (nFl_in (sNe j hj i hi h)))) hA
  have hSx : SxD s.heap.size b adK adV (ExE s.heap.size) s := by
    refine ⟨va_AO.of (hts _ gA_ev), ?_, ?_, hSt, ?_, ?_, ?_, ?_, ?_⟩
    · intro o x mj hg
      rcases (gC_ok hg).1 with ⟨h, -⟩ | ⟨-, h⟩
      · exact absurd h (by decide)
      · exact va_Nw.of rfl (hts _ h)
    · intro o x (v : Nat) hg
      have h := sCon _ (mLk_mem hg)
      dsimp only at h
      rw [Bool.and_eq_true, Bool.and_eq_true, Bool.and_eq_true] at h
      obtain ⟨⟨⟨h1, h2⟩, h3⟩, h4⟩ := h
      have h1 : (v : Nat) < 1000006 := of_decide_eq_true h1
      have h2 : 1000001 ≤ (v : Nat) := of_decide_eq_true h2
      have h3 := of_decide_eq_true h3
      have hw := sStr (of_decide_eq_true h4)
      have hv := hadK (v - 1000001) (by omega)
      rw [h3] at hv
      have ha : mAd s.heap.size b adK v = adK (v - 1000001) := by
        unfold mAd
        rw [if_neg (by omega), if_neg (by omega)]
      rw [ha]
      exact vk_R.of (hts _ hw) hv
    · exact va_Zof (hts _ (gTb3 (p := 52) rfl)) (hts _ (gTb1 (p := 14) rfl)) (va_eqt (hs _ (nFl_in (p := 4) (by decide +kernel)))) hA
    · exact va_Zqof (hts _ (gTb3 (p := 72) rfl)) (hts _ (gTb1 (p := 16) rfl)) (hs _ (nFl_in (p := 5) (by decide +kernel))) hA
    · exact vx_Zqof (hts _ (gTb5 (p := 177) rfl)) (hts _ (gTb1 (p := 19) rfl)) (hs _ (nFl_in (p := 9) (by decide +kernel))) hA
    · exact vx_Zqof (hts _ (gTb5 (p := 179) rfl)) (hts _ (gTb1 (p := 19) rfl)) (hs _ (nFl_in (p := 10) (by decide +kernel))) hA
    · intro w hw hd
      exact va_Nw.of (dc_tab hd) (hts _ (exL_in w hw))
  have hOk := SxD_ok (b := b) (adK := adK) (adV := adV) (ExE_keeps (base := s.heap.size))
  have hSnd := mSND (l := l) (dC := fun k => (kd k).1) (dI := fun k => (kd k).2) (cy := fun t => match t with | 1 => c1 | 2 => c2 | 3 => c3 | 4 => c4 | _ => c5) (S := (L, xs)) hOk (SxD_str (ExE_keeps (base := s.heap.size)) l) (fun n hn => hHELP hl n hn)
  obtain ⟨n, w', hex, hw1, hw2⟩ := hpu
  obtain ⟨-, hgo⟩ := hSnd n 1300 0 0 (mIni 7 [.ref mScr]) [] mW0 w' (some (some (.int 1))) (by decide) (fun _ => rfl) hex
  have hlen : (mArg [Value.ref mScr]).length ≤ 7 := by decide
  rw [lg_entry_eq]
  have hib := mIni_has (ad := mAd s.heap.size b adK) hlen
  have hmap : [Value.ref mScr].map (mCv (mAd s.heap.size b adK)) = [Value.ref b] := rfl
  rw [hmap] at hib
  refine hgo p e room_1 s m #[Value.ref b] below meth c s.heap [] 0 0 _ _ ⟨hx, hb, hml, hown, fun w hw => hts w (List.mem_filter.mp hw).1, hK, hSx, (fun h => absurd h (by decide)), ⟨by decide, by decide⟩, Nat.le_refl _, fun _ => ⟨hX, hbl, hbl⟩⟩ ⟨rfl, by decide, fun k q h => absurd (mWs_of h).1 (Nat.not_lt_zero k), va_S.rf, hib, mIni_len hlen⟩ (by show 0 + w'.1.length ≤ 717683 + 0; omega) (by show 0 + wZ w' ≤ 6948432 + 0; omega) ?_ (fun h => by cases h)
  intro v hv pc' ls' H' locs' cells' slots' hra hc1 hc2 hP1 hS1 hN1 hE1
  cases hv
  have hc1 : cells' + 0 = 0 + w'.1.length := hc1
  have hc2 : slots' + 0 = 0 + wZ w' := hc2
  have hd : decode code pc' = .ok (.ireturn, 1) := by
    rcases hra with ⟨h, -, -⟩ | ⟨x, h, hd, -⟩ | ⟨x, h, -, -⟩
    · cases h
    · exact hd
    · cases h
  refine va_forget (fun q hq => hS1.2.2 q hq) ?_
  refine W.widen (k := 717683) (n := 6948432) (by omega) (by omega) ?_
  exact lw_ret hx hb hr hlocks hd
end
section
set_option maxHeartbeats 4000000 in
theorem lw_walk (hpu : ∀ (L : Nat) (xs : Nat → Int32), L ≤ 384 → mPure L xs) (l : Launch) (hl : l.stackTraces = false) (b : Addr) (xs : List Int32) : MetFree l x (headSpec (Jvm.Cond.code x code maxLocals ret :: tables_1) room_1) (lw_P b xs) (fun _ _ _ _ _ => True) lw_Q := by
  refine MetFree.of_bodyS (code := code) (maxLocals := maxLocals) (ret := ret) (by decide) ?_ ?_
  · intro args s m h hn
    obtain ⟨meth, c, h1, h2, h3, h4, h5, h6, -, -⟩ := Cond.code_spec hn (atoms_spec (ws := Jvm.Cond.code x code maxLocals ret :: tables_1) h _ List.mem_cons_self)
    exact ⟨meth, c, h1, h2, h3, h4, h5, h6⟩
  · intro p e s m args below meth c s₁ B hml0 hP _
    obtain ⟨rfl, hx, hbd, hgv⟩ := hP
    obtain ⟨scr, harrAt, hlist, hof, hsmall⟩ := hx
    obtain ⟨hcb, hkn, -, -⟩ := State.arrayAt?_spec harrAt
    have hown : s.vm.findClass R_law = some m.cls := findClass_of_methodNamed B.named
    have hts0 : ∀ c ∈ (Jvm.Cond.code x code maxLocals ret :: tables_1), c.before #[Value.ref b] s = true := atoms_spec (ws := Jvm.Cond.code x code maxLocals ret :: tables_1) B.pre
    have hts : ∀ w ∈ lw_tbl, w.before #[Value.ref b] s = true := k2_hts_sels lw_privs (fun w hw => hts0 w (List.mem_cons_of_mem _ hw)) lw_privs_ok
    have hml : c.maxLocals = 7 := B.maxLocals_eq (hts0 _ List.mem_cons_self)
    have X₀ : Stand p l e room_1 s m #[Value.ref b] below meth c s₁ [] 0 0 := Stand.of_body B
    have hh0 : s₁.heap = s.heap := by rw [B.state]; rfl
    have hsz : scr.slots.size = xs.length := by rw [← Array.length_toList, hlist, List.length_map]
    have hval : ∀ j : Nat, j < xs.length → scr.slots[j]? = some (.int (xs.getD j 0)) := fun j hj => by
      rw [← Array.getElem?_toList, hlist]
      simp [hj]
    have hbl : b < s.heap.size := (Array.getElem?_eq_some_iff.mp hcb).1
    have hX : va_X b xs.length (fun j => xs.getD j 0) s s.heap := ⟨scr, hcb, hof, hkn, hsz, hval⟩
    have K : W p l e room_1 s m #[Value.ref b] below meth c s₁.heap [] 0 0 (lw_Z below #[Value.ref b] s) (entryFrame m ([Value.ref b] : List Value).toArray 7) := by
      rw [hh0]
      exact whole_start l hl (hpu _ _ hbd) ⟨B.exec, B.bytes, B.returns, hml, hown, hts, hX, hbl, B.notSynchronized, hgv⟩
    obtain ⟨t, a1, o, b1, b2, b3⟩ := K s₁ rfl X₀
    exact ⟨t, o, a1, b1, b2, b3⟩
theorem lw_pre_spec {args : Array Value} {s : State} (h : (Jvm.Cond.and given_1 narrow_1).before args s = true) (hr : rest_1_c.before args s = true) : ∃ (b : Addr) (xs : List Int32), lw_P b xs args s := by
  have hs := flat_of_before _ h
  have hq := flat_of_before _ hr
  have hc : (Cond.count 1).before args s = true := hs _ (by decide +kernel)
  have harr : (Cond.arrayOf (.arg 0) .int).before args s = true := hs _ (by decide +kernel)
  have hle : (Cond.le (.length (.arg 0)) (.int 384)).before args s = true := hs _ (by decide +kernel)
  have hlen : (Cond.isInt (.length (.arg 0))).before args s = true := hq _ (by decide +kernel)
  have hall : (Cond.all (.arg 0) (.isInt (.elem (.arg 0) (.index 0)))).before args s = true := hq _ (by decide +kernel)
  obtain ⟨b, xs, hb, hx⟩ := State.ints_of_pre rfl harr hlen hall
  have hsm : xs.length < 2 ^ 31 := hx.choose_spec.2.2.2
  have hev : (Term.length (.arg 0)).eval args s none [] s = some (.int xs.length.toInt32) := hx.length_eval hb
  have hv := Cond.le_ints hev (show (Term.int 384).eval args s none [] s = some (.int 384) from rfl)
  have hd : xs.length.toInt32 ≤ 384 := by
    simpa [Cond.before, Cond.holds, hv] using hle
  have hN : xs.length ≤ 384 := (Int32.ofNat_le_ofNat hsm (by decide)).mp (show Int32.ofNat xs.length ≤ Int32.ofNat 384 from hd)
  exact ⟨b, xs, Cond.one_arg hc (show args[0]? = some (.ref b) from hb), hx, hN, h⟩
theorem lw_comes (hpu : ∀ (L : Nat) (xs : Nat → Int32), L ≤ 384 → mPure L xs) (l : Launch) (hl : l.stackTraces = false) : Comes l x (Jvm.Cond.code x code maxLocals ret :: tables_1) room_1 (fun tb e args s => Calls_1 tb e args s ∧ rest_1 tb e args s ∧ Pre_1 tb e args s)
    (fun _ _ args s o t => lw_Q args s o t) := by
  intro p e ha hc hk s m args below hf hfit hheap happ hpre
  obtain ⟨b, xs, hP⟩ := lw_pre_spec hpre.2.2 hpre.2.1
  obtain ⟨k, o, h1, h2, h3, hQ⟩ := lw_walk hpu l hl b xs p e ha hc hk s m args below hf ((Spec.applies_iff_loose hf).mp happ).1 hP trivial
  exact ⟨k, o, h1, h2, h3, hQ⟩
theorem lw_frame {s t : State} {o : Outcome} {args : Array Value} (h : Framed s o t [] 717683 6948432) :
    Framed s o t (fieldLocs frame_1_writes args s ++ arrayLocs frame_1_arrays args s ++ staticLocs frame_1_statics s) 717683 6948432 := h
theorem lw_limb (hpu : ∀ (L : Nat) (xs : Nat → Int32), L ≤ 384 → mPure L xs) (L : Cond) (hL : ∀ (args : Array Value) (s t : State), L.after args s (.returned (some (.int 1))) t = true) :
    ArmFor flags0 classFile x code maxLocals ret World_1 tables_1 room_1 Calls_1 rest_1 Pre_1
      (fun tb e a s o t => postC L tb e a s o t ∧ Framed s o t (fieldLocs frame_1_writes a s ++ arrayLocs frame_1_arrays a s ++ staticLocs frame_1_statics s) 717683 6948432) := by
  intro l hfl _ _ p e ha hc hk s m args below hf hfit hheap happ hpre
  obtain ⟨k, o, h1, h2, h3, rfl, hF⟩ := lw_comes hpu l (by unfold Launch.stackTraces; rw [hfl]; decide) p e ha hc hk s m args below hf hfit hheap happ hpre
  exact ⟨k, _, h1, h2, h3, hL args s _, lw_frame hF⟩
end
section
/-! rules: a new cell, the throw, the law's script and helpers -/
def xA (x : mX) (q : Nat × Nat) (n : Nat) : mX := (x.1 ++ [q], va_up x.2.1 (68 + x.1.length) (fun _ => none), x.2.2.1 + 1, x.2.2.2 + n)
theorem RRk_up {kf : Nat → Nat → Option Nat} {n : Nat} {g : Nat → Option Nat} (h : 68 ≤ n) : va_up (RRk kf) n g = RRk (va_up kf n g) := by
  funext a
  unfold va_up RRk
  by_cases ha : a = n
  · subst ha
    rw [if_pos rfl, show (Nat.beq a 27 || Nat.ble 68 a) = true from by rw [Bool.or_eq_true]; exact Or.inr (Nat.ble_eq_true_of_le h)]
    dsimp only
    rw [if_pos rfl]
  · rw [if_neg ha]
    dsimp only
    rw [if_neg ha]
theorem SHL_len : SHL.length = 68 := rfl
theorem mNew_wv {x : mX} {I : rI0} {J : rJ0} {q : Nat × Nat} {n : Nat} : mNew (wv x I J) q n = wv (xA x q n) (va_up I (68 + x.1.length) (fun _ => 0)) (va_up J (68 + x.1.length) (fun _ => 0)) := by
  have hl : (wv x I J).1.length = 68 + x.1.length := by show (SHL ++ x.1).length = _; rw [List.length_append, SHL_len]
  unfold mNew
  rw [hl]
  unfold wv xA
  dsimp only
  rw [RRk_up (by omega), List.append_assoc]
/-- an end that may be a throw -/
def rT (x : mX) (T : mX → rI0 → rJ0 → Prop) (Q : Int32 → rI0 → rJ0 → Prop) : mO → mW → Prop := fun o w => (∃ v I J, o = some (some (.int v)) ∧ w = wv x I J ∧ Q v I J) ∨ (∃ x1 I J, o = none ∧ w = wv x1 I J ∧ T x1 I J)
/-- an end with more cells -/
def rX (Q : mX → Int32 → rI0 → rJ0 → Prop) : mO → mW → Prop := fun o w => ∃ x v I J, o = some (some (.int v)) ∧ w = wv x I J ∧ Q x v I J
abbrev wcT (S : Nat × (Nat → Int32)) (d mj : Nat) (as : List Value) (x : mX) (I : rI0) (J : rJ0) (T : mX → rI0 → rJ0 → Prop) (Q : Int32 → rI0 → rJ0 → Prop) : Prop := wc S d mj as (wv x I J) (rT x T Q)
abbrev wcX (S : Nat × (Nat → Int32)) (d mj : Nat) (as : List Value) (x : mX) (I : rI0) (J : rJ0) (Q : mX → Int32 → rI0 → rJ0 → Prop) : Prop := wc S d mj as (wv x I J) (rX Q)
section RULE
variable {S : Nat × (Nat → Int32)} {d mi pc : Nat} {Lo : mL} {st r : List Value} {x : mX} {I : rI0} {J : rJ0} {Q : mO → mW → Prop}
theorem we_iT {v : Int32} {T : mX → rI0 → rJ0 → Prop} {Q : Int32 → rI0 → rJ0 → Prop} (hc : cod mi pc = some (.ireturn, 1)) (hr : (gMe mi).2.2.2.1 = some .int) (k : Q v I J) : wp S d mi pc Lo [.int v] (wv x I J) (rT x T Q) := wp_iret hc (Or.inl hr) (Or.inl ⟨v, I, J, rfl, rfl, k⟩)
theorem we_t {k1 : Nat} {T : mX → rI0 → rJ0 → Prop} {Q : Int32 → rI0 → rJ0 → Prop} (hc : cod mi pc = some (.new k1, 3)) (hn : mLk gNew (gO mi) k1 = some 11) (h8 : mCat st ≤ 8) (k : 68 + x.1.length < 1000000 ∧ T (xA x (0, 11) 6) (va_up I (68 + x.1.length) (fun _ => 0)) (va_up J (68 + x.1.length) (fun _ => 0))) : wp S d mi pc Lo st (wv x I J) (rT x T Q) := by
  refine wp_thr hc hn ?_ h8 (Or.inr ⟨xA x (0, 11) 6, _, _, rfl, mNew_wv, k.2⟩)
  show (SHL ++ x.1).length < 1000000
  rw [List.length_append, SHL_len]
  exact k.1
theorem wa_s {j : Int32} (hc : cod 0 pc = some (.iaload, 1)) (ho : ¬ mOut j S.1) (k : wp S d 0 (pc + 1) Lo (.int (S.2 j.toNatClampNeg) :: r) (wv x I J) Q) : wp S d 0 pc Lo (.int j :: .ref mScr :: r) (wv x I J) Q := by
  refine wp_st hc ?_ k
  show mIal S 0 Lo (.int j :: .ref mScr :: r) (wv x I J) = _
  unfold mIal
  dsimp only
  rw [if_pos ⟨rfl, rfl⟩]
  exact if_neg ho
theorem wl_len (hc : cod 0 pc = some (.arraylength, 1)) (k : wp S d 0 (pc + 1) Lo (.int (Int32.ofNat S.1) :: r) (wv x I J) Q) : wp S d 0 pc Lo (.ref mScr :: r) (wv x I J) Q := by
  refine wp_st hc ?_ k
  show mAln S 0 Lo (.ref mScr :: r) (wv x I J) = _
  unfold mAln
  dsimp only
  rw [if_pos ⟨rfl, rfl⟩]
/-- the law's helpers -/
theorem ch_T {k1 mj nn : Nat} {p0 p1 : Int32} (hc : cod mi pc = some (.invokestatic k1, 3)) (hg : mLk gCall (gO mi) k1 = some (mj, nn)) (hp : (gMe mj).2.2.2.2.2.1 = 4) (hk : (gMe mj).2.2.2.2.2.2 = 0 ∧ mj < 1000 ∧ mCat r ≤ 8 ∧ 4 ≤ (gMe mj).2.2.1) (hh : 246 ≤ mj ∧ mj ≤ 248) (k : wcT S (d + 6) (mHelp mj) [.ref 0, .int p0, .int p1] x I J (fun x I J => wp S (d + 8) mi (pc + 3) Lo (.int 1 :: r) (wv x I J) Q) (fun v I J => wp S (d + 8) mi (pc + 3) Lo (.int 0 :: r) (wv x I (mSet J 67 0 v.toInt64)) Q)) : wp S (d + 8) mi pc Lo (.ref 67 :: .int p1 :: .int p0 :: .ref 0 :: r) (wv x I J) Q := by
  obtain ⟨n1, o1, w1, h1, h2⟩ := k
  have hst : st1 S (d + 8) mi (.invokestatic k1) Lo (.ref 67 :: .int p1 :: .int p0 :: .ref 0 :: r) (wv x I J) = none := by
    show mIst (d + 8) mi k1 Lo (.ref 67 :: .int p1 :: .int p0 :: .ref 0 :: r) (wv x I J) = none
    unfold mIst
    rw [hg]
    have : mj ≠ 1001 ∧ mj ≠ 1005 ∧ mj ≠ 1006 ∧ mj ≠ 1007 := by omega
    split
    · rename_i h; cases h; exact absurd rfl this.1
    · rename_i h; cases h; exact absurd rfl this.2.1
    · rename_i h; cases h; exact absurd rfl this.2.2.1
    · rename_i h; cases h; exact absurd rfl this.2.2.2
    · rfl
  have hq : (wS (wv x I J))[67]? = some (4, 1) := rfl
  have h0 : (wS (wv x I J))[0]? = some (0, 9) := rfl
  rcases h2 with ⟨v, I1, J1, rfl, rfl, n2, o2, w2, h3, h4⟩ | ⟨x1, I1, J1, rfl, rfl, n2, o2, w2, h3, h4⟩
  · refine ⟨n1 + n2 + 1, o2, w2, ?_, h4⟩
    unfold ex
    rw [hc]
    dsimp only
    rw [hst, hg]
    dsimp only
    rw [hp]
    show (if (gMe mj).2.2.2.2.2.2 = 0 ∧ mj < 1000 ∧ mCat r ≤ 8 ∧ 4 ≤ (gMe mj).2.2.1 then _ else _) = _
    rw [if_pos hk, if_pos hh]
    simp only [List.nil_append, List.cons_append]
    rw [hq, h0]
    try dsimp only
    rw [ex_le h1 (by omega : n1 ≤ n1 + n2)]
    exact ex_le h3 (by omega)
  · refine ⟨n1 + n2 + 1, o2, w2, ?_, h4⟩
    unfold ex
    rw [hc]
    dsimp only
    rw [hst, hg]
    dsimp only
    rw [hp]
    show (if (gMe mj).2.2.2.2.2.2 = 0 ∧ mj < 1000 ∧ mCat r ≤ 8 ∧ 4 ≤ (gMe mj).2.2.1 then _ else _) = _
    rw [if_pos hk, if_pos hh]
    simp only [List.nil_append, List.cons_append]
    rw [hq, h0]
    try dsimp only
    rw [ex_le h1 (by omega : n1 ≤ n1 + n2)]
    exact ex_le h3 (by omega)
theorem cv_X {k1 mj a : Nat} {as : List Value} (hc : cod mi pc = some (.invokevirtual k1, 3)) (hg : mLk gCall (gO mi) k1 = some (mj, 0)) (hp : mPop ((gMe mj).2.2.2.2.2.1 + 1) st = some (.ref a :: as, r)) (hk : (gMe mj).2.2.2.2.2.2 = 1 ∧ mj < 1000 ∧ mCat r ≤ 8 ∧ (mArg (.ref a :: as)).length ≤ (gMe mj).2.2.1) (hs : (SHL ++ x.1)[a]? = some (0, gO mj)) (k : wcX S d mj (.ref a :: as) x I J (fun x v I J => wp S (d + 1) mi (pc + 3) Lo (.int v :: r) (wv x I J) Q)) : wp S (d + 1) mi pc Lo st (wv x I J) Q := by
  refine wp_cv hc hg hp hk hs (wc_mono k ?_)
  rintro o w ⟨x1, v, I1, J1, rfl, rfl, h⟩
  exact ⟨some (.int v), rfl, h⟩
end RULE
end
