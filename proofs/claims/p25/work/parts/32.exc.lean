section
section XEND
variable {p : Program} {l : Launch} {e : Env} {R : Room} {s : State} {m : MethodId} {args : Array Value} {below : List Frame} {meth : Method} {c : Code} {H : Heap} {locs : List Loc} {cells slots : Nat}
variable {free : Addr → Prop} {ls : Array Slot} {rest : List Value} {Qc : Array Value → State → Outcome → State → Prop} {XC : String → State → State → Prop}
theorem xx_throw {cc : ByteArray} {pc : Nat} (hexec : p.tables.exec = Jvm.exec) (hb : c.code = cc) (hl : l.stackTraces = false) {own cls : String} {names : List String} {ik ic mc ms : Nat} {A : Nat → Prop}
    (hown : s.vm.findClass own = some m.cls) (hcls : Bundle.fit cls = true) (hnames : ∀ n ∈ names, Bundle.fit n = true)
    (hk : (Cond.classLink own ik cls).before args s = true) (hini : (Cond.initialized cls).before args s = true) (hat : ∀ w ∈ vx_at0 own ic cls names, w.before args s = true)
    (hgood : ∀ w ∈ Cond.classLink own ik cls :: Cond.initialized cls :: vx_at0 own ic cls names, vx_ot w = true)
    (hU : vx_Zq Bundle.tN "UNASSIGNED_STACK" Bundle.steD A s s.heap) (hN : vx_Zq Bundle.tN "SUPPRESSED_SENTINEL" Bundle.listD A s s.heap) (hS : va_S A s.heap H locs) (hsize : ls.size = c.maxLocals)
    (d0 : decode cc pc = .ok (.new ik, 3)) (d3 : decode cc (pc + 3) = .ok (.dup, 1)) (d4 : decode cc (pc + 4) = .ok (.invokespecial ic, 3)) (d7 : decode cc (pc + 7) = .ok (.athrow, 1))
    (hout : ∀ x ∈ c.exceptionTable.toList, covers x (pc + 7) = false)
    (hRframes : names.length + 3 < R.frames) (hRlocals : (rest.map fun v => v.category).sum + (13 * (names.length + 1) + 42) ≤ R.locals) (hRcells : cells + 1 ≤ R.cells) (hRslots : slots + 6 ≤ R.slots) (hlocks : meth.locks = false)
    (hx : ∀ (t : State) (ce : Cell), s.vm.Alike t.vm → t.heap.size = H.size + 1 → (∀ q : Nat, q < H.size → t.heap[q]? = H[q]?) → t.heap[H.size]? = some ce → ce.vm = .none → s.vm.findClass cls = some ce.cls → XC cls s t)
    (hf : ∀ z ∈ locs, free z.base) (hc : cells + 1 ≤ mc) (hs : slots + 6 ≤ ms) :
    W p l e R s m args below meth c H locs cells slots (vx_MQ below Qc XC args s mc ms free) (F0 m pc ls rest) := by
  intro T hT X
  have htr : e.platform.stackTraces = false := (show e.platform.stackTraces = l.stackTraces by rw [X.admits.platform]).trans hl
  have Y := vx_rebase X (R' := { frames := R.frames, locals := R.locals, cells := 1, slots := 6 }) (Nat.le_refl _) (Nat.le_refl _) hRcells hRslots
  obtain ⟨s', hA⟩ : ∃ z, z = (T.setVm s.vm).setFrames (.invoking m args :: below) := ⟨_, rfl⟩
  rw [← hA] at Y
  have hvm : s'.vm = s.vm := by rw [hA]; rfl
  have hhp : s'.heap = H := by rw [hA]; exact hT
  have hW0 : s.WarmedH s'.vm := by rw [hvm]; exact State.WarmedH.refl s
  have hat' : ∀ w ∈ vx_at0 own ic cls names, w.before args s' = true := fun w hw => vx_ot_at hW0 hvm.symm (hgood w (List.mem_cons_of_mem _ (List.mem_cons_of_mem _ hw))) (hat w hw)
  have hk' : (Cond.classLink own ik cls).before args s' = true := vx_ot_at hW0 hvm.symm (hgood _ List.mem_cons_self) hk
  have hini' : (Cond.initialized cls).before args s' = true := vx_ot_at hW0 hvm.symm (hgood _ (List.mem_cons_of_mem _ List.mem_cons_self)) hini
  have hU' : vx_Zq Bundle.tN "UNASSIGNED_STACK" Bundle.steD A s' s'.heap := by rw [hhp]; exact vx_Zq.moved hW0.alike (hU.kept hS.2.1)
  have hN' : vx_Zq Bundle.tN "SUPPRESSED_SENTINEL" Bundle.listD A s' s'.heap := by rw [hhp]; exact vx_Zq.moved hW0.alike (hN.kept hS.2.1)
  have h : ∀ w ∈ Bundle.ownAtoms0 own ic cls names, w.before args s' = true := vx_own hat' (vx_isRefq hU'.1) (vx_isRefq hN'.1) hU'.2.word hN'.2.word
  have hown' : s'.vm.findClass own = some m.cls := by rw [hvm]; exact hown
  have hins : (Cond.instantiable cls 6).before args s' = true := h _ (by simp [Bundle.ownAtoms0])
  obtain ⟨vm₁, cX, kX, hfX, hkX, -, -, X₁, st1⟩ := Y.newCold hexec (own := own) (C := cls) (index := ik) (n := 6) hown' hk' hins hini'
    (g := F0 m pc ls rest) rfl (by rw [hb]; exact d0) (Nat.le_refl _) (Nat.le_refl _)
  generalize hT1 : (T.setVm vm₁).pushCell { cls := cX, slots := kX.instanceTypes.map defaultValue, vm := .none } = T1 at X₁ st1
  have hcat : (Value.ref T.heap.size).category = 1 := rfl
  have hcellA : T1.heap[T.heap.size]? = some (freshCell cX kX) := by rw [← hT1]; exact State.heap_pushCell_size _ _
  have d3' : decode c.code (pc + 3) = .ok (.dup, 1) := by rw [hb]; exact d3
  obtain ⟨U, hsteps, hrun, hend, hW, hsame, ce, hce, hO⟩ := X₁.ctorThrow0 hexec htr (own := own) (cls := cls) (names := names) (ic := ic) hown' hcls hnames h (fun x hx => nomatch hx) hfX hkX hcellA (by rw [hhp, hT]; exact Nat.le_refl _)
    (g := { method := m, pc := pc + 4, locals := ls, stack := .ref T.heap.size :: .ref T.heap.size :: rest, locked := none }) rfl hsize rfl rfl (rest := rest) rfl
    (by rw [hb]; exact d4) (by rw [hb]; exact d7) hout hRframes (by simp only [List.map_cons, List.sum_cons, hcat]; omega) hlocks
  have hsame9 := hsame.2.2.1
  obtain ⟨f1, f2⟩ := vx_frame hsame
  rw [hhp] at f1 f2
  have hWs : s.WarmedH U.vm := State.WarmedH.trans hW0 hW
  have hcl : s.vm.findClass cls = some ce.cls := by
    have h9 := hO.cls
    rw [hvm] at h9
    exact h9
  have hall : s.sameButNew ({ U with vm := s.vm } : State) locs mc ms := by
    subst hA
    obtain ⟨e1, e2⟩ := hsame
    rw [State.setFrames_setFrames] at e1
    have h2 : (T.setVm s.vm).sameButNew ({ U with vm := s.vm } : State) [] (0 + 1) (0 + 6) := ⟨e1, e2⟩
    have h3 := X.same.trans h2
    rw [List.append_nil] at h3
    exact h3.mono hc hs
  have hsz9 : U.heap.size = H.size + 1 := by
    have h9 : U.heap.size ≤ s'.heap.size + (0 + 1) := hsame9
    have h8 := (Array.getElem?_eq_some_iff.mp hce).1
    rw [hhp] at h9
    rw [hT] at h8
    omega
  refine ⟨U, ?_, .threw T.heap.size, hrun, hend, Or.inr ⟨T.heap.size, rfl, cls, ce, locs, hx U ce hWs.alike hsz9 (fun q hq => f2 q hq (fun z hz => nomatch hz)) (by rw [← hT]; exact hce) hO.vm hcl, hce, hO.vm, hcl, hWs, hall, hf⟩⟩
  refine st1 _ ?_
  show Steps p.tables e below (T1.setTop { method := m, pc := pc + 3, locals := ls, stack := .ref T.heap.size :: rest, locked := none }) _
  jvm_step X₁.here [X₁.here.top, hexec, d3', Value.category]
  exact hsteps
end XEND
def exN : String := "java/util/NoSuchElementException"
abbrev exS : List String := ["java/lang/RuntimeException", "java/lang/Exception"]
def exL : List Cond := vx_at0 "HouseClaps" 134 exN exS
set_option maxRecDepth 100000 in
theorem exL_in : ∀ w ∈ exL, w ∈ lw_tbl := by decide +kernel
def isDC : Cond → Bool
  | .declares _ => true
  | .castable _ _ => true
  | _ => false
theorem exL_dc : ∀ w ∈ exL, goodWord w = true ∨ isDC w = true := by decide +kernel
theorem exL_ot : ∀ w ∈ Cond.classLink "HouseClaps" 132 exN :: Cond.initialized exN :: exL, vx_ot w = true := by decide +kernel
theorem exL_cast : Cond.castable exN exN ∈ exL := by decide +kernel
def ExE (base : Nat) (U : State) : Prop := vx_Zq Bundle.tN "UNASSIGNED_STACK" Bundle.steD (fun q => base ≤ q) U U.heap ∧ vx_Zq Bundle.tN "SUPPRESSED_SENTINEL" Bundle.listD (fun q => base ≤ q) U U.heap ∧ ∀ w ∈ exL, isDC w = true → va_Nw w U
theorem dc_warm {w : Cond} (h : isDC w = true) {s U : State} (hW : s.WarmedH U.vm) (hw : va_Nw w s) : va_Nw w U := by
  cases w with
  | declares x => exact va_Nw.warmD hW hw
  | castable C T => exact va_Nw.warmC hW hw
  | _ => cases h
theorem dc_tab {w : Cond} (h : isDC w = true) : w.onTables = true := by
  cases w with
  | declares x => rfl
  | castable C T => rfl
  | _ => cases h
theorem ExE_keeps {base : Nat} : SxKeeps base (ExE base) := by
  refine ⟨fun s U H locs h hS hb hU hW => ⟨?_, ?_, fun w hw hd => dc_warm hd hW (h.2.2 w hw hd)⟩, fun U g mk a h => ⟨vx_Zq.moved (Vm.Alike.refl U.vm) h.1, vx_Zq.moved (Vm.Alike.refl U.vm) h.2.1, fun w hw hd => va_Nw.same (u := U) (U := U.calling g mk a) (dc_tab hd) rfl (h.2.2 w hw hd)⟩⟩
  · rw [hU]; exact vx_Zq.moved hW.alike (h.1.kept hS.2.1)
  · rw [hU]; exact vx_Zq.moved hW.alike (h.2.1.kept hS.2.1)
theorem ExE_words {base : Nat} {args : Array Value} {s : State} (hts : ∀ w ∈ lwG, w.before args s = true) (h : ExE base s) : ∀ w ∈ exL, w.before args s = true := by
  intro w hw
  rcases exL_dc w hw with hg | hd
  · exact hts w (lwG_in (exL_in w hw) hg)
  · exact va_Nw.use (dc_tab hd) (h.2.2 w hw hd)
theorem exK : Cond.classLink "HouseClaps" 132 exN ∈ lwG := lwG_in (gTb5 (p := 150) rfl) rfl
theorem exI : Cond.initialized exN ∈ lwG := lwG_in (gTb1 (p := 22) rfl) rfl
theorem exKL : Cond.classLink RL 13 exN ∈ lwG := lwG_in (gTb5 (p := 145) rfl) rfl
/-- where the three methods throw, the making and the throw stand one behind the other -/
theorem exAt : ∀ mj, (mj = 103 ∨ mj = 108 ∨ mj = 124) → ∀ pc x, cod mj pc = some (.new x, 3) → x = 132 ∧ cod mj (pc + 3) = some (.dup, 1) ∧ cod mj (pc + 4) = some (.invokespecial 134, 3) ∧ cod mj (pc + 7) = some (.athrow, 1) := by
  have key : ∀ (l : List (Nat × Instr × Nat)) (pc : Nat) (i : Instr) (n : Nat), mFind l pc = some (i, n) → (pc, i, n) ∈ l := by
    intro l pc i n
    induction l with
    | nil => intro h; cases h
    | cons q r ih =>
      obtain ⟨p, z⟩ := q
      intro h
      unfold mFind at h
      split at h
      · rename_i hp
        have hp : p = pc := Nat.eq_of_beq_eq_true hp
        cases h
        subst hp
        exact List.mem_cons_self
      · exact List.mem_cons_of_mem _ (ih h)
  have chk : ∀ mj ∈ [103, 108, 124], ∀ q ∈ gCs.getD mj [], (match q.2.1 with | .new x => decide (x = 132 ∧ cod mj (q.1 + 3) = some (.dup, 1) ∧ cod mj (q.1 + 4) = some (.invokespecial 134, 3) ∧ cod mj (q.1 + 7) = some (.athrow, 1)) | _ => true) = true := by decide +kernel
  intro mj hmj pc x h
  have h1 := chk mj (by rcases hmj with rfl | rfl | rfl <;> decide) _ (key _ _ _ _ h)
  exact of_decide_eq_true h1
end
section
theorem st1_pref {S : Nat × (Nat → Int32)} {d mi : Nat} {i : Instr} {Lo Lo1 : mL} {st st1' : List Value} {w w1 : mW} (h : st1 S d mi i Lo st w = some (Lo1, st1', w1)) : ∃ q, w1.1 = w.1 ++ q := by
  cases i
  case iconst n =>
    cases h
    exact ⟨[], (List.append_nil _).symm⟩
  case bipush n =>
    cases h
    exact ⟨[], (List.append_nil _).symm⟩
  case sipush n =>
    cases h
    exact ⟨[], (List.append_nil _).symm⟩
  case lconst n =>
    cases h
    exact ⟨[], (List.append_nil _).symm⟩
  case iload k =>
    obtain ⟨x, hv, hq⟩ := mLdI_inv h
    cases hq
    exact ⟨[], (List.append_nil _).symm⟩
  case iload_n k =>
    obtain ⟨x, hv, hq⟩ := mLdI_inv h
    cases hq
    exact ⟨[], (List.append_nil _).symm⟩
  case lload k =>
    obtain ⟨x, hv, hq⟩ := mLdL_inv h
    cases hq
    exact ⟨[], (List.append_nil _).symm⟩
  case lload_n k =>
    obtain ⟨x, hv, hq⟩ := mLdL_inv h
    cases hq
    exact ⟨[], (List.append_nil _).symm⟩
  case aload k =>
    obtain ⟨x, hv, hq⟩ := mLdA_inv h
    cases hq
    exact ⟨[], (List.append_nil _).symm⟩
  case aload_n k =>
    obtain ⟨x, hv, hq⟩ := mLdA_inv h
    cases hq
    exact ⟨[], (List.append_nil _).symm⟩
  case istore k =>
    obtain ⟨x, r, L, rfl, hL, hq⟩ := mStI_inv h
    cases hq
    exact ⟨[], (List.append_nil _).symm⟩
  case istore_n k =>
    obtain ⟨x, r, L, rfl, hL, hq⟩ := mStI_inv h
    cases hq
    exact ⟨[], (List.append_nil _).symm⟩
  case lstore k =>
    obtain ⟨x, r, L, rfl, hL, hq⟩ := mStL_inv h
    cases hq
    exact ⟨[], (List.append_nil _).symm⟩
  case lstore_n k =>
    obtain ⟨x, r, L, rfl, hL, hq⟩ := mStL_inv h
    cases hq
    exact ⟨[], (List.append_nil _).symm⟩
  case astore k =>
    obtain ⟨x, r, L, rfl, hL, hq⟩ := mStA_inv h
    cases hq
    exact ⟨[], (List.append_nil _).symm⟩
  case astore_n k =>
    obtain ⟨x, r, L, rfl, hL, hq⟩ := mStA_inv h
    cases hq
    exact ⟨[], (List.append_nil _).symm⟩
  case iinc k n =>
    obtain ⟨x, L, hv, hL, hq⟩ := mInc_inv h
    cases hq
    exact ⟨[], (List.append_nil _).symm⟩
  case iadd =>
    rcases mDef_inv (i := .iadd) h with ⟨x, y, r, v, rfl, hv, hq⟩ | ⟨x, y, r, v, rfl, hv, hq⟩ | ⟨x, y, r, v, rfl, hv, hq⟩ <;> cases hq <;> exact ⟨[], (List.append_nil _).symm⟩
  case isub =>
    rcases mDef_inv (i := .isub) h with ⟨x, y, r, v, rfl, hv, hq⟩ | ⟨x, y, r, v, rfl, hv, hq⟩ | ⟨x, y, r, v, rfl, hv, hq⟩ <;> cases hq <;> exact ⟨[], (List.append_nil _).symm⟩
  case imul =>
    rcases mDef_inv (i := .imul) h with ⟨x, y, r, v, rfl, hv, hq⟩ | ⟨x, y, r, v, rfl, hv, hq⟩ | ⟨x, y, r, v, rfl, hv, hq⟩ <;> cases hq <;> exact ⟨[], (List.append_nil _).symm⟩
  case iand =>
    rcases mDef_inv (i := .iand) h with ⟨x, y, r, v, rfl, hv, hq⟩ | ⟨x, y, r, v, rfl, hv, hq⟩ | ⟨x, y, r, v, rfl, hv, hq⟩ <;> cases hq <;> exact ⟨[], (List.append_nil _).symm⟩
  case ior =>
    rcases mDef_inv (i := .ior) h with ⟨x, y, r, v, rfl, hv, hq⟩ | ⟨x, y, r, v, rfl, hv, hq⟩ | ⟨x, y, r, v, rfl, hv, hq⟩ <;> cases hq <;> exact ⟨[], (List.append_nil _).symm⟩
  case ixor =>
    rcases mDef_inv (i := .ixor) h with ⟨x, y, r, v, rfl, hv, hq⟩ | ⟨x, y, r, v, rfl, hv, hq⟩ | ⟨x, y, r, v, rfl, hv, hq⟩ <;> cases hq <;> exact ⟨[], (List.append_nil _).symm⟩
  case ishl =>
    rcases mDef_inv (i := .ishl) h with ⟨x, y, r, v, rfl, hv, hq⟩ | ⟨x, y, r, v, rfl, hv, hq⟩ | ⟨x, y, r, v, rfl, hv, hq⟩ <;> cases hq <;> exact ⟨[], (List.append_nil _).symm⟩
  case ishr =>
    rcases mDef_inv (i := .ishr) h with ⟨x, y, r, v, rfl, hv, hq⟩ | ⟨x, y, r, v, rfl, hv, hq⟩ | ⟨x, y, r, v, rfl, hv, hq⟩ <;> cases hq <;> exact ⟨[], (List.append_nil _).symm⟩
  case iushr =>
    rcases mDef_inv (i := .iushr) h with ⟨x, y, r, v, rfl, hv, hq⟩ | ⟨x, y, r, v, rfl, hv, hq⟩ | ⟨x, y, r, v, rfl, hv, hq⟩ <;> cases hq <;> exact ⟨[], (List.append_nil _).symm⟩
  case idiv =>
    rcases mDef_inv (i := .idiv) h with ⟨x, y, r, v, rfl, hv, hq⟩ | ⟨x, y, r, v, rfl, hv, hq⟩ | ⟨x, y, r, v, rfl, hv, hq⟩ <;> cases hq <;> exact ⟨[], (List.append_nil _).symm⟩
  case irem =>
    rcases mDef_inv (i := .irem) h with ⟨x, y, r, v, rfl, hv, hq⟩ | ⟨x, y, r, v, rfl, hv, hq⟩ | ⟨x, y, r, v, rfl, hv, hq⟩ <;> cases hq <;> exact ⟨[], (List.append_nil _).symm⟩
  case ladd =>
    rcases mDef_inv (i := .ladd) h with ⟨x, y, r, v, rfl, hv, hq⟩ | ⟨x, y, r, v, rfl, hv, hq⟩ | ⟨x, y, r, v, rfl, hv, hq⟩ <;> cases hq <;> exact ⟨[], (List.append_nil _).symm⟩
  case lsub =>
    rcases mDef_inv (i := .lsub) h with ⟨x, y, r, v, rfl, hv, hq⟩ | ⟨x, y, r, v, rfl, hv, hq⟩ | ⟨x, y, r, v, rfl, hv, hq⟩ <;> cases hq <;> exact ⟨[], (List.append_nil _).symm⟩
  case lmul =>
    rcases mDef_inv (i := .lmul) h with ⟨x, y, r, v, rfl, hv, hq⟩ | ⟨x, y, r, v, rfl, hv, hq⟩ | ⟨x, y, r, v, rfl, hv, hq⟩ <;> cases hq <;> exact ⟨[], (List.append_nil _).symm⟩
  case land =>
    rcases mDef_inv (i := .land) h with ⟨x, y, r, v, rfl, hv, hq⟩ | ⟨x, y, r, v, rfl, hv, hq⟩ | ⟨x, y, r, v, rfl, hv, hq⟩ <;> cases hq <;> exact ⟨[], (List.append_nil _).symm⟩
  case lor =>
    rcases mDef_inv (i := .lor) h with ⟨x, y, r, v, rfl, hv, hq⟩ | ⟨x, y, r, v, rfl, hv, hq⟩ | ⟨x, y, r, v, rfl, hv, hq⟩ <;> cases hq <;> exact ⟨[], (List.append_nil _).symm⟩
  case lxor =>
    rcases mDef_inv (i := .lxor) h with ⟨x, y, r, v, rfl, hv, hq⟩ | ⟨x, y, r, v, rfl, hv, hq⟩ | ⟨x, y, r, v, rfl, hv, hq⟩ <;> cases hq <;> exact ⟨[], (List.append_nil _).symm⟩
  case ldiv =>
    rcases mDef_inv (i := .ldiv) h with ⟨x, y, r, v, rfl, hv, hq⟩ | ⟨x, y, r, v, rfl, hv, hq⟩ | ⟨x, y, r, v, rfl, hv, hq⟩ <;> cases hq <;> exact ⟨[], (List.append_nil _).symm⟩
  case lrem =>
    rcases mDef_inv (i := .lrem) h with ⟨x, y, r, v, rfl, hv, hq⟩ | ⟨x, y, r, v, rfl, hv, hq⟩ | ⟨x, y, r, v, rfl, hv, hq⟩ <;> cases hq <;> exact ⟨[], (List.append_nil _).symm⟩
  case lshl =>
    rcases mDef_inv (i := .lshl) h with ⟨x, y, r, v, rfl, hv, hq⟩ | ⟨x, y, r, v, rfl, hv, hq⟩ | ⟨x, y, r, v, rfl, hv, hq⟩ <;> cases hq <;> exact ⟨[], (List.append_nil _).symm⟩
  case lshr =>
    rcases mDef_inv (i := .lshr) h with ⟨x, y, r, v, rfl, hv, hq⟩ | ⟨x, y, r, v, rfl, hv, hq⟩ | ⟨x, y, r, v, rfl, hv, hq⟩ <;> cases hq <;> exact ⟨[], (List.append_nil _).symm⟩
  case lushr =>
    rcases mDef_inv (i := .lushr) h with ⟨x, y, r, v, rfl, hv, hq⟩ | ⟨x, y, r, v, rfl, hv, hq⟩ | ⟨x, y, r, v, rfl, hv, hq⟩ <;> cases hq <;> exact ⟨[], (List.append_nil _).symm⟩
  case ineg =>
    obtain ⟨x, r, rfl, hq⟩ := mUnI_inv h
    cases hq
    exact ⟨[], (List.append_nil _).symm⟩
  case i2l =>
    obtain ⟨x, r, rfl, hq⟩ := mUnI_inv h
    cases hq
    exact ⟨[], (List.append_nil _).symm⟩
  case i2b =>
    obtain ⟨x, r, rfl, hq⟩ := mUnI_inv h
    cases hq
    exact ⟨[], (List.append_nil _).symm⟩
  case lneg =>
    obtain ⟨x, r, rfl, hq⟩ := mUnL_inv h
    cases hq
    exact ⟨[], (List.append_nil _).symm⟩
  case l2i =>
    obtain ⟨x, r, rfl, hq⟩ := mUnL_inv h
    cases hq
    exact ⟨[], (List.append_nil _).symm⟩
  case lcmp =>
    obtain ⟨x, y, r, rfl, hq⟩ := mCmp_inv h
    cases hq
    exact ⟨[], (List.append_nil _).symm⟩
  case dup =>
    obtain ⟨v, r, rfl, hv, hq⟩ := mDup_inv h
    cases hq
    exact ⟨[], (List.append_nil _).symm⟩
  case pop =>
    obtain ⟨v, r, rfl, hv, hq⟩ := mPp_inv h
    cases hq
    exact ⟨[], (List.append_nil _).symm⟩
  case dup2 =>
    obtain ⟨x, y, r, rfl, hq⟩ := mDup2_inv h
    cases hq
    exact ⟨[], (List.append_nil _).symm⟩
  case ldc k =>
    rcases mLdc_inv h with ⟨v, hv, hq⟩ | ⟨v, hv, hq⟩ <;> cases hq <;> exact ⟨[], (List.append_nil _).symm⟩
  case ldc_w k =>
    obtain ⟨v, hv, hq⟩ := mLdcW_inv h
    cases hq
    exact ⟨[], (List.append_nil _).symm⟩
  case ldc2_w k =>
    obtain ⟨v, hv, hq⟩ := mLdc2_inv h
    cases hq
    exact ⟨[], (List.append_nil _).symm⟩
  case getfield k =>
    obtain ⟨a, r, ci, j, rfl, h1, h2, hq⟩ := mGet_inv h
    cases hq
    exact ⟨[], (List.append_nil _).symm⟩
  case putfield k =>
    obtain ⟨v, a, r, ci, j, w9, rfl, h1, h2, hq, hv⟩ := mPut_inv h
    cases hq
    rcases hv with ⟨z, rfl, hf, hk, rfl⟩ | ⟨z, rfl, hf, hk, rfl⟩ | ⟨z, rfl, hf, hk, hi, ho, rfl⟩ <;> exact ⟨[], (List.append_nil _).symm⟩
  case iaload =>
    obtain ⟨j, a, r, rfl, hv⟩ := mIal_inv h
    rcases hv with ⟨rfl, hm, ho, hq⟩ | ⟨n, hn, ho, hq⟩ <;> cases hq <;> exact ⟨[], (List.append_nil _).symm⟩
  case baload =>
    obtain ⟨j, a, r, n, rfl, hn, ho, hq⟩ := mBal_inv h
    cases hq
    exact ⟨[], (List.append_nil _).symm⟩
  case laload =>
    obtain ⟨j, a, r, n, rfl, hn, ho, hq⟩ := mLal_inv h
    cases hq
    exact ⟨[], (List.append_nil _).symm⟩
  case aaload =>
    obtain ⟨j, a, r, n, rfl, hn, ho, hq⟩ := mAal_inv h
    cases hq
    exact ⟨[], (List.append_nil _).symm⟩
  case iastore =>
    obtain ⟨v, j, a, r, n, rfl, hn, ho, hq⟩ := mIas_inv h
    cases hq
    exact ⟨[], (List.append_nil _).symm⟩
  case bastore =>
    obtain ⟨v, j, a, r, n, rfl, ho, hv⟩ := mBas_inv h
    rcases hv with ⟨hn, hq⟩ | ⟨hn, hq⟩ <;> cases hq <;> exact ⟨[], (List.append_nil _).symm⟩
  case lastore =>
    obtain ⟨v, j, a, r, n, rfl, hn, ho, hq⟩ := mLas_inv h
    cases hq
    exact ⟨[], (List.append_nil _).symm⟩
  case aastore =>
    obtain ⟨v, j, a, r, n, rfl, hn, ho, hv, hq⟩ := mAas_inv h
    cases hq
    exact ⟨[], (List.append_nil _).symm⟩
  case arraylength =>
    obtain ⟨a, r, rfl, hv⟩ := mAln_inv h
    rcases hv with ⟨rfl, hm, hq⟩ | ⟨n, hn, hq⟩ <;> cases hq <;> exact ⟨[], (List.append_nil _).symm⟩
  case newarray t =>
    obtain ⟨n, r, rfl, hn0, hn1, hlt, ht, hq⟩ := mNwa_inv h
    cases hq
    exact ⟨_, rfl⟩
  case anewarray k =>
    obtain ⟨n, r, rfl, hn0, hn1, hlt, ht, hq⟩ := mNwq_inv h
    cases hq
    exact ⟨_, rfl⟩
  case new k =>
    obtain ⟨ci, ht, hci, hlt, hq⟩ := mNwo_inv h
    cases hq
    exact ⟨_, rfl⟩
  case invokespecial k =>
    obtain ⟨a, r, rfl, hm, hd0, hr, hq⟩ := mIsp_inv h
    cases hq
    exact ⟨[], (List.append_nil _).symm⟩
  case invokestatic k =>
    obtain ⟨mj, nn, hg, hv⟩ := mIst_inv h
    rcases hv with ⟨rfl, hv⟩ | ⟨rfl, hv⟩ | ⟨rfl, hv⟩ | ⟨rfl, hv⟩
    · obtain ⟨n, dp, a, sp, a0, r, n0, n1, rfl, hd0, hr, g1, g2, g3, g4, g5, hv⟩ := mAcp_inv hv
      rcases hv with ⟨s0, s1, hq⟩ | ⟨s0, s1, hq⟩ <;> cases hq <;> exact ⟨[], (List.append_nil _).symm⟩
    · obtain ⟨x, y, r, rfl, hd0, hr, hq⟩ := mM2_inv hv
      cases hq
      exact ⟨[], (List.append_nil _).symm⟩
    · obtain ⟨x, y, r, rfl, hd0, hr, hq⟩ := mM2_inv hv
      cases hq
      exact ⟨[], (List.append_nil _).symm⟩
    · obtain ⟨x, r, rfl, hd0, hr, hq⟩ := mM1_inv hv
      cases hq
      exact ⟨[], (List.append_nil _).symm⟩
  case invokevirtual k =>
    obtain ⟨mj, nn, hg, hv⟩ := mIvt_inv h
    rcases hv with ⟨rfl, hv⟩ | ⟨rfl, hv⟩
    · obtain ⟨a, r, rfl, hd0, hr, ha0, ha1, hq⟩ := mSln_inv hv
      cases hq
      exact ⟨[], (List.append_nil _).symm⟩
    · obtain ⟨j, a, r, rfl, hd0, hr, ha0, ha1, ho, hq⟩ := mSch_inv hv
      cases hq
      exact ⟨[], (List.append_nil _).symm⟩
  all_goals exact absurd h (by simp [st1])

section PREF
variable {S : Nat × (Nat → Int32)}
set_option maxHeartbeats 1000000 in
theorem ex_pref : ∀ (n d mi pc : Nat) (Lo : mL) (st : List Value) (w : mW) (r : mO × mW), ex S n d mi pc Lo st w = some r → ∃ q, r.2.1 = w.1 ++ q := by
  intro n
  induction n with
  | zero =>
    intro d mi pc Lo st w r h
    cases h
  | succ n ih =>
    intro d mi pc Lo st w r h
    have tr : ∀ {a b c : List (Nat × Nat)}, (∃ q, b = a ++ q) → (∃ q, c = b ++ q) → ∃ q, c = a ++ q := by
      intro a b c h1 h2
      obtain ⟨q1, rfl⟩ := h1
      obtain ⟨q2, rfl⟩ := h2
      exact ⟨q1 ++ q2, by rw [List.append_assoc]⟩
    have brk : ∀ {c : Jvm.ClassFile.Cond} {x y : Int32} {A B : Option (mO × mW)}, (A = some r → ∃ q, r.2.1 = w.1 ++ q) → (B = some r → ∃ q, r.2.1 = w.1 ++ q) → mBr c x y A B = some r → ∃ q, r.2.1 = w.1 ++ q := by
      intro c x y A B hA hB h
      cases c <;> (unfold mBr at h; dsimp only at h; split at h <;> first | exact hA h | exact hB h)
    unfold ex at h
    split at h
    · cases h
    · split at h
      · rename_i hs
        exact tr (st1_pref hs) (ih _ _ _ _ _ _ _ h)
      · split at h
        · exact ih _ _ _ _ _ _ _ h
        · split at h
          · exact brk (ih _ _ _ _ _ _ _) (ih _ _ _ _ _ _ _) h
          · cases h
        · split at h
          · exact brk (ih _ _ _ _ _ _ _) (ih _ _ _ _ _ _ _) h
          · cases h
        · split at h
          · exact ih _ _ _ _ _ _ _ h
          · exact ih _ _ _ _ _ _ _ h
          · cases h
        · split at h
          · split at h
            · exact ih _ _ _ _ _ _ _ h
            · split at h
              · exact ih _ _ _ _ _ _ _ h
              · cases h
          · cases h
        · split at h
          · split at h
            · cases h; exact ⟨[], (List.append_nil _).symm⟩
            · cases h
          · cases h
        · split at h
          · split at h
            · cases h; exact ⟨[], (List.append_nil _).symm⟩
            · cases h
          · cases h
        · split at h
          · split at h
            · cases h; exact ⟨[], (List.append_nil _).symm⟩
            · cases h
          · cases h
        · split at h
          · cases h; exact ⟨_, rfl⟩
          · cases h
        · split at h
          · split at h
            · split at h
              · split at h
                · rename_i hcal
                  exact tr (ih _ _ _ _ _ _ _ hcal) (ih _ _ _ _ _ _ _ h)
                · cases h
              · cases h
            · cases h
          · cases h
        · split at h
          · split at h
            · split at h
              · split at h
                · rename_i hcal
                  exact tr (ih _ _ _ _ _ _ _ hcal) (ih _ _ _ _ _ _ _ h)
                · cases h
              · cases h
            · cases h
          · cases h
        · split at h
          · split at h
            · split at h
              · split at h
                · split at h
                  · split at h
                    · split at h
                      · rename_i hcal
                        have h2 := ih _ _ _ _ _ _ _ h
                        exact tr (ih _ _ _ _ _ _ _ hcal) h2
                      · rename_i hcal
                        exact tr (ih _ _ _ _ _ _ _ hcal) (ih _ _ _ _ _ _ _ h)
                      · cases h
                    · cases h
                  · cases h
                · split at h
                  · rename_i hcal
                    exact tr (ih _ _ _ _ _ _ _ hcal) (ih _ _ _ _ _ _ _ h)
                  · cases h
              · cases h
            · cases h
          · cases h
        · cases h
theorem ex_shape {n d mi pc : Nat} {Lo : mL} {st : List Value} {w : mW} {r : mO × mW} (h : ex S n d mi pc Lo st w = some r) {a : Nat} {q : Nat × Nat} (hq : (wS w)[a]? = some q) : (wS r.2)[a]? = some q := by
  obtain ⟨l, hl⟩ := ex_pref _ _ _ _ _ _ _ _ h
  show r.2.1[a]? = some q
  rw [hl, List.getElem?_append_left (List.getElem?_eq_some_iff.mp hq).1]
  exact hq
end PREF
end
