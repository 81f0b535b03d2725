section XEND
variable {p : Program} {l : Launch} {e : Env} {R : Room} {s : State} {m : MethodId} {args : Array Value} {below : List Frame} {meth : Method} {c : Code} {H : Heap} {locs : List Loc} {cells slots : Nat}
variable {free : Addr → Prop} {ls : Array Slot} {rest : List Value} {Qc : Array Value → State → Outcome → State → Prop} {XC : String → State → State → Prop}
theorem xx_throw {cc : ByteArray} {pc : Nat} (hexec : p.tables.exec = Jvm.exec) (hb : c.code = cc) (hl : l.stackTraces = false) {own cls : String} {names : List String} {ik ic mc ms : Nat} {A : Nat → Prop}
    (hown : s.vm.findClass own = some m.cls) (hcls : Bundle.fit cls = true) (hnames : ∀ n ∈ names, Bundle.fit n = true)
    (hk : (Cond.classLink own ik cls).before args s = true) (hini : (Cond.initialized cls).before args s = true) (hat : ∀ w ∈ vx_at0 own ic cls names, w.before args s = true)
    (hgood : ∀ w ∈ Cond.classLink own ik cls :: Cond.initialized cls :: vx_at0 own ic cls names, vx_ot w = true)
    (hU : vx_Zq Bundle.tN "UNASSIGNED_STACK" Bundle.steD A s s.heap) (hN : vx_Zq Bundle.tN "SUPPRESSED_SENTINEL" Bundle.listD A s s.heap) (hS : va_S A s.heap H locs) (hsize : ls.size = c.maxLocals)
    (d0 : decode cc pc = .ok (.new ik, 3)) (d3 : decode cc (pc + 3) = .ok (.dup, 1)) (d4 : decode cc (pc + 4) = .ok (.invokespecial ic, 3)) (d7 : decode cc (pc + 7) = .ok (.athrow, 1))
    (hout : ∀ x ∈ c.exceptionTable.toList, covers x (pc + 7) = false)
    (hRframes : names.length + 3 < R.frames) (hRlocals : (rest.map fun v => v.category).sum + (13 * (names.length + 1) + 42) ≤ R.locals) (hRcells : cells + 1 ≤ R.cells) (hRslots : slots + 6 ≤ R.slots) (hlocks : meth.locks = false)
    (hx : ∀ (t : State) (ce : Cell), s.vm.Alike t.vm → t.heap.size = H.size + 1 → (∀ q : Nat, q < H.size → t.heap[q]? = H[q]?) → t.heap[H.size]? = some ce → ce.vm = .none → s.vm.findClass cls = some ce.cls → XC cls s t)
    (hf : ∀ z ∈ locs, free z.base) (hc : cells + 1 ≤ mc) (hs : slots + 6 ≤ ms) :
    W p l e R s m args below meth c H locs cells slots (vx_MQ below Qc XC args s mc ms free) (F0 m pc ls rest) := by
  intro T hT X
  have htr : e.platform.stackTraces = false := (show e.platform.stackTraces = l.stackTraces by rw [X.admits.platform]).trans hl
  have Y := vx_rebase X (R' := { frames := R.frames, locals := R.locals, cells := 1, slots := 6 }) (Nat.le_refl _) (Nat.le_refl _) hRcells hRslots
  obtain ⟨s', hA⟩ : ∃ z, z = (T.setVm s.vm).setFrames (.invoking m args :: below) := ⟨_, rfl⟩
  rw [← hA] at Y
  have hvm : s'.vm = s.vm := by rw [hA]; rfl
  have hhp : s'.heap = H := by rw [hA]; exact hT
  have hW0 : s.WarmedH s'.vm := by rw [hvm]; exact State.WarmedH.refl s
  have hat' : ∀ w ∈ vx_at0 own ic cls names, w.before args s' = true := fun w hw => vx_ot_at hW0 hvm.symm (hgood w (List.mem_cons_of_mem _ (List.mem_cons_of_mem _ hw))) (hat w hw)
  have hk' : (Cond.classLink own ik cls).before args s' = true := vx_ot_at hW0 hvm.symm (hgood _ List.mem_cons_self) hk
  have hini' : (Cond.initialized cls).before args s' = true := vx_ot_at hW0 hvm.symm (hgood _ (List.mem_cons_of_mem _ List.mem_cons_self)) hini
  have hU' : vx_Zq Bundle.tN "UNASSIGNED_STACK" Bundle.steD A s' s'.heap := by rw [hhp]; exact vx_Zq.moved hW0.alike (hU.kept hS.2.1)
  have hN' : vx_Zq Bundle.tN "SUPPRESSED_SENTINEL" Bundle.listD A s' s'.heap := by rw [hhp]; exact vx_Zq.moved hW0.alike (hN.kept hS.2.1)
  have h : ∀ w ∈ Bundle.ownAtoms0 own ic cls names, w.before args s' = true := vx_own hat' (vx_isRefq hU'.1) (vx_isRefq hN'.1) hU'.2.word hN'.2.word
  have hown' : s'.vm.findClass own = some m.cls := by rw [hvm]; exact hown
  have hins : (Cond.instantiable cls 6).before args s' = true := h _ (by simp [Bundle.ownAtoms0])
  obtain ⟨vm₁, cX, kX, hfX, hkX, -, -, X₁, st1⟩ := Y.newCold hexec (own := own) (C := cls) (index := ik) (n := 6) hown' hk' hins hini'
    (g := F0 m pc ls rest) rfl (by rw [hb]; exact d0) (Nat.le_refl _) (Nat.le_refl _)
  generalize hT1 : (T.setVm vm₁).pushCell { cls := cX, slots := kX.instanceTypes.map defaultValue, vm := .none } = T1 at X₁ st1
  have hcat : (Value.ref T.heap.size).category = 1 := rfl
  have hcellA : T1.heap[T.heap.size]? = some (freshCell cX kX) := by rw [← hT1]; exact State.heap_pushCell_size _ _
  have d3' : decode c.code (pc + 3) = .ok (.dup, 1) := by rw [hb]; exact d3
  obtain ⟨U, hsteps, hrun, hend, hW, hsame, ce, hce, hO⟩ := X₁.ctorThrow0 hexec htr (own := own) (cls := cls) (names := names) (ic := ic) hown' hcls hnames h (fun x hx => nomatch hx) hfX hkX hcellA (by rw [hhp, hT]; exact Nat.le_refl _)
    (g := { method := m, pc := pc + 4, locals := ls, stack := .ref T.heap.size :: .ref T.heap.size :: rest, locked := none }) rfl hsize rfl rfl (rest := rest) rfl
    (by rw [hb]; exact d4) (by rw [hb]; exact d7) hout hRframes (by simp only [List.map_cons, List.sum_cons, hcat]; omega) hlocks
  have hsame9 := hsame.2.2.1
  obtain ⟨f1, f2⟩ := vx_frame hsame
  rw [hhp] at f1 f2
  have hWs : s.WarmedH U.vm := State.WarmedH.trans hW0 hW
  have hcl : s.vm.findClass cls = some ce.cls := by
    have h9 := hO.cls
    rw [hvm] at h9
    exact h9
  have hall : s.sameButNew ({ U with vm := s.vm } : State) locs mc ms := by
    subst hA
    obtain ⟨e1, e2⟩ := hsame
    rw [State.setFrames_setFrames] at e1
    have h2 : (T.setVm s.vm).sameButNew ({ U with vm := s.vm } : State) [] (0 + 1) (0 + 6) := ⟨e1, e2⟩
    have h3 := X.same.trans h2
    rw [List.append_nil] at h3
    exact h3.mono hc hs
  have hsz9 : U.heap.size = H.size + 1 := by
    have h9 : U.heap.size ≤ s'.heap.size + (0 + 1) := hsame9
    have h8 := (Array.getElem?_eq_some_iff.mp hce).1
    rw [hhp] at h9
    rw [hT] at h8
    omega
  refine ⟨U, ?_, .threw T.heap.size, hrun, hend, Or.inr ⟨T.heap.size, rfl, cls, ce, locs, hx U ce hWs.alike hsz9 (fun q hq => f2 q hq (fun z hz => nomatch hz)) (by rw [← hT]; exact hce) hO.vm hcl, hce, hO.vm, hcl, hWs, hall, hf⟩⟩
  refine st1 _ ?_
  show Steps p.tables e below (T1.setTop { method := m, pc := pc + 3, locals := ls, stack := .ref T.heap.size :: rest, locked := none }) _
  jvm_step X₁.here [X₁.here.top, hexec, d3', Value.category]
  exact hsteps
end XEND
def exN : String := "java/util/NoSuchElementException"
abbrev exS : List String := ["java/lang/RuntimeException", "java/lang/Exception"]
def exL : List Cond := vx_at0 "HouseClaps" 134 exN exS
set_option maxRecDepth 100000 in
theorem exL_in : ∀ w ∈ exL, w ∈ lw_tbl := by decide +kernel
def isDC : Cond → Bool
  | .declares _ => true
  | .castable _ _ => true
  | _ => false
theorem exL_dc : ∀ w ∈ exL, goodWord w = true ∨ isDC w = true := by decide +kernel
theorem exL_ot : ∀ w ∈ Cond.classLink "HouseClaps" 132 exN :: Cond.initialized exN :: exL, vx_ot w = true := by decide +kernel
theorem exL_cast : Cond.castable exN exN ∈ exL := by decide +kernel
def ExE (base : Nat) (U : State) : Prop := vx_Zq Bundle.tN "UNASSIGNED_STACK" Bundle.steD (fun q => base ≤ q) U U.heap ∧ vx_Zq Bundle.tN "SUPPRESSED_SENTINEL" Bundle.listD (fun q => base ≤ q) U U.heap ∧ ∀ w ∈ exL, isDC w = true → va_Nw w U
theorem dc_warm {w : Cond} (h : isDC w = true) {s U : State} (hW : s.WarmedH U.vm) (hw : va_Nw w s) : va_Nw w U := by
  cases w with
  | declares x => exact va_Nw.warmD hW hw
  | castable C T => exact va_Nw.warmC hW hw
  | _ => cases h
theorem dc_tab {w : Cond} (h : isDC w = true) : w.onTables = true := by
  cases w with
  | declares x => rfl
  | castable C T => rfl
  | _ => cases h
theorem ExE_keeps {base : Nat} : SxKeeps base (ExE base) := by
  refine ⟨fun s U H locs h hS hb hU hW => ⟨?_, ?_, fun w hw hd => dc_warm hd hW (h.2.2 w hw hd)⟩, fun U g mk a h => ⟨vx_Zq.moved (Vm.Alike.refl U.vm) h.1, vx_Zq.moved (Vm.Alike.refl U.vm) h.2.1, fun w hw hd => va_Nw.same (u := U) (U := U.calling g mk a) (dc_tab hd) rfl (h.2.2 w hw hd)⟩⟩
  · rw [hU]; exact vx_Zq.moved hW.alike (h.1.kept hS.2.1)
  · rw [hU]; exact vx_Zq.moved hW.alike (h.2.1.kept hS.2.1)
theorem ExE_words {base : Nat} {args : Array Value} {s : State} (hts : ∀ w ∈ lwG, w.before args s = true) (h : ExE base s) : ∀ w ∈ exL, w.before args s = true := by
  intro w hw
  rcases exL_dc w hw with hg | hd
  · exact hts w (lwG_in (exL_in w hw) hg)
  · exact va_Nw.use (dc_tab hd) (h.2.2 w hw hd)
theorem exK : Cond.classLink "HouseClaps" 132 exN ∈ lwG := lwG_in (gTb5 (p := 150) rfl) rfl
theorem exI : Cond.initialized exN ∈ lwG := lwG_in (gTb1 (p := 22) rfl) rfl
theorem exKL : Cond.classLink RL 13 exN ∈ lwG := lwG_in (gTb5 (p := 145) rfl) rfl
/-- where the three methods throw, the making and the throw stand one behind the other -/
theorem exAt : ∀ mj, (mj = 103 ∨ mj = 108 ∨ mj = 124) → ∀ pc x, cod mj pc = some (.new x, 3) → x = 132 ∧ cod mj (pc + 3) = some (.dup, 1) ∧ cod mj (pc + 4) = some (.invokespecial 134, 3) ∧ cod mj (pc + 7) = some (.athrow, 1) := by
  have key : ∀ (l : List (Nat × Instr × Nat)) (pc : Nat) (i : Instr) (n : Nat), mFind l pc = some (i, n) → (pc, i, n) ∈ l := by
    intro l pc i n
    induction l with
    | nil => intro h; cases h
    | cons q r ih =>
      obtain ⟨p, z⟩ := q
      intro h
      unfold mFind at h
      split at h
      · rename_i hp
        have hp : p = pc := Nat.eq_of_beq_eq_true hp
        cases h
        subst hp
        exact List.mem_cons_self
      · exact List.mem_cons_of_mem _ (ih h)
  have chk : ∀ mj ∈ [103, 108, 124], ∀ q ∈ gCs.getD mj [], (match q.2.1 with | .new x => decide (x = 132 ∧ cod mj (q.1 + 3) = some (.dup, 1) ∧ cod mj (q.1 + 4) = some (.invokespecial 134, 3) ∧ cod mj (q.1 + 7) = some (.athrow, 1)) | _ => true) = true := by decide +kernel
  intro mj hmj pc x h
  have h1 := chk mj (by rcases hmj with rfl | rfl | rfl <;> decide) _ (key _ _ _ _ h)
  exact of_decide_eq_true h1
