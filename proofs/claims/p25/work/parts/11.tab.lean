def lwG : List Cond := lw_tbl.filter goodWord
theorem lwG_in {w : Cond} (h : w ∈ lw_tbl) (g : goodWord w = true) : w ∈ lwG := List.mem_filter.mpr ⟨h, g⟩
theorem lwG_good {w : Cond} (h : w ∈ lwG) : goodWord w = true := (List.mem_filter.mp h).2
theorem mLk_mem {α : Type} : ∀ {l : List (Nat × Nat × α)} {o x : Nat} {v : α}, mLk l o x = some v → (o, x, v) ∈ l
  | [], _, _, _, h => by cases h
  | (a, b, u) :: r, o, x, v, h => by
    unfold mLk at h
    split at h
    · rename_i hc
      rw [Bool.and_eq_true] at hc
      have h1 : a = o := Nat.eq_of_beq_eq_true hc.1
      have h2 : b = x := Nat.eq_of_beq_eq_true hc.2
      cases h
      subst h1
      subst h2
      exact List.mem_cons_self
    · exact List.mem_cons_of_mem _ (mLk_mem h)
theorem mZip {α β : Type} {f : α × β → Bool} : ∀ {l : List α} {r : List β}, (l.zip r).all f = true → l.length = r.length → ∀ a ∈ l, ∃ b, f (a, b) = true
  | [], _, _, _, a, h => by cases h
  | x :: l, [], _, h, _, _ => by cases h
  | x :: l, y :: r, h, hl, a, ha => by
    rw [List.zip_cons_cons, List.all_cons, Bool.and_eq_true] at h
    rcases List.mem_cons.mp ha with rfl | ha
    · exact ⟨y, h.1⟩
    · exact mZip h.2 (by simpa using hl) a ha
theorem gF_ok {o x ci k : Nat} (h : mLk gF o x = some (ci, k)) : Cond.fieldLink (gOwn.getD o "") x ((gc ci).2.1 k).1 ((gc ci).2.1 k).2.1 ((gc ci).2.1 k).2.2.1 ∈ lwG ∧ k < (gc ci).2.2 ∧ ci < 11 := by
  obtain ⟨p, hp⟩ := mZip gF_ck gF_len _ (mLk_mem h)
  unfold gFck at hp
  rw [Bool.and_eq_true, Bool.and_eq_true] at hp
  exact ⟨lwG_in (gIn (of_decide_eq_true hp.1.1)) rfl, of_decide_eq_true hp.1.2, of_decide_eq_true hp.2⟩
theorem gC_ok {o x mj nn : Nat} (h : mLk gCall o x = some (mj, nn)) : ((nn = 0 ∧ Cond.methodLink (gOwn.getD o "") x (gSpY mj) ∈ lwG) ∨ (nn = 1 ∧ Cond.methodLinkNest (gOwn.getD o "") x (gSpY mj) "HouseClaps" ∈ lw_tbl)) ∧ (mj < 253 ∨ 1000 ≤ mj) ∧ mj ≠ 0 := by
  obtain ⟨p, hp⟩ := mZip gC_ck gC_len _ (mLk_mem h)
  unfold gCck at hp
  rw [Bool.and_eq_true, Bool.and_eq_true, Bool.and_eq_true, Bool.or_eq_true, Bool.or_eq_true] at hp
  obtain ⟨⟨⟨h1, h2⟩, h3⟩, h4⟩ := hp
  have h1 := gIn (of_decide_eq_true h1)
  refine ⟨?_, ?_, ?_⟩
  · rcases h3 with h3 | h3
    · have h3 : nn = 0 := of_decide_eq_true h3
      subst h3
      exact Or.inl ⟨rfl, lwG_in h1 rfl⟩
    · have h3 : nn = 1 := of_decide_eq_true h3
      subst h3
      exact Or.inr ⟨rfl, h1⟩
  · rcases h2 with h2 | h2
    · exact Or.inl (of_decide_eq_true h2)
    · exact Or.inr (of_decide_eq_true h2)
  · intro z
    subst z
    simp at h4
theorem gN_ok {o x ci : Nat} (h : mLk gNew o x = some ci) : Cond.classLink (gOwn.getD o "") x (gc ci).1 ∈ lwG ∧ ci < 12 := by
  obtain ⟨p, hp⟩ := mZip gN_ck gN_len _ (mLk_mem h)
  unfold gNck at hp
  rw [Bool.and_eq_true] at hp
  exact ⟨lwG_in (gIn (of_decide_eq_true hp.1)) rfl, of_decide_eq_true hp.2⟩
theorem gK_int {o x : Nat} {v : Int32} (h : mLk gCon o x = some (.int v)) : Cond.constant (gOwn.getD o "") x v ∈ lwG := by
  obtain ⟨p, hp⟩ := mZip gK_ck gK_len _ (mLk_mem h)
  exact lwG_in (gIn (of_decide_eq_true hp)) rfl
theorem gK_long {o x : Nat} {v : Int64} (h : mLk gCon o x = some (.long v)) : Cond.constantLong (gOwn.getD o "") x v ∈ lwG := by
  obtain ⟨p, hp⟩ := mZip gK_ck gK_len _ (mLk_mem h)
  exact lwG_in (gIn (of_decide_eq_true hp)) rfl
theorem gWsG {ci : Nat} (h : ci < 11) : ∀ w ∈ u_ws (gc ci).1 (gc ci).2.1 (gc ci).2.2, w ∈ lwG := by
  intro w hw
  refine lwG_in ((gOkAll ci h).1 w hw) ?_
  obtain ⟨k, -, rfl⟩ := List.mem_map.mp hw
  unfold u_lay
  split <;> rfl
theorem gM_ok {mi : Nat} (h : mi < 253) (hl : gLw mi = false) : gMOK mi := gMa_253 mi h hl
theorem gOwnC : ∀ ci, ci < 11 → gOwn.getD ci "" = (gc ci).1 := by decide +kernel
theorem gD_at {mi pc len : Nat} {i : Instr} (h : mi < 253) (hc : cod mi pc = some (i, len)) : decode (gMe mi).2.1 pc = .ok (i, len) ∧ mFwd pc i = true ∧ (mLen i = len ∨ mLen i = 0) := by
  have ha := gDa_253 mi h
  have hm : ∀ (l : List (Nat × Instr × Nat)), mFind l pc = some (i, len) → (pc, i, len) ∈ l := by
    intro l
    induction l with
    | nil => intro h; cases h
    | cons q r ih =>
      obtain ⟨p, z⟩ := q
      intro h
      unfold mFind at h
      split at h
      · rename_i hp
        have hp : p = pc := Nat.eq_of_beq_eq_true hp
        cases h
        subst hp
        exact List.mem_cons_self
      · exact List.mem_cons_of_mem _ (ih h)
  have hx := List.all_eq_true.mp ha _ (hm _ hc)
  unfold gDck at hx
  rw [Bool.and_eq_true, Bool.and_eq_true, Bool.or_eq_true] at hx
  exact ⟨of_decide_eq_true hx.1.1, hx.1.2, hx.2.imp of_decide_eq_true of_decide_eq_true⟩
theorem gA_int : Cond.arrayClass .int ∈ lwG := lwG_in (gTb1 (p := 50) rfl) rfl
theorem gA_long : Cond.arrayClass .long ∈ lwG := lwG_in (gTb1 (p := 147) rfl) rfl
theorem gA_byte : Cond.arrayClass .byte ∈ lwG := lwG_in (gTb3 (p := 225) rfl) rfl
theorem gA_bool : Cond.arrayClass .boolean ∈ lwG := lwG_in (gTb6 (p := 227) rfl) rfl
theorem gA_ev : Cond.arrayOver (.object RX2) ∈ lw_tbl := gTb1 (p := 192) rfl
theorem gOi : Cond.instanceMethod objectInit ∈ lwG := lwG_in (gTb1 (p := 31) rfl) rfl
theorem gOc : Cond.code objectInit ⟨#[0xb1]⟩ 1 none ∈ lwG := lwG_in (gTb1 (p := 32) rfl) rfl
theorem gMmin : Cond.static Lib.Math.min.name ∈ lwG := lwG_in (gTb3 (p := 24) rfl) rfl
theorem gMminC : Cond.code Lib.Math.min.name Lib.Math.min.code 2 (some .int) ∈ lwG := lwG_in (gTb3 (p := 25) rfl) rfl
theorem gMmax : Cond.static Lib.Math.max.name ∈ lwG := lwG_in (gTb3 (p := 202) rfl) rfl
theorem gMmaxC : Cond.code Lib.Math.max.name Lib.Math.max.code 2 (some .int) ∈ lwG := lwG_in (gTb3 (p := 203) rfl) rfl
theorem gMabs : Cond.static Lib.Math.abs.name ∈ lwG := lwG_in (gTb5 (p := 231) rfl) rfl
theorem gMabsC : Cond.code Lib.Math.abs.name Lib.Math.abs.code 1 (some .int) ∈ lwG := lwG_in (gTb5 (p := 232) rfl) rfl
theorem gMini : Cond.initialized "java/lang/Math" ∈ lwG := lwG_in (gTb1 (p := 13) rfl) rfl
theorem gSyi : Cond.initialized "java/lang/System" ∈ lwG := lwG_in (gTb1 (p := 18) rfl) rfl
theorem gCps : Cond.static arraycopyName ∈ lwG := lwG_in (gTb3 (p := 214) rfl) rfl
theorem gCpn : Cond.native arraycopyName ∈ lwG := lwG_in (gTb3 (p := 215) rfl) rfl
