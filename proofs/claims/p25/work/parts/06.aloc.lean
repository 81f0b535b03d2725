section
section LC
variable {α β : Type} {w cc : ByteArray} {a : Nat}
def Lc (w cc : ByteArray) (a : Nat) (m m' : Jvm.ClassFile.Decoder α) : Prop := ∀ p x q, m w p = .ok (x, q) → m' cc (a + p) = .ok (x, a + q)
def Wn (w cc : ByteArray) (a : Nat) : Prop := ∀ p, (h : p < w.size) → ∃ h' : a + p < cc.size, w[p] = cc[a + p]
theorem Lc_pure {x : α} : Lc w cc a (pure x) (pure x) := by
  intro p y q h
  cases h
  rfl
theorem Lc_throw {e : Jvm.ClassFile.DecodeError} {m' : Jvm.ClassFile.Decoder α} : Lc w cc a (throw e) m' := by
  intro p y q h
  cases h
theorem Lc_bind {m m' : Jvm.ClassFile.Decoder α} {f f' : α → Jvm.ClassFile.Decoder β} (h : Lc w cc a m m') (g : ∀ x, Lc w cc a (f x) (f' x)) : Lc w cc a (m >>= f) (m' >>= f') := by
  intro p y q e
  have e1 : (match m w p with | .ok (x, q) => f x w q | .error z => .error z) = (.ok (y, q) : Except Jvm.ClassFile.DecodeError (β × Nat)) := by
    rw [← e]
    show _ = (m w p).bind _
    cases m w p <;> rfl
  show (m' cc (a + p)).bind _ = _
  cases hm : m w p with
  | error z =>
    rw [hm] at e1
    cases e1
  | ok v =>
    obtain ⟨x, q1⟩ := v
    rw [hm] at e1
    rw [h p x q1 hm]
    exact g x q1 y q e1
theorem Lc_u1 (hw : Wn w cc a) : Lc w cc a Jvm.ClassFile.Reader.u1 Jvm.ClassFile.Reader.u1 := by
  intro p x q h
  have e : ∀ (b : ByteArray) (p : Nat), (Jvm.ClassFile.Reader.u1 : Jvm.ClassFile.Decoder Nat) b p = if h : p < b.size then .ok (b[p].toNat, p + 1) else .error (Jvm.ClassFile.HasTruncated.truncated p) := by
    intro b p
    unfold Jvm.ClassFile.Reader.u1
    show (if h : p < b.size then _ else _ : Jvm.ClassFile.Decoder Nat) b p = _
    split <;> rfl
  rw [e] at h ⊢
  by_cases hp : p < w.size
  · obtain ⟨h1, h2⟩ := hw p hp
    rw [dif_pos hp] at h
    rw [dif_pos h1, ← h2]
    cases h
    rfl
  · rw [dif_neg hp] at h
    cases h
theorem Lc_u2 (hw : Wn w cc a) : Lc w cc a Jvm.ClassFile.Reader.u2 Jvm.ClassFile.Reader.u2 := Lc_bind (Lc_u1 hw) (fun _ => Lc_bind (Lc_u1 hw) (fun _ => Lc_pure))
theorem Lc_map {m m' : Jvm.ClassFile.Decoder α} {f : α → β} (h : Lc w cc a m m') : Lc w cc a (f <$> m) (f <$> m') := Lc_bind h (fun _ => Lc_pure)
end LC
end
section
section LD
variable {α β : Type} {w cc : ByteArray} {a : Nat}
def okOp (n : Nat) : Bool := !(Nat.beq n 170 || Nat.beq n 171 || Nat.beq n 185 || Nat.beq n 186 || Nat.beq n 196 || Nat.beq n 197)
theorem Lc_bind0 {m m' : Jvm.ClassFile.Decoder α} {f f' : α → Jvm.ClassFile.Decoder β} (h : Lc w cc a m m') (g : ∀ x q, m w 0 = .ok (x, q) → Lc w cc a (f x) (f' x)) : ∀ y q, (m >>= f) w 0 = .ok (y, q) → (m' >>= f') cc (a + 0) = .ok (y, a + q) := by
  intro y q e
  have e1 : (match m w 0 with | .ok (x, q) => f x w q | .error z => .error z) = (.ok (y, q) : Except Jvm.ClassFile.DecodeError (β × Nat)) := by
    rw [← e]
    show _ = (m w 0).bind _
    cases m w 0 <;> rfl
  show (m' cc (a + 0)).bind _ = _
  cases hm : m w 0 with
  | error z =>
    rw [hm] at e1
    cases e1
  | ok v =>
    obtain ⟨x, q1⟩ := v
    rw [hm] at e1
    rw [h 0 x q1 hm]
    exact g x q1 hm q1 y q e1
theorem Lc_s1 (hw : Wn w cc a) : Lc w cc a Jvm.ClassFile.Reader.s1 Jvm.ClassFile.Reader.s1 := Lc_map (Lc_u1 hw)
theorem Lc_s2 (hw : Wn w cc a) : Lc w cc a Jvm.ClassFile.Reader.s2 Jvm.ClassFile.Reader.s2 := Lc_map (Lc_u2 hw)
theorem Lc_u4 (hw : Wn w cc a) : Lc w cc a Jvm.ClassFile.Reader.u4 Jvm.ClassFile.Reader.u4 := Lc_bind (Lc_u2 hw) (fun _ => Lc_bind (Lc_u2 hw) (fun _ => Lc_pure))
theorem Lc_s4 (hw : Wn w cc a) : Lc w cc a Jvm.ClassFile.Reader.s4 Jvm.ClassFile.Reader.s4 := Lc_map (Lc_u4 hw)
theorem Lc_newarray (hw : Wn w cc a) {b c : Nat} : Lc w cc a (Jvm.ClassFile.Decoder.newarray b) (Jvm.ClassFile.Decoder.newarray c) := by
  unfold Jvm.ClassFile.Decoder.newarray
  refine Lc_bind (Lc_u1 hw) (fun x => ?_)
  split <;> first | exact Lc_pure | exact Lc_throw
set_option maxRecDepth 20000 in
set_option maxHeartbeats 4000000 in
theorem Lc_instr (hw : Wn w cc a) (hb : ∀ x q, (Jvm.ClassFile.Reader.u1 : Jvm.ClassFile.Decoder Nat) w 0 = .ok (x, q) → okOp x = true) {b c : Nat} : ∀ y q, (Jvm.ClassFile.Decoder.instr b) w 0 = .ok (y, q) → (Jvm.ClassFile.Decoder.instr c) cc (a + 0) = .ok (y, a + q) := by
  unfold Jvm.ClassFile.Decoder.instr
  refine Lc_bind0 (Lc_u1 hw) (fun x q e => ?_)
  have hx := hb x q e
  clear e hb
  split <;> first | exact Lc_pure | exact Lc_throw | exact Lc_bind (Lc_u1 hw) (fun _ => Lc_pure) | exact Lc_bind (Lc_u2 hw) (fun _ => Lc_pure) | exact Lc_bind (Lc_s1 hw) (fun _ => Lc_pure) | exact Lc_bind (Lc_s2 hw) (fun _ => Lc_pure) | exact Lc_bind (Lc_s4 hw) (fun _ => Lc_pure) | exact Lc_newarray hw | exact absurd hx (by decide) | exact Lc_bind (Lc_u1 hw) (fun _ => Lc_bind (Lc_s1 hw) (fun _ => Lc_pure))
end LD
end
section
def mLen : Instr → Nat
  | .bipush _ => 2
  | .ldc _ => 2
  | .iload _ => 2
  | .lload _ => 2
  | .aload _ => 2
  | .istore _ => 2
  | .lstore _ => 2
  | .astore _ => 2
  | .newarray _ => 2
  | .sipush _ => 3
  | .ldc_w _ => 3
  | .ldc2_w _ => 3
  | .iinc _ _ => 3
  | .getfield _ => 3
  | .putfield _ => 3
  | .anewarray _ => 3
  | .new _ => 3
  | .invokespecial _ => 3
  | .invokestatic _ => 3
  | .invokevirtual _ => 3
  | .goto _ => 3
  | .ifCond _ _ => 3
  | .if_icmp _ _ => 3
  | .ifnonnull _ => 3
  | .tableswitch _ _ _ _ => 0
  | _ => 1
def mFwd (pc : Nat) : Instr → Bool
  | .goto o => decide (0 ≤ (pc : Int) + o)
  | .ifCond _ o => decide (0 ≤ (pc : Int) + o)
  | .if_icmp _ o => decide (0 ≤ (pc : Int) + o)
  | .ifnonnull o => decide (0 ≤ (pc : Int) + o)
  | .tableswitch d _ _ os => decide (0 ≤ (pc : Int) + d) && os.toList.all (fun o => decide (0 ≤ (pc : Int) + o))
  | _ => true
def gDck (cc : ByteArray) (e : Nat × Instr × Nat) : Bool := decide (decode cc e.1 = .ok (e.2.1, e.2.2)) && mFwd e.1 e.2.1 && (decide (mLen e.2.1 = e.2.2) || decide (mLen e.2.1 = 0))
end
section
section LE
def gFk (k : List UInt8 → Bool) : List UInt8 → Bool
  | [] => k []
  | a :: l => k (a :: l)
theorem gFk_eq {k : List UInt8 → Bool} : ∀ {l : List UInt8}, gFk k l = k l
  | [] => rfl
  | _ :: _ => rfl
def gOpk (w : ByteArray) : Bool := match (Jvm.ClassFile.Reader.u1 : Jvm.ClassFile.Decoder Nat) w 0 with
  | .ok (x, _) => okOp x
  | .error _ => false
def gWck (l : List UInt8) (e : Nat × Instr × Nat) : Bool := gOpk ⟨⟨l.take e.2.2⟩⟩ && decide (decode ⟨⟨l.take e.2.2⟩⟩ 0 = .ok (e.2.1, e.2.2))
def gScan (cc : ByteArray) : List (Nat × Instr × Nat) → Nat → List UInt8 → Bool
  | [], _, _ => true
  | e :: r, p, l => Nat.ble p e.1 && gFk (fun l1 => (gWck l1 e || decide (decode cc e.1 = .ok (e.2.1, e.2.2))) && (mFwd e.1 e.2.1 && ((decide (mLen e.2.1 = e.2.2) || decide (mLen e.2.1 = 0)) && gScan cc r e.1 l1))) (l.drop (e.1 - p))
theorem gScan_c {cc : ByteArray} {e : Nat × Instr × Nat} {r : List (Nat × Instr × Nat)} {p : Nat} {l : List UInt8} : gScan cc (e :: r) p l = (Nat.ble p e.1 && gFk (fun l1 => (gWck l1 e || decide (decode cc e.1 = .ok (e.2.1, e.2.2))) && (mFwd e.1 e.2.1 && ((decide (mLen e.2.1 = e.2.2) || decide (mLen e.2.1 = 0)) && gScan cc r e.1 l1))) (l.drop (e.1 - p))) := rfl
theorem dec_loc {w cc : ByteArray} {a n : Nat} {i : Instr} (hw : Wn w cc a) (hb : gOpk w = true) (h : decode w 0 = .ok (i, n)) : decode cc a = .ok (i, n) := by
  have hx : ∀ x q, (Jvm.ClassFile.Reader.u1 : Jvm.ClassFile.Decoder Nat) w 0 = .ok (x, q) → okOp x = true := by
    intro x q e
    unfold gOpk at hb
    rw [e] at hb
    exact hb
  have e : ∀ (b : ByteArray) (p : Nat), decode b p = match Jvm.ClassFile.Decoder.instr p b p with | .ok (i, q) => .ok (i, q - p) | .error z => .error z := by
    intro b p
    show (Jvm.ClassFile.Decoder.instr p b p).bind _ = _
    cases Jvm.ClassFile.Decoder.instr p b p <;> rfl
  rw [e] at h ⊢
  cases hm : Jvm.ClassFile.Decoder.instr 0 w 0 with
  | error z =>
    rw [hm] at h
    cases h
  | ok v =>
    obtain ⟨j, q⟩ := v
    rw [hm] at h
    have g : Jvm.ClassFile.Decoder.instr a cc a = .ok (j, a + q) := Lc_instr hw hx (b := 0) (c := a) j q hm
    rw [g]
    have h : (.ok (j, q) : Except Jvm.ClassFile.DecodeError (Instr × Nat)) = .ok (i, n) := h
    show (.ok (j, a + q - a) : Except Jvm.ClassFile.DecodeError (Instr × Nat)) = _
    rw [Nat.add_sub_cancel_left]
    exact h
theorem Wn_take {cc : ByteArray} {a n : Nat} {l : List UInt8} (h : l = cc.data.toList.drop a) : Wn ⟨⟨l.take n⟩⟩ cc a := by
  intro p hp
  have hp' : p < (l.take n).length := hp
  have h1 : p < l.length := by
    rw [List.length_take] at hp'
    omega
  have h2 : a + p < cc.data.toList.length := by
    rw [h, List.length_drop] at h1
    omega
  refine ⟨h2, ?_⟩
  show (l.take n)[p] = cc.data.toList[a + p]
  subst h
  rw [List.getElem_take, List.getElem_drop]
theorem gScan_ok {cc : ByteArray} : ∀ {L : List (Nat × Instr × Nat)} {p : Nat} {l : List UInt8}, l = cc.data.toList.drop p → gScan cc L p l = true → L.all (gDck cc) = true
  | [], _, _, _, _ => rfl
  | e :: r, p, l, hl, h => by
    rw [gScan_c] at h
    rw [gFk_eq, Bool.and_eq_true, Bool.and_eq_true, Bool.and_eq_true, Bool.and_eq_true] at h
    obtain ⟨h1, h2, h3, h4, h5⟩ := h
    have h1 := Nat.le_of_ble_eq_true h1
    have hl1 : l.drop (e.1 - p) = cc.data.toList.drop e.1 := by
      rw [hl, List.drop_drop]
      congr 1
      omega
    have h2 : decode cc e.1 = .ok (e.2.1, e.2.2) := by
      rw [Bool.or_eq_true] at h2
      rcases h2 with h2 | h2
      · unfold gWck at h2
        rw [Bool.and_eq_true] at h2
        exact dec_loc (Wn_take hl1) h2.1 (of_decide_eq_true h2.2)
      · exact of_decide_eq_true h2
    rw [List.all_cons, gScan_ok hl1 h5, Bool.and_true]
    unfold gDck
    rw [decide_eq_true h2, h3, h4]
    rfl
theorem gScan0 {cc : ByteArray} {L : List (Nat × Instr × Nat)} (h : gScan cc L 0 cc.data.toList = true) : L.all (gDck cc) = true := gScan_ok rfl h
end LE
end
section
set_option maxRecDepth 100000 in
theorem gD0 : gC0.all (gDck cL_law) = true := gScan0 (by decide +kernel)
set_option maxRecDepth 100000 in
theorem gD1 : gC1.all (gDck cX0_init) = true := gScan0 (by decide +kernel)
set_option maxRecDepth 100000 in
theorem gD2 : gC2.all (gDck cX0_readCues) = true := gScan0 (by decide +kernel)
set_option maxRecDepth 100000 in
theorem gD3 : gC3.all (gDck cX0_readCue) = true := gScan0 (by decide +kernel)
set_option maxRecDepth 100000 in
theorem gD4 : gC4.all (gDck cX0_readSeat) = true := gScan0 (by decide +kernel)
set_option maxRecDepth 100000 in
theorem gD5 : gC5.all (gDck cX1_init) = true := gScan0 (by decide +kernel)
set_option maxRecDepth 100000 in
theorem gD6 : gC6.all (gDck cX1_forget) = true := gScan0 (by decide +kernel)
set_option maxRecDepth 100000 in
theorem gD7 : gC7.all (gDck cX1_reach) = true := gScan0 (by decide +kernel)
set_option maxRecDepth 100000 in
theorem gD8 : gC8.all (gDck cX1_keep) = true := gScan0 (by decide +kernel)
set_option maxRecDepth 100000 in
theorem gD9 : gC9.all (gDck cX1_isUp) = true := gScan0 (by decide +kernel)
set_option maxRecDepth 100000 in
theorem gD10 : gC10.all (gDck cX1_height) = true := gScan0 (by decide +kernel)
set_option maxRecDepth 100000 in
theorem gD11 : gC11.all (gDck cX1_likeBehind) = true := gScan0 (by decide +kernel)
set_option maxRecDepth 100000 in
theorem gD12 : gC12.all (gDck cX1_areAlike) = true := gScan0 (by decide +kernel)
set_option maxRecDepth 100000 in
theorem gD13 : gC13.all (gDck cX2_init) = true := gScan0 (by decide +kernel)
set_option maxRecDepth 100000 in
theorem gD14 : gC14.all (gDck cX2_clear) = true := gScan0 (by decide +kernel)
set_option maxRecDepth 100000 in
theorem gD15 : gC15.all (gDck cX2_takeAll) = true := gScan0 (by decide +kernel)
set_option maxRecDepth 100000 in
theorem gD16 : gC16.all (gDck cX2_takeCues) = true := gScan0 (by decide +kernel)
set_option maxRecDepth 100000 in
theorem gD17 : gC17.all (gDck cX2_lastEvent) = true := gScan0 (by decide +kernel)
set_option maxRecDepth 100000 in
theorem gD18 : gC18.all (gDck cX2_againFrom) = true := gScan0 (by decide +kernel)
set_option maxRecDepth 100000 in
theorem gD19 : gC19.all (gDck cX2_isSomebodyPaid) = true := gScan0 (by decide +kernel)
set_option maxRecDepth 100000 in
theorem gD20 : gC20.all (gDck cX3_init) = true := gScan0 (by decide +kernel)
set_option maxRecDepth 100000 in
theorem gD21 : gC21.all (gDck cX3_clear) = true := gScan0 (by decide +kernel)
set_option maxRecDepth 100000 in
theorem gD22 : gC22.all (gDck cX3_takeAll) = true := gScan0 (by decide +kernel)
set_option maxRecDepth 100000 in
theorem gD23 : gC23.all (gDck cX3_cells) = true := gScan0 (by decide +kernel)
set_option maxRecDepth 100000 in
theorem gD24 : gC24.all (gDck cX3_isSeat) = true := gScan0 (by decide +kernel)
set_option maxRecDepth 100000 in
theorem gD25 : gC25.all (gDck cX3_rowOf) = true := gScan0 (by decide +kernel)
set_option maxRecDepth 100000 in
theorem gD26 : gC26.all (gDck cX3_priceOf) = true := gScan0 (by decide +kernel)
set_option maxRecDepth 100000 in
theorem gD27 : gC27.all (gDck cX3_leavesOf) = true := gScan0 (by decide +kernel)
set_option maxRecDepth 100000 in
theorem gD28 : gC28.all (gDck cX3_rowSet) = true := gScan0 (by decide +kernel)
set_option maxRecDepth 100000 in
theorem gD29 : gC29.all (gDck cX3_lastLeaves) = true := gScan0 (by decide +kernel)
set_option maxRecDepth 100000 in
theorem gD30 : gC30.all (gDck cX3_exchangeKinds) = true := gScan0 (by decide +kernel)
set_option maxRecDepth 100000 in
theorem gD31 : gC31.all (gDck cX3_setKind) = true := gScan0 (by decide +kernel)
set_option maxRecDepth 100000 in
theorem gD32 : gC32.all (gDck cX3_survey) = true := gScan0 (by decide +kernel)
set_option maxRecDepth 100000 in
theorem gD33 : gC33.all (gDck cX3_surveyAreas) = true := gScan0 (by decide +kernel)
set_option maxRecDepth 100000 in
theorem gD34 : gC34.all (gDck cX3_span) = true := gScan0 (by decide +kernel)
set_option maxRecDepth 100000 in
theorem gD35 : gC35.all (gDck cX4_init) = true := gScan0 (by decide +kernel)
set_option maxRecDepth 100000 in
theorem gD36 : gC36.all (gDck cX4_open) = true := gScan0 (by decide +kernel)
set_option maxRecDepth 100000 in
theorem gD37 : gC37.all (gDck cX4_readLine) = true := gScan0 (by decide +kernel)
set_option maxRecDepth 100000 in
theorem gD38 : gC38.all (gDck cX4_readRow) = true := gScan0 (by decide +kernel)
set_option maxRecDepth 100000 in
theorem gD39 : gC39.all (gDck cX4_isKind) = true := gScan0 (by decide +kernel)
set_option maxRecDepth 100000 in
theorem gD40 : gC40.all (gDck cX4_readLaw) = true := gScan0 (by decide +kernel)
set_option maxRecDepth 100000 in
theorem gD41 : gC41.all (gDck cX4_readJoined) = true := gScan0 (by decide +kernel)
set_option maxRecDepth 100000 in
theorem gD42 : gC42.all (gDck cX4_readOne) = true := gScan0 (by decide +kernel)
set_option maxRecDepth 100000 in
theorem gD43 : gC43.all (gDck cX4_readCompare) = true := gScan0 (by decide +kernel)
set_option maxRecDepth 100000 in
theorem gD44 : gC44.all (gDck cX4_readPrice) = true := gScan0 (by decide +kernel)
set_option maxRecDepth 100000 in
theorem gD45 : gC45.all (gDck cX4_readLeaves) = true := gScan0 (by decide +kernel)
set_option maxRecDepth 100000 in
theorem gD46 : gC46.all (gDck cX4_readCarry) = true := gScan0 (by decide +kernel)
set_option maxRecDepth 100000 in
theorem gD47 : gC47.all (gDck cX4_readPaid) = true := gScan0 (by decide +kernel)
set_option maxRecDepth 100000 in
theorem gD48 : gC48.all (gDck cX4_readRowByRow) = true := gScan0 (by decide +kernel)
set_option maxRecDepth 100000 in
theorem gD49 : gC49.all (gDck cX5_init) = true := gScan0 (by decide +kernel)
set_option maxRecDepth 100000 in
theorem gD50 : gC50.all (gDck cX5_beAs) = true := gScan0 (by decide +kernel)
set_option maxRecDepth 100000 in
theorem gD51 : gC51.all (gDck cX5_doesHold) = true := gScan0 (by decide +kernel)
set_option maxRecDepth 100000 in
theorem gD52 : gC52.all (gDck cX5_begin) = true := gScan0 (by decide +kernel)
set_option maxRecDepth 100000 in
theorem gD53 : gC53.all (gDck cX5_goTo) = true := gScan0 (by decide +kernel)
set_option maxRecDepth 100000 in
theorem gD54 : gC54.all (gDck cX5_heightOf) = true := gScan0 (by decide +kernel)
set_option maxRecDepth 100000 in
theorem gD55 : gC55.all (gDck cX5_step) = true := gScan0 (by decide +kernel)
set_option maxRecDepth 100000 in
theorem gD56 : gC56.all (gDck cX5_doCues) = true := gScan0 (by decide +kernel)
set_option maxRecDepth 100000 in
theorem gD57 : gC57.all (gDck cX5_seeRowsOff) = true := gScan0 (by decide +kernel)
set_option maxRecDepth 100000 in
theorem gD58 : gC58.all (gDck cX5_standing) = true := gScan0 (by decide +kernel)
set_option maxRecDepth 100000 in
theorem gD59 : gC59.all (gDck cX5_move) = true := gScan0 (by decide +kernel)
end
section
set_option maxRecDepth 100000 in
theorem gD60 : gC60.all (gDck cX5_hold) = true := gScan0 (by decide +kernel)
set_option maxRecDepth 100000 in
theorem gD61 : gC61.all (gDck cX5_joined) = true := gScan0 (by decide +kernel)
set_option maxRecDepth 100000 in
theorem gD62 : gC62.all (gDck cX5_holding) = true := gScan0 (by decide +kernel)
set_option maxRecDepth 100000 in
theorem gD63 : gC63.all (gDck cX5_levelWithin) = true := gScan0 (by decide +kernel)
set_option maxRecDepth 100000 in
theorem gD64 : gC64.all (gDck cX5_heldWithin) = true := gScan0 (by decide +kernel)
set_option maxRecDepth 100000 in
theorem gD65 : gC65.all (gDck cX6_init) = true := gScan0 (by decide +kernel)
set_option maxRecDepth 100000 in
theorem gD66 : gC66.all (gDck cX6_put) = true := gScan0 (by decide +kernel)
set_option maxRecDepth 100000 in
theorem gD67 : gC67.all (gDck cX6_take) = true := gScan0 (by decide +kernel)
set_option maxRecDepth 100000 in
theorem gD68 : gC68.all (gDck cX7_init) = true := gScan0 (by decide +kernel)
set_option maxRecDepth 100000 in
theorem gD69 : gC69.all (gDck cX7_open) = true := gScan0 (by decide +kernel)
set_option maxRecDepth 100000 in
theorem gD70 : gC70.all (gDck cX7_read) = true := gScan0 (by decide +kernel)
set_option maxRecDepth 100000 in
theorem gD71 : gC71.all (gDck cX7_size) = true := gScan0 (by decide +kernel)
set_option maxRecDepth 100000 in
theorem gD72 : gC72.all (gDck cX7_sign) = true := gScan0 (by decide +kernel)
set_option maxRecDepth 100000 in
theorem gD73 : gC73.all (gDck cX7_among) = true := gScan0 (by decide +kernel)
set_option maxRecDepth 100000 in
theorem gD74 : gC74.all (gDck cX7_isSameWord) = true := gScan0 (by decide +kernel)
set_option maxRecDepth 100000 in
theorem gD75 : gC75.all (gDck cX7_fail) = true := gScan0 (by decide +kernel)
set_option maxRecDepth 100000 in
theorem gD76 : gC76.all (gDck cX7_isNumberWithin) = true := gScan0 (by decide +kernel)
set_option maxRecDepth 100000 in
theorem gD77 : gC77.all (gDck cX7_takeNumber) = true := gScan0 (by decide +kernel)
set_option maxRecDepth 100000 in
theorem gD78 : gC78.all (gDck cX7_pass) = true := gScan0 (by decide +kernel)
set_option maxRecDepth 100000 in
theorem gD79 : gC79.all (gDck cX8_init) = true := gScan0 (by decide +kernel)
set_option maxRecDepth 100000 in
theorem gD80 : gC80.all (gDck cX8_areHands) = true := gScan0 (by decide +kernel)
set_option maxRecDepth 100000 in
theorem gD81 : gC81.all (gDck cX8_areUnlikeSeats) = true := gScan0 (by decide +kernel)
set_option maxRecDepth 100000 in
theorem gD82 : gC82.all (gDck cX8_seatsOf) = true := gScan0 (by decide +kernel)
set_option maxRecDepth 100000 in
theorem gD83 : gC83.all (gDck cX8_priceOfSet) = true := gScan0 (by decide +kernel)
set_option maxRecDepth 100000 in
theorem gD84 : gC84.all (gDck cX8_cheapestOf) = true := gScan0 (by decide +kernel)
set_option maxRecDepth 100000 in
theorem gD85 : gC85.all (gDck cX8_hushOf) = true := gScan0 (by decide +kernel)
set_option maxRecDepth 100000 in
theorem gD86 : gC86.all (gDck cX8_coalitionsOf) = true := gScan0 (by decide +kernel)
set_option maxRecDepth 100000 in
theorem gD87 : gC87.all (gDck cX8_hasFoundPart) = true := gScan0 (by decide +kernel)
set_option maxRecDepth 100000 in
theorem gD88 : gC88.all (gDck cX8_worthOfAll) = true := gScan0 (by decide +kernel)
set_option maxRecDepth 100000 in
theorem gD89 : gC89.all (gDck cX8_addsOf) = true := gScan0 (by decide +kernel)
set_option maxRecDepth 100000 in
theorem gD90 : gC90.all (gDck cX8_factorial) = true := gScan0 (by decide +kernel)
set_option maxRecDepth 100000 in
theorem gD91 : gC91.all (gDck cX8_commonDivisor) = true := gScan0 (by decide +kernel)
set_option maxRecDepth 100000 in
theorem gD92 : gC92.all (gDck cX8_sidesOf) = true := gScan0 (by decide +kernel)
set_option maxRecDepth 100000 in
theorem gD93 : gC93.all (gDck cX8_readSketch) = true := gScan0 (by decide +kernel)
set_option maxRecDepth 100000 in
theorem gD94 : gC94.all (gDck cX8_beganBy) = true := gScan0 (by decide +kernel)
set_option maxRecDepth 100000 in
theorem gD95 : gC95.all (gDck cX8_isAsSketched) = true := gScan0 (by decide +kernel)
set_option maxRecDepth 100000 in
theorem gD96 : gC96.all (gDck cX8_partOf) = true := gScan0 (by decide +kernel)
set_option maxRecDepth 100000 in
theorem gD97 : gC97.all (gDck cX8_firstPairAbove) = true := gScan0 (by decide +kernel)
set_option maxRecDepth 100000 in
theorem gD98 : gC98.all (gDck cX9_init) = true := gScan0 (by decide +kernel)
set_option maxRecDepth 100000 in
theorem gD99 : gC99.all (gDck cX9_feed) = true := gScan0 (by decide +kernel)
set_option maxRecDepth 100000 in
theorem gD100 : gC100.all (gDck cX9_end) = true := gScan0 (by decide +kernel)
set_option maxRecDepth 100000 in
theorem gD101 : gC101.all (gDck cX9_house) = true := gScan0 (by decide +kernel)
set_option maxRecDepth 100000 in
theorem gD102 : gC102.all (gDck cX9_fault) = true := gScan0 (by decide +kernel)
set_option maxRecDepth 100000 in
theorem gD103 : gC103.all (gDck cX9_seat) = true := gScan0 (by decide +kernel)
set_option maxRecDepth 100000 in
theorem gD104 : gC104.all (gDck cX9_law) = true := gScan0 (by decide +kernel)
set_option maxRecDepth 100000 in
theorem gD105 : gC105.all (gDck cX9_pay) = true := gScan0 (by decide +kernel)
set_option maxRecDepth 100000 in
theorem gD106 : gC106.all (gDck cX9_hiss) = true := gScan0 (by decide +kernel)
set_option maxRecDepth 100000 in
theorem gD107 : gC107.all (gDck cX9_cues) = true := gScan0 (by decide +kernel)
set_option maxRecDepth 100000 in
theorem gD108 : gC108.all (gDck cX9_cue) = true := gScan0 (by decide +kernel)
set_option maxRecDepth 100000 in
theorem gD109 : gC109.all (gDck cX9_sees) = true := gScan0 (by decide +kernel)
set_option maxRecDepth 100000 in
theorem gD110 : gC110.all (gDck cX9_at) = true := gScan0 (by decide +kernel)
set_option maxRecDepth 100000 in
theorem gD111 : gC111.all (gDck cX9_many) = true := gScan0 (by decide +kernel)
set_option maxRecDepth 100000 in
theorem gD112 : gC112.all (gDck cX9_would) = true := gScan0 (by decide +kernel)
set_option maxRecDepth 100000 in
theorem gD113 : gC113.all (gDck cX9_stands) = true := gScan0 (by decide +kernel)
set_option maxRecDepth 100000 in
theorem gD114 : gC114.all (gDck cX9_anyway) = true := gScan0 (by decide +kernel)
set_option maxRecDepth 100000 in
theorem gD115 : gC115.all (gDck cX9_up) = true := gScan0 (by decide +kernel)
set_option maxRecDepth 100000 in
theorem gD116 : gC116.all (gDck cX9_calls) = true := gScan0 (by decide +kernel)
set_option maxRecDepth 100000 in
theorem gD117 : gC117.all (gDck cX9_again) = true := gScan0 (by decide +kernel)
set_option maxRecDepth 100000 in
theorem gD118 : gC118.all (gDck cX9_carries) = true := gScan0 (by decide +kernel)
set_option maxRecDepth 100000 in
theorem gD119 : gC119.all (gDck cX9_cheapest) = true := gScan0 (by decide +kernel)
set_option maxRecDepth 100000 in
theorem gD120 : gC120.all (gDck cX9_bought) = true := gScan0 (by decide +kernel)
set_option maxRecDepth 100000 in
theorem gD121 : gC121.all (gDck cX9_hush) = true := gScan0 (by decide +kernel)
set_option maxRecDepth 100000 in
theorem gD122 : gC122.all (gDck cX9_coalitions) = true := gScan0 (by decide +kernel)
set_option maxRecDepth 100000 in
theorem gD123 : gC123.all (gDck cX9_worth) = true := gScan0 (by decide +kernel)
set_option maxRecDepth 100000 in
theorem gD124 : gC124.all (gDck cX9_worthOf) = true := gScan0 (by decide +kernel)
set_option maxRecDepth 100000 in
theorem gD125 : gC125.all (gDck cX9_sides) = true := gScan0 (by decide +kernel)
set_option maxRecDepth 100000 in
theorem gD126 : gC126.all (gDck cX9_side) = true := gScan0 (by decide +kernel)
set_option maxRecDepth 100000 in
theorem gD127 : gC127.all (gDck cX9_began) = true := gScan0 (by decide +kernel)
set_option maxRecDepth 100000 in
theorem gD128 : gC128.all (gDck cX9_beganAt) = true := gScan0 (by decide +kernel)
set_option maxRecDepth 100000 in
theorem gD129 : gC129.all (gDck cX9_parts) = true := gScan0 (by decide +kernel)
set_option maxRecDepth 100000 in
theorem gD130 : gC130.all (gDck cX9_exchanged) = true := gScan0 (by decide +kernel)
set_option maxRecDepth 100000 in
theorem gD131 : gC131.all (gDck cX9_exchange) = true := gScan0 (by decide +kernel)
set_option maxRecDepth 100000 in
theorem gD132 : gC132.all (gDck cX9_starts) = true := gScan0 (by decide +kernel)
set_option maxRecDepth 100000 in
theorem gD133 : gC133.all (gDck cX9_leader) = true := gScan0 (by decide +kernel)
set_option maxRecDepth 100000 in
theorem gD134 : gC134.all (gDck cX9_drawn) = true := gScan0 (by decide +kernel)
end
section
set_option maxRecDepth 100000 in
theorem gD135 : gC135.all (gDck cX9_arrange) = true := gScan0 (by decide +kernel)
set_option maxRecDepth 100000 in
theorem gD136 : gC136.all (gDck cX9_arranged) = true := gScan0 (by decide +kernel)
set_option maxRecDepth 100000 in
theorem gD137 : gC137.all (gDck cX9_image) = true := gScan0 (by decide +kernel)
set_option maxRecDepth 100000 in
theorem gD138 : gC138.all (gDck cX9_restore) = true := gScan0 (by decide +kernel)
set_option maxRecDepth 100000 in
theorem gD139 : gC139.all (gDck cX9_count) = true := gScan0 (by decide +kernel)
set_option maxRecDepth 100000 in
theorem gD140 : gC140.all (gDck cX9_isLarge) = true := gScan0 (by decide +kernel)
set_option maxRecDepth 100000 in
theorem gD141 : gC141.all (gDck cX9_isMoment) = true := gScan0 (by decide +kernel)
set_option maxRecDepth 100000 in
theorem gD142 : gC142.all (gDck cX9_bitOf) = true := gScan0 (by decide +kernel)
set_option maxRecDepth 100000 in
theorem gD143 : gC143.all (gDck cX9_withBit) = true := gScan0 (by decide +kernel)
set_option maxRecDepth 100000 in
theorem gD144 : gC144.all (gDck cX9_withoutNth) = true := gScan0 (by decide +kernel)
set_option maxRecDepth 100000 in
theorem gD145 : gC145.all (gDck cX10_throwsIf) = true := gScan0 (by decide +kernel)
set_option maxRecDepth 100000 in
theorem gD146 : gC146.all (gDck cX10_throwsIf) = true := gScan0 (by decide +kernel)
set_option maxRecDepth 100000 in
theorem gD147 : gC147.all (gDck cX10_feed) = true := gScan0 (by decide +kernel)
set_option maxRecDepth 100000 in
theorem gD148 : gC148.all (gDck cX10_four) = true := gScan0 (by decide +kernel)
set_option maxRecDepth 100000 in
theorem gD149 : gC149.all (gDck cX10_end) = true := gScan0 (by decide +kernel)
set_option maxRecDepth 100000 in
theorem gD150 : gC150.all (gDck cX10_taken) = true := gScan0 (by decide +kernel)
set_option maxRecDepth 100000 in
theorem gD151 : gC151.all (gDck cX10_isIn) = true := gScan0 (by decide +kernel)
set_option maxRecDepth 100000 in
theorem gD152 : gC152.all (gDck cX10_has) = true := gScan0 (by decide +kernel)
set_option maxRecDepth 100000 in
theorem gD153 : gC153.all (gDck cX10_holds) = true := gScan0 (by decide +kernel)
set_option maxRecDepth 100000 in
theorem gD154 : gC154.all (gDck cX10_bits) = true := gScan0 (by decide +kernel)
set_option maxRecDepth 100000 in
theorem gD155 : gC155.all (gDck cX10_octet) = true := gScan0 (by decide +kernel)
set_option maxRecDepth 100000 in
theorem gD156 : gC156.all (gDck cX10_init) = true := gScan0 (by decide +kernel)
set_option maxRecDepth 100000 in
theorem gD157 : gC157.all (gDck cX10_plainHouse) = true := gScan0 (by decide +kernel)
set_option maxRecDepth 100000 in
theorem gD158 : gC158.all (gDck cX10_peek) = true := gScan0 (by decide +kernel)
set_option maxRecDepth 100000 in
theorem gD159 : gC159.all (gDck cX10_isSmall) = true := gScan0 (by decide +kernel)
set_option maxRecDepth 100000 in
theorem gD160 : gC160.all (gDck cX10_isDigit) = true := gScan0 (by decide +kernel)
set_option maxRecDepth 100000 in
theorem gD161 : gC161.all (gDck cX10_next) = true := gScan0 (by decide +kernel)
set_option maxRecDepth 100000 in
theorem gD162 : gC162.all (gDck cX10_bad) = true := gScan0 (by decide +kernel)
set_option maxRecDepth 100000 in
theorem gD163 : gC163.all (gDck cX10_isWord) = true := gScan0 (by decide +kernel)
set_option maxRecDepth 100000 in
theorem gD164 : gC164.all (gDck cX10_isSign) = true := gScan0 (by decide +kernel)
set_option maxRecDepth 100000 in
theorem gD165 : gC165.all (gDck cX10_sign) = true := gScan0 (by decide +kernel)
set_option maxRecDepth 100000 in
theorem gD166 : gC166.all (gDck cX10_takes) = true := gScan0 (by decide +kernel)
set_option maxRecDepth 100000 in
theorem gD167 : gC167.all (gDck cX10_line) = true := gScan0 (by decide +kernel)
set_option maxRecDepth 100000 in
theorem gD168 : gC168.all (gDck cX10_once) = true := gScan0 (by decide +kernel)
set_option maxRecDepth 100000 in
theorem gD169 : gC169.all (gDck cX10_takesRow) = true := gScan0 (by decide +kernel)
set_option maxRecDepth 100000 in
theorem gD170 : gC170.all (gDck cX10_readRow) = true := gScan0 (by decide +kernel)
set_option maxRecDepth 100000 in
theorem gD171 : gC171.all (gDck cX10_readLaw) = true := gScan0 (by decide +kernel)
set_option maxRecDepth 100000 in
theorem gD172 : gC172.all (gDck cX10_write) = true := gScan0 (by decide +kernel)
set_option maxRecDepth 100000 in
theorem gD173 : gC173.all (gDck cX10_writeDown) = true := gScan0 (by decide +kernel)
set_option maxRecDepth 100000 in
theorem gD174 : gC174.all (gDck cX10_binds) = true := gScan0 (by decide +kernel)
set_option maxRecDepth 100000 in
theorem gD175 : gC175.all (gDck cX10_opened) = true := gScan0 (by decide +kernel)
set_option maxRecDepth 100000 in
theorem gD176 : gC176.all (gDck cX10_isOpen) = true := gScan0 (by decide +kernel)
set_option maxRecDepth 100000 in
theorem gD177 : gC177.all (gDck cX10_cond) = true := gScan0 (by decide +kernel)
set_option maxRecDepth 100000 in
theorem gD178 : gC178.all (gDck cX10_atom) = true := gScan0 (by decide +kernel)
set_option maxRecDepth 100000 in
theorem gD179 : gC179.all (gDck cX10_one) = true := gScan0 (by decide +kernel)
set_option maxRecDepth 100000 in
theorem gD180 : gC180.all (gDck cX10_asks) = true := gScan0 (by decide +kernel)
set_option maxRecDepth 100000 in
theorem gD181 : gC181.all (gDck cX10_house) = true := gScan0 (by decide +kernel)
set_option maxRecDepth 100000 in
theorem gD182 : gC182.all (gDck cX10_fault) = true := gScan0 (by decide +kernel)
set_option maxRecDepth 100000 in
theorem gD183 : gC183.all (gDck cX10_isSeat) = true := gScan0 (by decide +kernel)
set_option maxRecDepth 100000 in
theorem gD184 : gC184.all (gDck cX10_isSeatAt) = true := gScan0 (by decide +kernel)
set_option maxRecDepth 100000 in
theorem gD185 : gC185.all (gDck cX10_bitAt) = true := gScan0 (by decide +kernel)
set_option maxRecDepth 100000 in
theorem gD186 : gC186.all (gDck cX10_layOut) = true := gScan0 (by decide +kernel)
set_option maxRecDepth 100000 in
theorem gD187 : gC187.all (gDck cX10_seat) = true := gScan0 (by decide +kernel)
set_option maxRecDepth 100000 in
theorem gD188 : gC188.all (gDck cX10_price) = true := gScan0 (by decide +kernel)
set_option maxRecDepth 100000 in
theorem gD189 : gC189.all (gDck cX10_law) = true := gScan0 (by decide +kernel)
set_option maxRecDepth 100000 in
theorem gD190 : gC190.all (gDck cX10_pay) = true := gScan0 (by decide +kernel)
set_option maxRecDepth 100000 in
theorem gD191 : gC191.all (gDck cX10_hiss) = true := gScan0 (by decide +kernel)
set_option maxRecDepth 100000 in
theorem gD192 : gC192.all (gDck cX10_readCue) = true := gScan0 (by decide +kernel)
set_option maxRecDepth 100000 in
theorem gD193 : gC193.all (gDck cX10_cues) = true := gScan0 (by decide +kernel)
set_option maxRecDepth 100000 in
theorem gD194 : gC194.all (gDck cX10_cue) = true := gScan0 (by decide +kernel)
set_option maxRecDepth 100000 in
theorem gD195 : gC195.all (gDck cX10_isLaw) = true := gScan0 (by decide +kernel)
set_option maxRecDepth 100000 in
theorem gD196 : gC196.all (gDck cX10_levelOf) = true := gScan0 (by decide +kernel)
set_option maxRecDepth 100000 in
theorem gD197 : gC197.all (gDck cX10_heldOf) = true := gScan0 (by decide +kernel)
set_option maxRecDepth 100000 in
theorem gD198 : gC198.all (gDck cX10_lawLevel) = true := gScan0 (by decide +kernel)
set_option maxRecDepth 100000 in
theorem gD199 : gC199.all (gDck cX10_begin) = true := gScan0 (by decide +kernel)
set_option maxRecDepth 100000 in
theorem gD200 : gC200.all (gDck cX10_moment) = true := gScan0 (by decide +kernel)
end
section
set_option maxRecDepth 100000 in
theorem gD201 : gC201.all (gDck cX10_night) = true := gScan0 (by decide +kernel)
set_option maxRecDepth 100000 in
theorem gD202 : gC202.all (gDck cX10_height) = true := gScan0 (by decide +kernel)
set_option maxRecDepth 100000 in
theorem gD203 : gC203.all (gDck cX10_isMoment) = true := gScan0 (by decide +kernel)
set_option maxRecDepth 100000 in
theorem gD204 : gC204.all (gDck cX10_sees) = true := gScan0 (by decide +kernel)
set_option maxRecDepth 100000 in
theorem gD205 : gC205.all (gDck cX10_at) = true := gScan0 (by decide +kernel)
set_option maxRecDepth 100000 in
theorem gD206 : gC206.all (gDck cX10_many) = true := gScan0 (by decide +kernel)
set_option maxRecDepth 100000 in
theorem gD207 : gC207.all (gDck cX10_would) = true := gScan0 (by decide +kernel)
set_option maxRecDepth 100000 in
theorem gD208 : gC208.all (gDck cX10_stands) = true := gScan0 (by decide +kernel)
set_option maxRecDepth 100000 in
theorem gD209 : gC209.all (gDck cX10_anyway) = true := gScan0 (by decide +kernel)
set_option maxRecDepth 100000 in
theorem gD210 : gC210.all (gDck cX10_isUp) = true := gScan0 (by decide +kernel)
set_option maxRecDepth 100000 in
theorem gD211 : gC211.all (gDck cX10_up) = true := gScan0 (by decide +kernel)
set_option maxRecDepth 100000 in
theorem gD212 : gC212.all (gDck cX10_calls) = true := gScan0 (by decide +kernel)
set_option maxRecDepth 100000 in
theorem gD213 : gC213.all (gDck cX10_areLike) = true := gScan0 (by decide +kernel)
set_option maxRecDepth 100000 in
theorem gD214 : gC214.all (gDck cX10_again) = true := gScan0 (by decide +kernel)
set_option maxRecDepth 100000 in
theorem gD215 : gC215.all (gDck cX10_carries) = true := gScan0 (by decide +kernel)
set_option maxRecDepth 100000 in
theorem gD216 : gC216.all (gDck cX10_takesSeats) = true := gScan0 (by decide +kernel)
set_option maxRecDepth 100000 in
theorem gD217 : gC217.all (gDck cX10_areEight) = true := gScan0 (by decide +kernel)
set_option maxRecDepth 100000 in
theorem gD218 : gC218.all (gDck cX10_bitsOf) = true := gScan0 (by decide +kernel)
set_option maxRecDepth 100000 in
theorem gD219 : gC219.all (gDck cX10_cheapest) = true := gScan0 (by decide +kernel)
set_option maxRecDepth 100000 in
theorem gD220 : gC220.all (gDck cX10_bought) = true := gScan0 (by decide +kernel)
set_option maxRecDepth 100000 in
theorem gD221 : gC221.all (gDck cX10_hush) = true := gScan0 (by decide +kernel)
set_option maxRecDepth 100000 in
theorem gD222 : gC222.all (gDck cX10_coalitions) = true := gScan0 (by decide +kernel)
set_option maxRecDepth 100000 in
theorem gD223 : gC223.all (gDck cX10_orders) = true := gScan0 (by decide +kernel)
set_option maxRecDepth 100000 in
theorem gD224 : gC224.all (gDck cX10_worth) = true := gScan0 (by decide +kernel)
set_option maxRecDepth 100000 in
theorem gD225 : gC225.all (gDck cX10_worthOf) = true := gScan0 (by decide +kernel)
set_option maxRecDepth 100000 in
theorem gD226 : gC226.all (gDck cX10_sides) = true := gScan0 (by decide +kernel)
set_option maxRecDepth 100000 in
theorem gD227 : gC227.all (gDck cX10_side) = true := gScan0 (by decide +kernel)
set_option maxRecDepth 100000 in
theorem gD228 : gC228.all (gDck cX10_isSketch) = true := gScan0 (by decide +kernel)
set_option maxRecDepth 100000 in
theorem gD229 : gC229.all (gDck cX10_began) = true := gScan0 (by decide +kernel)
set_option maxRecDepth 100000 in
theorem gD230 : gC230.all (gDck cX10_beganAt) = true := gScan0 (by decide +kernel)
set_option maxRecDepth 100000 in
theorem gD231 : gC231.all (gDck cX10_parts) = true := gScan0 (by decide +kernel)
set_option maxRecDepth 100000 in
theorem gD232 : gC232.all (gDck cX10_change) = true := gScan0 (by decide +kernel)
set_option maxRecDepth 100000 in
theorem gD233 : gC233.all (gDck cX10_areUnlike) = true := gScan0 (by decide +kernel)
set_option maxRecDepth 100000 in
theorem gD234 : gC234.all (gDck cX10_exchanged) = true := gScan0 (by decide +kernel)
set_option maxRecDepth 100000 in
theorem gD235 : gC235.all (gDck cX10_exchange) = true := gScan0 (by decide +kernel)
set_option maxRecDepth 100000 in
theorem gD236 : gC236.all (gDck cX10_arranges) = true := gScan0 (by decide +kernel)
set_option maxRecDepth 100000 in
theorem gD237 : gC237.all (gDck cX10_arrange) = true := gScan0 (by decide +kernel)
set_option maxRecDepth 100000 in
theorem gD238 : gC238.all (gDck cX10_arranged) = true := gScan0 (by decide +kernel)
set_option maxRecDepth 100000 in
theorem gD239 : gC239.all (gDck cX10_starts) = true := gScan0 (by decide +kernel)
set_option maxRecDepth 100000 in
theorem gD240 : gC240.all (gDck cX10_leader) = true := gScan0 (by decide +kernel)
set_option maxRecDepth 100000 in
theorem gD241 : gC241.all (gDck cX10_draw) = true := gScan0 (by decide +kernel)
set_option maxRecDepth 100000 in
theorem gD242 : gC242.all (gDck cX10_drawn) = true := gScan0 (by decide +kernel)
set_option maxRecDepth 100000 in
theorem gD243 : gC243.all (gDck cX10_image) = true := gScan0 (by decide +kernel)
set_option maxRecDepth 100000 in
theorem gD244 : gC244.all (gDck cX10_restore) = true := gScan0 (by decide +kernel)
set_option maxRecDepth 100000 in
theorem gD245 : gC245.all (gDck cX10_count) = true := gScan0 (by decide +kernel)
set_option maxRecDepth 100000 in
theorem gD246 : gC246.all (gDck cL_seat) = true := gScan0 (by decide +kernel)
set_option maxRecDepth 100000 in
theorem gD247 : gC247.all (gDck cL_cue) = true := gScan0 (by decide +kernel)
set_option maxRecDepth 100000 in
theorem gD248 : gC248.all (gDck cL_worthOf) = true := gScan0 (by decide +kernel)
set_option maxRecDepth 100000 in
theorem gD249 : gC249.all (gDck cJ6_bitCount_0f7a4) = true := gScan0 (by decide +kernel)
set_option maxRecDepth 100000 in
theorem gD250 : gC250.all (gDck cJ13_bitCount_95d88) = true := gScan0 (by decide +kernel)
set_option maxRecDepth 100000 in
theorem gD251 : gC251.all (gDck cJ7_fill_d0a16) = true := gScan0 (by decide +kernel)
set_option maxRecDepth 100000 in
theorem gD252 : gC252.all (gDck cJ7_fill_53178) = true := gScan0 (by decide +kernel)
end
section
theorem gDa_16 : ∀ a, a < 16 → ((gCs.getD a []).all (gDck (gMe a).2.1) = true) := lt_s (lt_s (lt_s (lt_s (lt_s (lt_s (lt_s (lt_s (lt_s (lt_s (lt_s (lt_s (lt_s (lt_s (lt_s (lt_s (lt_0) (gD0)) (gD1)) (gD2)) (gD3)) (gD4)) (gD5)) (gD6)) (gD7)) (gD8)) (gD9)) (gD10)) (gD11)) (gD12)) (gD13)) (gD14)) (gD15)
theorem gDa_32 : ∀ a, a < 32 → ((gCs.getD a []).all (gDck (gMe a).2.1) = true) := lt_s (lt_s (lt_s (lt_s (lt_s (lt_s (lt_s (lt_s (lt_s (lt_s (lt_s (lt_s (lt_s (lt_s (lt_s (lt_s (gDa_16) (gD16)) (gD17)) (gD18)) (gD19)) (gD20)) (gD21)) (gD22)) (gD23)) (gD24)) (gD25)) (gD26)) (gD27)) (gD28)) (gD29)) (gD30)) (gD31)
theorem gDa_48 : ∀ a, a < 48 → ((gCs.getD a []).all (gDck (gMe a).2.1) = true) := lt_s (lt_s (lt_s (lt_s (lt_s (lt_s (lt_s (lt_s (lt_s (lt_s (lt_s (lt_s (lt_s (lt_s (lt_s (lt_s (gDa_32) (gD32)) (gD33)) (gD34)) (gD35)) (gD36)) (gD37)) (gD38)) (gD39)) (gD40)) (gD41)) (gD42)) (gD43)) (gD44)) (gD45)) (gD46)) (gD47)
theorem gDa_64 : ∀ a, a < 64 → ((gCs.getD a []).all (gDck (gMe a).2.1) = true) := lt_s (lt_s (lt_s (lt_s (lt_s (lt_s (lt_s (lt_s (lt_s (lt_s (lt_s (lt_s (lt_s (lt_s (lt_s (lt_s (gDa_48) (gD48)) (gD49)) (gD50)) (gD51)) (gD52)) (gD53)) (gD54)) (gD55)) (gD56)) (gD57)) (gD58)) (gD59)) (gD60)) (gD61)) (gD62)) (gD63)
theorem gDa_80 : ∀ a, a < 80 → ((gCs.getD a []).all (gDck (gMe a).2.1) = true) := lt_s (lt_s (lt_s (lt_s (lt_s (lt_s (lt_s (lt_s (lt_s (lt_s (lt_s (lt_s (lt_s (lt_s (lt_s (lt_s (gDa_64) (gD64)) (gD65)) (gD66)) (gD67)) (gD68)) (gD69)) (gD70)) (gD71)) (gD72)) (gD73)) (gD74)) (gD75)) (gD76)) (gD77)) (gD78)) (gD79)
theorem gDa_96 : ∀ a, a < 96 → ((gCs.getD a []).all (gDck (gMe a).2.1) = true) := lt_s (lt_s (lt_s (lt_s (lt_s (lt_s (lt_s (lt_s (lt_s (lt_s (lt_s (lt_s (lt_s (lt_s (lt_s (lt_s (gDa_80) (gD80)) (gD81)) (gD82)) (gD83)) (gD84)) (gD85)) (gD86)) (gD87)) (gD88)) (gD89)) (gD90)) (gD91)) (gD92)) (gD93)) (gD94)) (gD95)
theorem gDa_112 : ∀ a, a < 112 → ((gCs.getD a []).all (gDck (gMe a).2.1) = true) := lt_s (lt_s (lt_s (lt_s (lt_s (lt_s (lt_s (lt_s (lt_s (lt_s (lt_s (lt_s (lt_s (lt_s (lt_s (lt_s (gDa_96) (gD96)) (gD97)) (gD98)) (gD99)) (gD100)) (gD101)) (gD102)) (gD103)) (gD104)) (gD105)) (gD106)) (gD107)) (gD108)) (gD109)) (gD110)) (gD111)
theorem gDa_128 : ∀ a, a < 128 → ((gCs.getD a []).all (gDck (gMe a).2.1) = true) := lt_s (lt_s (lt_s (lt_s (lt_s (lt_s (lt_s (lt_s (lt_s (lt_s (lt_s (lt_s (lt_s (lt_s (lt_s (lt_s (gDa_112) (gD112)) (gD113)) (gD114)) (gD115)) (gD116)) (gD117)) (gD118)) (gD119)) (gD120)) (gD121)) (gD122)) (gD123)) (gD124)) (gD125)) (gD126)) (gD127)
theorem gDa_144 : ∀ a, a < 144 → ((gCs.getD a []).all (gDck (gMe a).2.1) = true) := lt_s (lt_s (lt_s (lt_s (lt_s (lt_s (lt_s (lt_s (lt_s (lt_s (lt_s (lt_s (lt_s (lt_s (lt_s (lt_s (gDa_128) (gD128)) (gD129)) (gD130)) (gD131)) (gD132)) (gD133)) (gD134)) (gD135)) (gD136)) (gD137)) (gD138)) (gD139)) (gD140)) (gD141)) (gD142)) (gD143)
theorem gDa_160 : ∀ a, a < 160 → ((gCs.getD a []).all (gDck (gMe a).2.1) = true) := lt_s (lt_s (lt_s (lt_s (lt_s (lt_s (lt_s (lt_s (lt_s (lt_s (lt_s (lt_s (lt_s (lt_s (lt_s (lt_s (gDa_144) (gD144)) (gD145)) (gD146)) (gD147)) (gD148)) (gD149)) (gD150)) (gD151)) (gD152)) (gD153)) (gD154)) (gD155)) (gD156)) (gD157)) (gD158)) (gD159)
theorem gDa_176 : ∀ a, a < 176 → ((gCs.getD a []).all (gDck (gMe a).2.1) = true) := lt_s (lt_s (lt_s (lt_s (lt_s (lt_s (lt_s (lt_s (lt_s (lt_s (lt_s (lt_s (lt_s (lt_s (lt_s (lt_s (gDa_160) (gD160)) (gD161)) (gD162)) (gD163)) (gD164)) (gD165)) (gD166)) (gD167)) (gD168)) (gD169)) (gD170)) (gD171)) (gD172)) (gD173)) (gD174)) (gD175)
theorem gDa_192 : ∀ a, a < 192 → ((gCs.getD a []).all (gDck (gMe a).2.1) = true) := lt_s (lt_s (lt_s (lt_s (lt_s (lt_s (lt_s (lt_s (lt_s (lt_s (lt_s (lt_s (lt_s (lt_s (lt_s (lt_s (gDa_176) (gD176)) (gD177)) (gD178)) (gD179)) (gD180)) (gD181)) (gD182)) (gD183)) (gD184)) (gD185)) (gD186)) (gD187)) (gD188)) (gD189)) (gD190)) (gD191)
theorem gDa_208 : ∀ a, a < 208 → ((gCs.getD a []).all (gDck (gMe a).2.1) = true) := lt_s (lt_s (lt_s (lt_s (lt_s (lt_s (lt_s (lt_s (lt_s (lt_s (lt_s (lt_s (lt_s (lt_s (lt_s (lt_s (gDa_192) (gD192)) (gD193)) (gD194)) (gD195)) (gD196)) (gD197)) (gD198)) (gD199)) (gD200)) (gD201)) (gD202)) (gD203)) (gD204)) (gD205)) (gD206)) (gD207)
theorem gDa_224 : ∀ a, a < 224 → ((gCs.getD a []).all (gDck (gMe a).2.1) = true) := lt_s (lt_s (lt_s (lt_s (lt_s (lt_s (lt_s (lt_s (lt_s (lt_s (lt_s (lt_s (lt_s (lt_s (lt_s (lt_s (gDa_208) (gD208)) (gD209)) (gD210)) (gD211)) (gD212)) (gD213)) (gD214)) (gD215)) (gD216)) (gD217)) (gD218)) (gD219)) (gD220)) (gD221)) (gD222)) (gD223)
theorem gDa_240 : ∀ a, a < 240 → ((gCs.getD a []).all (gDck (gMe a).2.1) = true) := lt_s (lt_s (lt_s (lt_s (lt_s (lt_s (lt_s (lt_s (lt_s (lt_s (lt_s (lt_s (lt_s (lt_s (lt_s (lt_s (gDa_224) (gD224)) (gD225)) (gD226)) (gD227)) (gD228)) (gD229)) (gD230)) (gD231)) (gD232)) (gD233)) (gD234)) (gD235)) (gD236)) (gD237)) (gD238)) (gD239)
theorem gDa_253 : ∀ a, a < 253 → ((gCs.getD a []).all (gDck (gMe a).2.1) = true) := lt_s (lt_s (lt_s (lt_s (lt_s (lt_s (lt_s (lt_s (lt_s (lt_s (lt_s (lt_s (lt_s (gDa_240) (gD240)) (gD241)) (gD242)) (gD243)) (gD244)) (gD245)) (gD246)) (gD247)) (gD248)) (gD249)) (gD250)) (gD251)) (gD252)
theorem gCs_len : gCs.length = 253 := by decide +kernel
end
