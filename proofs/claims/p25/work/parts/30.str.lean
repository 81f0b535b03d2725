/-! THE FIVE TEXTS: String.length and String.charAt, as the JDK's code -/
/-- what holds all along, of any state: the surroundings; E: more of it -/
def SxD (base b : Nat) (adK adV : Nat → Nat) (E : State → Prop) (U : State) : Prop :=
  va_AO RX2 U ∧
  (∀ o x mj, mLk gCall o x = some (mj, 1) → va_Nw (.methodLinkNest (gOwn.getD o "") x (gSpY mj) "HouseClaps") U) ∧
  (∀ o x v, mLk gCon o x = some (.ref v) → vk_R (gOwn.getD o "") x (gStr.getD (v - 1000001) "") (mAd base b adK v) U) ∧
  vk_S 5 (gSb.map List.length) gSb adK adV (fun q => base ≤ q) U U.heap ∧
  va_Z "java/lang/String" "COMPACT_STRINGS" "Z" (.int 1) (fun q => base ≤ q) U U.heap ∧
  va_Zq "jdk/internal/util/Preconditions" "SIOOBE_FORMATTER" "Ljava/util/function/BiFunction;" (fun q => base ≤ q) U U.heap ∧ E U
/-- a predicate that stays -/
def SxKeeps (base : Nat) (E : State → Prop) : Prop := (∀ (s U : State) (H : Heap) (locs : List Loc), E s → va_S (fun q => base ≤ q) s.heap H locs → base ≤ s.heap.size → U.heap = H → s.WarmedH U.vm → E U) ∧ (∀ (U : State) (g : JFrame) (mk : MethodId) (a : Array Value), E U → E (U.calling g mk a))
section STR
variable {base b : Nat} {adK adV : Nat → Nat} {E : State → Prop}
theorem SxD_go (hE : SxKeeps base E) {s U : State} {H : Heap} {locs : List Loc} (h : SxD base b adK adV E s) (hS : va_S (fun q => base ≤ q) s.heap H locs) (hb : base ≤ s.heap.size) (hU : U.heap = H) (hW : s.WarmedH U.vm) : SxD base b adK adV E U := by
  obtain ⟨h1, h2, h3, h4, h5, h6, h7⟩ := h
  refine ⟨va_AO.moved hW.alike h1, fun o x mj hg => va_Nw.warmM hW (h2 o x mj hg), fun o x v hg => (h3 o x v hg).warm hW, ?_, ?_, ?_, hE.1 s U H locs h7 hS hb hU hW⟩
  · rw [hU]; exact (h4.kept hS.2.1).moved hW.alike
  · rw [hU]; exact (h5.kept hS.2.1).moved hW.alike
  · rw [hU]; exact (h6.kept hS.2.1).moved hW.alike
theorem SxD_call (hE : SxKeeps base E) {U : State} (g : JFrame) (mk : MethodId) (a : Array Value) (h : SxD base b adK adV E U) : SxD base b adK adV E (U.calling g mk a) := by
  obtain ⟨h1, h2, h3, h4, h5, h6, h7⟩ := h
  have ha : U.vm.Alike (U.calling g mk a).vm := Vm.Alike.refl U.vm
  exact ⟨va_AO.moved ha h1, fun o x mj hg => va_Nw.same rfl rfl (h2 o x mj hg), fun o x v hg => (h3 o x v hg).same rfl, h4.moved ha, h5.moved ha, h6.moved ha, hE.2 U g mk a h7⟩
theorem SxD_ok (hE : SxKeeps base E) : mSxOk base b adK (SxD base b adK adV E) :=
  ⟨fun s h => h.1, fun s h => h.2.1, fun s h => h.2.2.1, fun s U H locs h hS hb hU hW => SxD_go hE h hS hb hU hW, fun U g mk a h => SxD_call hE g mk a h⟩
def jRm (k : Nat) : Room := { frames := k, cells := 0, slots := 0, locals := 60 * k }
def jQ (v : Option Value) : Array Value → State → Outcome → State → Prop := fun _ st oc t => oc = .returned v ∧ t.heap = st.heap
def jP (base b : Nat) (adK adV : Nat → Nat) (E : State → Prop) (av : List Value) : Array Value → State → Prop := fun a U => a = av.toArray ∧ SxD base b adK adV E U ∧ base ≤ U.heap.size
theorem jGood {y : MethodName} {c : ByteArray} {ml : Nat} {ret : Option FieldType} (k1 : Cond.code y c ml ret ∈ lwG) : GoodIn lwG (Cond.code y c ml ret :: lwG) := by
  intro w hw
  rcases List.mem_cons.mp hw with rfl | hw
  · exact ⟨k1, good_of_word (lwG_good k1)⟩
  · exact ⟨hw, good_of_word (lwG_good hw)⟩
section J
variable {l : Launch} {p : Program} {e : Env} {R : Room} {s : State} {m : MethodId} {args : Array Value} {below : List Frame} {meth : Method} {c : Code} {H : Heap} {locs : List Loc} {cells slots : Nat} {Q : State → Prop} {pc : Nat} {ls : Array Slot}
theorem mCall0 {v : Option Value} {st0 rest : List Value} {a : Array Value} (hr : va_Run p l e R s m args below meth c H locs cells slots 0 0 (F0 m pc ls st0) rest (jQ v a) (fun _ => False)) (kk : W p l e R s m args below meth c H locs cells slots Q (F0 m (pc + 3) ls (v.toList ++ rest))) : W p l e R s m args below meth c H locs cells slots Q (F0 m pc ls st0) := by
  intro T hT X
  obtain ⟨v9, st₀, t, T', L, h0, X', hL, e1, e2, ⟨hv, hh⟩, st⟩ := hr T hT X
  cases hv
  have hLn : L = [] := by
    cases L with
    | nil => rfl
    | cons q L => exact (hL q List.mem_cons_self).elim
  subst hLn
  rw [List.append_nil] at X'
  obtain ⟨t2, a1, b1⟩ := kk T' (by rw [e1, hh, h0]) X'
  exact ⟨t2, st t2 a1, b1⟩
theorem jPre (hE : SxKeeps base E) (h : SxD base b adK adV E s) (hS : va_S (fun q => base ≤ q) s.heap H locs) (hb : base ≤ s.heap.size) (av : List Value) : FrameBlind (jP base b adK adV E av) ∧ ∀ U : State, U.heap = H → s.WarmedH U.vm → jP base b adK adV E av av.toArray U :=
  ⟨fun a U g mk q => ⟨q.1, SxD_call hE g mk a q.2.1, q.2.2⟩, fun U hU hW => ⟨rfl, SxD_go hE h hS hb hU hW, by rw [hU]; exact Nat.le_trans hb hS.1⟩⟩
end J
theorem jw_fv : Cond.fieldLink RJ0 9 "java/lang/String" "value" "[B" ∈ lwG := lwG_in (gTb8 (p := 165) rfl) rfl
theorem jw_fc : Cond.fieldLink RJ0 15 "java/lang/String" "coder" "B" ∈ lwG := lwG_in (gTb8 (p := 166) rfl) rfl
theorem jw_fs : Cond.fieldLink RJ0 38 "java/lang/String" "COMPACT_STRINGS" "Z" ∈ lwG := lwG_in (gTb3 (p := 51) rfl) rfl
theorem jw_ff : Cond.fieldLink RJ0 1053 "jdk/internal/util/Preconditions" "SIOOBE_FORMATTER" "Ljava/util/function/BiFunction;" ∈ lwG := lwG_in (gTb3 (p := 71) rfl) rfl
theorem jw_iS : Cond.initialized "java/lang/String" ∈ lwG := lwG_in (gTb1 (p := 14) rfl) rfl
theorem jw_iL : Cond.initialized "java/lang/StringLatin1" ∈ lwG := lwG_in (gTb1 (p := 15) rfl) rfl
theorem jw_iP : Cond.initialized "jdk/internal/util/Preconditions" ∈ lwG := lwG_in (gTb1 (p := 16) rfl) rfl
theorem jw_len_i : Cond.instanceMethod yJ0_length_8abf5 ∈ lwG := lwG_in (gTb3 (p := 44) rfl) rfl
theorem jw_len_s : Cond.selects RJ0 yJ0_length_8abf5 yJ0_length_8abf5 ∈ lwG := lwG_in (gTb3 (p := 45) rfl) rfl
theorem jw_len_c : Cond.code yJ0_length_8abf5 cJ0_length_8abf5 1 (some .int) ∈ lwG := lwG_in (gTb3 (p := 46) rfl) rfl
theorem jw_cod_l : Cond.methodLink RJ0 335 yJ0_coder_7d493 ∈ lwG := lwG_in (gTb3 (p := 47) rfl) rfl
theorem jw_cod_i : Cond.instanceMethod yJ0_coder_7d493 ∈ lwG := lwG_in (gTb3 (p := 48) rfl) rfl
theorem jw_cod_s : Cond.selects RJ0 yJ0_coder_7d493 yJ0_coder_7d493 ∈ lwG := lwG_in (gTb3 (p := 49) rfl) rfl
theorem jw_cod_c : Cond.code yJ0_coder_7d493 cJ0_coder_7d493 1 (some .byte) ∈ lwG := lwG_in (gTb3 (p := 50) rfl) rfl
theorem jw_chr_i : Cond.instanceMethod yJ0_charAt_5068e ∈ lwG := lwG_in (gTb3 (p := 58) rfl) rfl
theorem jw_chr_s : Cond.selects RJ0 yJ0_charAt_5068e yJ0_charAt_5068e ∈ lwG := lwG_in (gTb3 (p := 59) rfl) rfl
theorem jw_chr_c : Cond.code yJ0_charAt_5068e cJ0_charAt_5068e 2 (some .char) ∈ lwG := lwG_in (gTb3 (p := 60) rfl) rfl
theorem jw_lat_l : Cond.methodLink RJ0 492 yJ0_isLatin1_aae02 ∈ lwG := lwG_in (gTb3 (p := 61) rfl) rfl
theorem jw_lat_i : Cond.instanceMethod yJ0_isLatin1_aae02 ∈ lwG := lwG_in (gTb3 (p := 62) rfl) rfl
theorem jw_lat_s : Cond.selects RJ0 yJ0_isLatin1_aae02 yJ0_isLatin1_aae02 ∈ lwG := lwG_in (gTb3 (p := 63) rfl) rfl
theorem jw_lat_c : Cond.code yJ0_isLatin1_aae02 cJ0_isLatin1_aae02 1 (some .boolean) ∈ lwG := lwG_in (gTb3 (p := 64) rfl) rfl
theorem jw_l1_l : Cond.methodLink RJ0 495 yJ1_charAt_3b067 ∈ lwG := lwG_in (gTb3 (p := 65) rfl) rfl
theorem jw_l1_t : Cond.static yJ1_charAt_3b067 ∈ lwG := lwG_in (gTb3 (p := 66) rfl) rfl
theorem jw_l1_c : Cond.code yJ1_charAt_3b067 cJ1_charAt_3b067 2 (some .char) ∈ lwG := lwG_in (gTb3 (p := 67) rfl) rfl
theorem jw_ck_l : Cond.methodLink RJ1 9 yJ0_checkIndex_df160 ∈ lwG := lwG_in (gTb3 (p := 68) rfl) rfl
theorem jw_ck_t : Cond.static yJ0_checkIndex_df160 ∈ lwG := lwG_in (gTb3 (p := 69) rfl) rfl
theorem jw_ck_c : Cond.code yJ0_checkIndex_df160 cJ0_checkIndex_df160 2 none ∈ lwG := lwG_in (gTb3 (p := 70) rfl) rfl
theorem jw_pk_l : Cond.methodLink RJ0 1059 yJ3_checkIndex_8e157 ∈ lwG := lwG_in (gTb3 (p := 73) rfl) rfl
theorem jw_pk_t : Cond.static yJ3_checkIndex_8e157 ∈ lwG := lwG_in (gTb3 (p := 74) rfl) rfl
theorem jw_pk_c : Cond.code yJ3_checkIndex_8e157 cJ3_checkIndex_8e157 3 (some .int) ∈ lwG := lwG_in (gTb3 (p := 75) rfl) rfl
theorem jd_J0_length_8abf5_0 : decode cJ0_length_8abf5 0 = .ok (.aload_n 0, 1) := by decide +kernel
theorem jd_J0_length_8abf5_1 : decode cJ0_length_8abf5 1 = .ok (.getfield 9, 3) := by decide +kernel
theorem jd_J0_length_8abf5_4 : decode cJ0_length_8abf5 4 = .ok (.arraylength, 1) := by decide +kernel
theorem jd_J0_length_8abf5_5 : decode cJ0_length_8abf5 5 = .ok (.aload_n 0, 1) := by decide +kernel
theorem jd_J0_length_8abf5_6 : decode cJ0_length_8abf5 6 = .ok (.invokevirtual 335, 3) := by decide +kernel
theorem jd_J0_length_8abf5_9 : decode cJ0_length_8abf5 9 = .ok (.ishr, 1) := by decide +kernel
theorem jd_J0_length_8abf5_10 : decode cJ0_length_8abf5 10 = .ok (.ireturn, 1) := by decide +kernel
theorem jd_J0_coder_7d493_0 : decode cJ0_coder_7d493 0 = .ok (.getstatic 38, 3) := by decide +kernel
theorem jd_J0_coder_7d493_3 : decode cJ0_coder_7d493 3 = .ok (.ifCond .eq 10, 3) := by decide +kernel
theorem jd_J0_coder_7d493_6 : decode cJ0_coder_7d493 6 = .ok (.aload_n 0, 1) := by decide +kernel
theorem jd_J0_coder_7d493_7 : decode cJ0_coder_7d493 7 = .ok (.getfield 15, 3) := by decide +kernel
theorem jd_J0_coder_7d493_10 : decode cJ0_coder_7d493 10 = .ok (.goto 4, 3) := by decide +kernel
theorem jd_J0_coder_7d493_13 : decode cJ0_coder_7d493 13 = .ok (.iconst 1, 1) := by decide +kernel
theorem jd_J0_coder_7d493_14 : decode cJ0_coder_7d493 14 = .ok (.ireturn, 1) := by decide +kernel
theorem jd_J0_charAt_5068e_0 : decode cJ0_charAt_5068e 0 = .ok (.aload_n 0, 1) := by decide +kernel
theorem jd_J0_charAt_5068e_1 : decode cJ0_charAt_5068e 1 = .ok (.invokevirtual 492, 3) := by decide +kernel
theorem jd_J0_charAt_5068e_4 : decode cJ0_charAt_5068e 4 = .ok (.ifCond .eq 12, 3) := by decide +kernel
theorem jd_J0_charAt_5068e_7 : decode cJ0_charAt_5068e 7 = .ok (.aload_n 0, 1) := by decide +kernel
theorem jd_J0_charAt_5068e_8 : decode cJ0_charAt_5068e 8 = .ok (.getfield 9, 3) := by decide +kernel
theorem jd_J0_charAt_5068e_11 : decode cJ0_charAt_5068e 11 = .ok (.iload_n 1, 1) := by decide +kernel
theorem jd_J0_charAt_5068e_12 : decode cJ0_charAt_5068e 12 = .ok (.invokestatic 495, 3) := by decide +kernel
theorem jd_J0_charAt_5068e_15 : decode cJ0_charAt_5068e 15 = .ok (.ireturn, 1) := by decide +kernel
theorem jd_J0_charAt_5068e_16 : decode cJ0_charAt_5068e 16 = .ok (.aload_n 0, 1) := by decide +kernel
theorem jd_J0_charAt_5068e_17 : decode cJ0_charAt_5068e 17 = .ok (.getfield 9, 3) := by decide +kernel
theorem jd_J0_charAt_5068e_20 : decode cJ0_charAt_5068e 20 = .ok (.iload_n 1, 1) := by decide +kernel
theorem jd_J0_charAt_5068e_21 : decode cJ0_charAt_5068e 21 = .ok (.invokestatic 498, 3) := by decide +kernel
theorem jd_J0_charAt_5068e_24 : decode cJ0_charAt_5068e 24 = .ok (.ireturn, 1) := by decide +kernel
theorem jd_J0_isLatin1_aae02_0 : decode cJ0_isLatin1_aae02 0 = .ok (.getstatic 38, 3) := by decide +kernel
theorem jd_J0_isLatin1_aae02_3 : decode cJ0_isLatin1_aae02 3 = .ok (.ifCond .eq 14, 3) := by decide +kernel
theorem jd_J0_isLatin1_aae02_6 : decode cJ0_isLatin1_aae02 6 = .ok (.aload_n 0, 1) := by decide +kernel
theorem jd_J0_isLatin1_aae02_7 : decode cJ0_isLatin1_aae02 7 = .ok (.getfield 15, 3) := by decide +kernel
theorem jd_J0_isLatin1_aae02_10 : decode cJ0_isLatin1_aae02 10 = .ok (.ifCond .ne 7, 3) := by decide +kernel
theorem jd_J0_isLatin1_aae02_13 : decode cJ0_isLatin1_aae02 13 = .ok (.iconst 1, 1) := by decide +kernel
theorem jd_J0_isLatin1_aae02_14 : decode cJ0_isLatin1_aae02 14 = .ok (.goto 4, 3) := by decide +kernel
theorem jd_J0_isLatin1_aae02_17 : decode cJ0_isLatin1_aae02 17 = .ok (.iconst 0, 1) := by decide +kernel
theorem jd_J0_isLatin1_aae02_18 : decode cJ0_isLatin1_aae02 18 = .ok (.ireturn, 1) := by decide +kernel
theorem jd_J1_charAt_3b067_0 : decode cJ1_charAt_3b067 0 = .ok (.iload_n 1, 1) := by decide +kernel
theorem jd_J1_charAt_3b067_1 : decode cJ1_charAt_3b067 1 = .ok (.aload_n 0, 1) := by decide +kernel
theorem jd_J1_charAt_3b067_2 : decode cJ1_charAt_3b067 2 = .ok (.arraylength, 1) := by decide +kernel
theorem jd_J1_charAt_3b067_3 : decode cJ1_charAt_3b067 3 = .ok (.invokestatic 9, 3) := by decide +kernel
theorem jd_J1_charAt_3b067_6 : decode cJ1_charAt_3b067 6 = .ok (.aload_n 0, 1) := by decide +kernel
theorem jd_J1_charAt_3b067_7 : decode cJ1_charAt_3b067 7 = .ok (.iload_n 1, 1) := by decide +kernel
theorem jd_J1_charAt_3b067_8 : decode cJ1_charAt_3b067 8 = .ok (.baload, 1) := by decide +kernel
theorem jd_J1_charAt_3b067_9 : decode cJ1_charAt_3b067 9 = .ok (.sipush 255, 3) := by decide +kernel
theorem jd_J1_charAt_3b067_12 : decode cJ1_charAt_3b067 12 = .ok (.iand, 1) := by decide +kernel
theorem jd_J1_charAt_3b067_13 : decode cJ1_charAt_3b067 13 = .ok (.i2c, 1) := by decide +kernel
theorem jd_J1_charAt_3b067_14 : decode cJ1_charAt_3b067 14 = .ok (.ireturn, 1) := by decide +kernel
theorem jd_J0_checkIndex_df160_0 : decode cJ0_checkIndex_df160 0 = .ok (.iload_n 0, 1) := by decide +kernel
theorem jd_J0_checkIndex_df160_1 : decode cJ0_checkIndex_df160 1 = .ok (.iload_n 1, 1) := by decide +kernel
theorem jd_J0_checkIndex_df160_2 : decode cJ0_checkIndex_df160 2 = .ok (.getstatic 1053, 3) := by decide +kernel
theorem jd_J0_checkIndex_df160_5 : decode cJ0_checkIndex_df160 5 = .ok (.invokestatic 1059, 3) := by decide +kernel
theorem jd_J0_checkIndex_df160_8 : decode cJ0_checkIndex_df160 8 = .ok (.pop, 1) := by decide +kernel
theorem jd_J0_checkIndex_df160_9 : decode cJ0_checkIndex_df160 9 = .ok (.return_, 1) := by decide +kernel
theorem jd_J3_checkIndex_8e157_0 : decode cJ3_checkIndex_8e157 0 = .ok (.iload_n 0, 1) := by decide +kernel
theorem jd_J3_checkIndex_8e157_1 : decode cJ3_checkIndex_8e157 1 = .ok (.ifCond .lt 8, 3) := by decide +kernel
theorem jd_J3_checkIndex_8e157_4 : decode cJ3_checkIndex_8e157 4 = .ok (.iload_n 0, 1) := by decide +kernel
theorem jd_J3_checkIndex_8e157_5 : decode cJ3_checkIndex_8e157 5 = .ok (.iload_n 1, 1) := by decide +kernel
theorem jd_J3_checkIndex_8e157_6 : decode cJ3_checkIndex_8e157 6 = .ok (.if_icmp .lt 10, 3) := by decide +kernel
theorem jd_J3_checkIndex_8e157_9 : decode cJ3_checkIndex_8e157 9 = .ok (.aload_n 2, 1) := by decide +kernel
theorem jd_J3_checkIndex_8e157_10 : decode cJ3_checkIndex_8e157 10 = .ok (.iload_n 0, 1) := by decide +kernel
theorem jd_J3_checkIndex_8e157_11 : decode cJ3_checkIndex_8e157 11 = .ok (.iload_n 1, 1) := by decide +kernel
theorem jd_J3_checkIndex_8e157_12 : decode cJ3_checkIndex_8e157 12 = .ok (.invokestatic 95, 3) := by decide +kernel
theorem jd_J3_checkIndex_8e157_15 : decode cJ3_checkIndex_8e157 15 = .ok (.athrow, 1) := by decide +kernel
theorem jd_J3_checkIndex_8e157_16 : decode cJ3_checkIndex_8e157 16 = .ok (.iload_n 0, 1) := by decide +kernel
theorem jd_J3_checkIndex_8e157_17 : decode cJ3_checkIndex_8e157 17 = .ok (.ireturn, 1) := by decide +kernel
set_option maxRecDepth 20000 in
theorem jm_coder (hE : SxKeeps base E) (l : Launch) {i : Nat} (hi : i < 5) : Met l yJ0_coder_7d493 (Cond.code yJ0_coder_7d493 cJ0_coder_7d493 1 (some .byte) :: lwG) (jRm 0) (jP base b adK adV E [.ref (adK i)]) (jQ (some (.int 0))) 0 0 (fun _ => False) := by
  refine Met.ofW (cc := cJ0_coder_7d493) (maxL := 1) (ret := (some .byte)) (by decide +kernel) rfl ?_
  intro p e s m args below meth c s₁ B hml hv
  obtain ⟨rfl, hX, hbs⟩ := hv
  have hx := B.exec
  have hb := B.bytes
  have hr := B.returns
  have hlocks := B.notSynchronized
  have hts : ∀ w ∈ lwG, w.before _ s = true := fun w hw => atoms_spec (ws := Cond.code yJ0_coder_7d493 cJ0_coder_7d493 1 (some .byte) :: lwG) B.pre w (List.mem_cons_of_mem _ hw)
  have hown : s.vm.findClass RJ0 = some m.cls := findClass_of_methodNamed B.named
  have hl := lv_entry ([.ref (adK i)]) (n := 1) (Nat.le_of_ble_eq_true rfl)
  rw [lg_entry_eq]
  generalize (lg_sl ([.ref (adK i)]) ++ List.replicate (1 - (lg_sl ([.ref (adK i)])).length) Slot.unset).toArray = ls at hl ⊢
  have hS : va_S (fun q => base ≤ q) s.heap s.heap [] := va_S.rf
  obtain ⟨x1, x2, x3, x4, x5, x6, x7⟩ := id hX
  refine va_gets hx hb x5 hS hown (hts _ jw_fs) (fun _ h => h) jd_J0_coder_7d493_0 ?_
  refine lv_if_eq (tgt := 13) hx hb jd_J0_coder_7d493_3 (by decide) (fun h => absurd h (by decide)) (fun _ => ?_)
  refine lv_aload_n hx hb jd_J0_coder_7d493_6 rfl (lv_at hl 0 rfl) ?_
  refine vk_getf hx hb (x4.1 i hi).2.1 hS hown (hts _ jw_fc) (fun _ h => h) jd_J0_coder_7d493_7 ?_
  refine lv_goto (tgt := 14) hx hb jd_J0_coder_7d493_10 (by decide) ?_
  exact W.zret (ty := .byte) hx hb hr rfl (fun t ht hW => ⟨rfl, ht⟩) (fun q h => by cases h) jd_J0_coder_7d493_14 hlocks
set_option maxRecDepth 20000 in
theorem jm_latin (hE : SxKeeps base E) (l : Launch) {i : Nat} (hi : i < 5) : Met l yJ0_isLatin1_aae02 (Cond.code yJ0_isLatin1_aae02 cJ0_isLatin1_aae02 1 (some .boolean) :: lwG) (jRm 0) (jP base b adK adV E [.ref (adK i)]) (jQ (some (.int 1))) 0 0 (fun _ => False) := by
  refine Met.ofW (cc := cJ0_isLatin1_aae02) (maxL := 1) (ret := (some .boolean)) (by decide +kernel) rfl ?_
  intro p e s m args below meth c s₁ B hml hv
  obtain ⟨rfl, hX, hbs⟩ := hv
  have hx := B.exec
  have hb := B.bytes
  have hr := B.returns
  have hlocks := B.notSynchronized
  have hts : ∀ w ∈ lwG, w.before _ s = true := fun w hw => atoms_spec (ws := Cond.code yJ0_isLatin1_aae02 cJ0_isLatin1_aae02 1 (some .boolean) :: lwG) B.pre w (List.mem_cons_of_mem _ hw)
  have hown : s.vm.findClass RJ0 = some m.cls := findClass_of_methodNamed B.named
  have hl := lv_entry ([.ref (adK i)]) (n := 1) (Nat.le_of_ble_eq_true rfl)
  rw [lg_entry_eq]
  generalize (lg_sl ([.ref (adK i)]) ++ List.replicate (1 - (lg_sl ([.ref (adK i)])).length) Slot.unset).toArray = ls at hl ⊢
  have hS : va_S (fun q => base ≤ q) s.heap s.heap [] := va_S.rf
  obtain ⟨x1, x2, x3, x4, x5, x6, x7⟩ := id hX
  refine va_gets hx hb x5 hS hown (hts _ jw_fs) (fun _ h => h) jd_J0_isLatin1_aae02_0 ?_
  refine lv_if_eq (tgt := 17) hx hb jd_J0_isLatin1_aae02_3 (by decide) (fun h => absurd h (by decide)) (fun _ => ?_)
  refine lv_aload_n hx hb jd_J0_isLatin1_aae02_6 rfl (lv_at hl 0 rfl) ?_
  refine vk_getf hx hb (x4.1 i hi).2.1 hS hown (hts _ jw_fc) (fun _ h => h) jd_J0_isLatin1_aae02_7 ?_
  refine lv_if_ne (tgt := 17) hx hb jd_J0_isLatin1_aae02_10 (by decide) (fun h => absurd rfl h) (fun _ => ?_)
  refine lv_iconst (v := 1) hx hb jd_J0_isLatin1_aae02_13 (by decide) ?_
  refine lv_goto (tgt := 18) hx hb jd_J0_isLatin1_aae02_14 (by decide) ?_
  exact W.zret (ty := .boolean) hx hb hr rfl (fun t ht hW => ⟨rfl, ht⟩) (fun q h => by cases h) jd_J0_isLatin1_aae02_18 hlocks
theorem jw_gv {y : MethodName} {own : String} {k : Nat} {c : ByteArray} {ml : Nat} {ret : Option FieldType} (h1 : Cond.methodLink own k y ∈ lwG) (h2 : Cond.instanceMethod y ∈ lwG) (h3 : Cond.selects RJ0 y y ∈ lwG) (h4 : Cond.code y c ml ret ∈ lwG) : GoodIn lwG (wsV own k RJ0 y (Cond.code y c ml ret :: lwG)) := by
  refine gGoodA (fun q hq => ?_) (jGood h4)
  simp only [List.mem_cons, List.not_mem_nil, or_false] at hq
  rcases hq with rfl | rfl | rfl | rfl
  · exact h1
  · exact h2
  · exact h3
  · exact jw_iS
theorem jw_gs {y : MethodName} {own : String} {k : Nat} {c : ByteArray} {ml : Nat} {ret : Option FieldType} (h1 : Cond.methodLink own k y ∈ lwG) (h2 : Cond.static y ∈ lwG) (h3 : Cond.initialized y.cls ∈ lwG) (h4 : Cond.code y c ml ret ∈ lwG) : GoodIn lwG (va_wsS own k y (Cond.code y c ml ret :: lwG)) := by
  refine gGoodA (fun q hq => ?_) (jGood h4)
  simp only [List.mem_cons, List.not_mem_nil, or_false] at hq
  rcases hq with rfl | rfl | rfl
  · exact h1
  · exact h2
  · exact h3
theorem jl_len : ∀ i, i < 5 → (gSb.map List.length).getD i 0 = (gSb.getD i []).length := by decide +kernel
set_option maxRecDepth 20000 in
theorem jm_len (hE : SxKeeps base E) (l : Launch) {i : Nat} (hi : i < 5) : Met l yJ0_length_8abf5 (Cond.code yJ0_length_8abf5 cJ0_length_8abf5 1 (some .int) :: lwG) (jRm 1) (jP base b adK adV E [.ref (adK i)]) (jQ (some (.int (Int32.ofNat (gSb.getD i []).length)))) 0 0 (fun _ => False) := by
  refine Met.ofW (cc := cJ0_length_8abf5) (maxL := 1) (ret := (some .int)) (by decide +kernel) rfl ?_
  intro p e s m args below meth c s₁ B hml hv
  obtain ⟨rfl, hX, hbs⟩ := hv
  have hx := B.exec
  have hb := B.bytes
  have hr := B.returns
  have hlocks := B.notSynchronized
  have hts : ∀ w ∈ lwG, w.before _ s = true := fun w hw => atoms_spec (ws := Cond.code yJ0_length_8abf5 cJ0_length_8abf5 1 (some .int) :: lwG) B.pre w (List.mem_cons_of_mem _ hw)
  have hown : s.vm.findClass RJ0 = some m.cls := findClass_of_methodNamed B.named
  have hl := lv_entry ([.ref (adK i)]) (n := 1) (Nat.le_of_ble_eq_true rfl)
  rw [lg_entry_eq]
  generalize (lg_sl ([.ref (adK i)]) ++ List.replicate (1 - (lg_sl ([.ref (adK i)])).length) Slot.unset).toArray = ls at hl ⊢
  have hS : va_S (fun q => base ≤ q) s.heap s.heap [] := va_S.rf
  obtain ⟨x1, x2, x3, x4, x5, x6, x7⟩ := id hX
  refine lv_aload_n hx hb jd_J0_length_8abf5_0 rfl (lv_at hl 0 rfl) ?_
  refine vk_getf hx hb (x4.1 i hi).2.2.1 hS hown (hts _ jw_fv) (fun _ h => h) jd_J0_length_8abf5_1 ?_
  refine va_tlen (v := Int32.ofNat (gSb.getD i []).length) hx hb (x4.1 i hi).2.2.2 hS (by rw [jl_len i hi]) jd_J0_length_8abf5_4 ?_
  refine lv_aload_n hx hb jd_J0_length_8abf5_5 rfl (lv_at hl 0 rfl) ?_
  refine mCall0 (va_runV (C := RJ0) (Ts := lwG) (own := RJ0) (index := 335) (b := adK i) (As := []) (rest := [.int (Int32.ofNat (gSb.getD i []).length)]) ⟨hx, hb, hml, hown, hts⟩ (jm_coder hE l hi) (cwV 0 hts (jw_gv jw_cod_l jw_cod_i jw_cod_s jw_cod_c) rfl rfl rfl (by decide +kernel) ⟨Nat.le_of_ble_eq_true rfl, Nat.le_of_ble_eq_true rfl⟩) ⟨(jPre hE hX hS hbs (.ref (adK i) :: [])).1, vk_recv x4 hi hS, (jPre hE hX hS hbs (.ref (adK i) :: [])).2⟩ rfl rfl hl.1 rfl (lv_room (Nat.le_of_ble_eq_true rfl)) jd_J0_length_8abf5_6 ⟨Nat.le_of_ble_eq_true rfl, Nat.le_of_ble_eq_true rfl⟩) ?_
  refine lv_ishr hx hb jd_J0_length_8abf5_9 ?_
  rw [sb_shr0]
  exact W.iret hx hb hr (fun t ht hW => ⟨rfl, ht⟩) (fun q h => by cases h) jd_J0_length_8abf5_10 hlocks
set_option maxRecDepth 20000 in
theorem jm_pk (hE : SxKeeps base E) (l : Launch) {j n : Int32} {v3 : Value} (hv3 : v3 = .null ∨ ∃ a, v3 = .ref a) (hj : ¬ j < 0) (hn : j < n) : Met l yJ3_checkIndex_8e157 (Cond.code yJ3_checkIndex_8e157 cJ3_checkIndex_8e157 3 (some .int) :: lwG) (jRm 0) (jP base b adK adV E [.int j, .int n, v3]) (jQ (some (.int j))) 0 0 (fun _ => False) := by
  refine Met.ofW (cc := cJ3_checkIndex_8e157) (maxL := 3) (ret := (some .int)) (by decide +kernel) rfl ?_
  intro p e s m args below meth c s₁ B hml hv
  obtain ⟨rfl, hX, hbs⟩ := hv
  have hx := B.exec
  have hb := B.bytes
  have hr := B.returns
  have hlocks := B.notSynchronized
  have hts : ∀ w ∈ lwG, w.before _ s = true := fun w hw => atoms_spec (ws := Cond.code yJ3_checkIndex_8e157 cJ3_checkIndex_8e157 3 (some .int) :: lwG) B.pre w (List.mem_cons_of_mem _ hw)
  have hown : s.vm.findClass RJ3 = some m.cls := findClass_of_methodNamed B.named
  have hc3 : v3.category = 1 := by rcases hv3 with rfl | ⟨a, rfl⟩ <;> rfl
  have hl := lv_entry ([.int j, .int n, v3]) (n := 3) (by rcases hv3 with rfl | ⟨a, rfl⟩ <;> exact Nat.le_of_ble_eq_true rfl)
  rw [lg_entry_eq]
  generalize (lg_sl ([.int j, .int n, v3]) ++ List.replicate (3 - (lg_sl ([.int j, .int n, v3])).length) Slot.unset).toArray = ls at hl ⊢
  have hS : va_S (fun q => base ≤ q) s.heap s.heap [] := va_S.rf
  obtain ⟨x1, x2, x3, x4, x5, x6, x7⟩ := id hX
  have hl0 : ls[0]? = some (.val (.int j)) := lv_at hl 0 rfl
  have hl1 : ls[1]? = some (.val (.int n)) := lv_at hl 1 rfl
  refine lv_iload_n hx hb jd_J3_checkIndex_8e157_0 rfl hl0 ?_
  refine lv_if_lt (tgt := 9) hx hb jd_J3_checkIndex_8e157_1 (by decide) (fun h => absurd h hj) (fun _ => ?_)
  refine lv_iload_n hx hb jd_J3_checkIndex_8e157_4 rfl hl0 ?_
  refine lv_iload_n hx hb jd_J3_checkIndex_8e157_5 rfl hl1 ?_
  refine lv_icmp_lt (tgt := 16) hx hb jd_J3_checkIndex_8e157_6 (by decide) (fun _ => ?_) (fun h => absurd hn h)
  refine lv_iload_n hx hb jd_J3_checkIndex_8e157_16 rfl hl0 ?_
  exact W.iret hx hb hr (fun t ht hW => ⟨rfl, ht⟩) (fun q h => by cases h) jd_J3_checkIndex_8e157_17 hlocks
set_option maxRecDepth 20000 in
theorem jm_ck (hE : SxKeeps base E) (l : Launch) {j n : Int32} (hj : ¬ j < 0) (hn : j < n) : Met l yJ0_checkIndex_df160 (Cond.code yJ0_checkIndex_df160 cJ0_checkIndex_df160 2 none :: lwG) (jRm 1) (jP base b adK adV E [.int j, .int n]) (jQ none) 0 0 (fun _ => False) := by
  refine Met.ofW (cc := cJ0_checkIndex_df160) (maxL := 2) (ret := none) (by decide +kernel) rfl ?_
  intro p e s m args below meth c s₁ B hml hv
  obtain ⟨rfl, hX, hbs⟩ := hv
  have hx := B.exec
  have hb := B.bytes
  have hr := B.returns
  have hlocks := B.notSynchronized
  have hts : ∀ w ∈ lwG, w.before _ s = true := fun w hw => atoms_spec (ws := Cond.code yJ0_checkIndex_df160 cJ0_checkIndex_df160 2 none :: lwG) B.pre w (List.mem_cons_of_mem _ hw)
  have hown : s.vm.findClass RJ0 = some m.cls := findClass_of_methodNamed B.named
  have hl := lv_entry ([.int j, .int n]) (n := 2) (Nat.le_of_ble_eq_true rfl)
  rw [lg_entry_eq]
  generalize (lg_sl ([.int j, .int n]) ++ List.replicate (2 - (lg_sl ([.int j, .int n])).length) Slot.unset).toArray = ls at hl ⊢
  have hS : va_S (fun q => base ≤ q) s.heap s.heap [] := va_S.rf
  obtain ⟨x1, x2, x3, x4, x5, x6, x7⟩ := id hX
  have hl0 : ls[0]? = some (.val (.int j)) := lv_at hl 0 rfl
  have hl1 : ls[1]? = some (.val (.int n)) := lv_at hl 1 rfl
  refine lv_iload_n hx hb jd_J0_checkIndex_df160_0 rfl hl0 ?_
  refine lv_iload_n hx hb jd_J0_checkIndex_df160_1 rfl hl1 ?_
  obtain ⟨v3, hv3, hz3⟩ : ∃ v3, (v3 = .null ∨ ∃ a, v3 = .ref a) ∧ va_Z "jdk/internal/util/Preconditions" "SIOOBE_FORMATTER" "Ljava/util/function/BiFunction;" v3 (fun q => base ≤ q) s s.heap := by
    rcases x6 with h | ⟨t, h⟩
    · exact ⟨_, Or.inl rfl, h⟩
    · exact ⟨_, Or.inr ⟨t, rfl⟩, h⟩
  refine va_gets hx hb hz3 hS hown (hts _ jw_ff) (fun _ h => h) jd_J0_checkIndex_df160_2 ?_
  refine mCall0 (va_runS (Ts := lwG) (own := RJ0) (index := 1059) (As := [.int j, .int n, v3]) (rest := []) ⟨hx, hb, hml, hown, hts⟩ (jm_pk hE l hv3 hj hn) (va_cwS 3 hts (jw_gs jw_pk_l jw_pk_t jw_iP jw_pk_c) rfl rfl rfl (by decide +kernel) ⟨Nat.le_of_ble_eq_true rfl, Nat.le_of_ble_eq_true rfl⟩) (jPre hE hX hS hbs [.int j, .int n, v3]) rfl rfl hl.1 rfl (lv_room (Nat.le_of_ble_eq_true rfl)) jd_J0_checkIndex_df160_5 ⟨Nat.le_of_ble_eq_true rfl, Nat.le_of_ble_eq_true rfl⟩) ?_
  refine lv_pop hx hb jd_J0_checkIndex_df160_8 rfl ?_
  exact W.vret hx hb hr (fun t ht hW => ⟨rfl, ht⟩) (fun q h => by cases h) jd_J0_checkIndex_df160_9 hlocks
theorem jl_b0 : gSb.all (fun l => l.all (fun b => decide (((b &&& 255).toUInt32 % 65536).toInt32 = b) && decide (narrow .char (.int b) = .int b))) = true := by decide +kernel
theorem jl_b {i j : Nat} : ((((gSb.getD i []).getD j 0) &&& 255).toUInt32 % 65536).toInt32 = (gSb.getD i []).getD j 0 ∧ narrow .char (.int ((gSb.getD i []).getD j 0)) = .int ((gSb.getD i []).getD j 0) := by
  by_cases hj : j < (gSb.getD i []).length
  · have hi : i < gSb.length := by
      rcases Nat.lt_or_ge i gSb.length with h | h
      · exact h
      · rw [List.getD_eq_getElem?_getD, List.getElem?_eq_none h] at hj
        exact absurd hj (Nat.not_lt_zero _)
    have h1 : gSb.getD i [] ∈ gSb := by
      rw [List.getD_eq_getElem?_getD, List.getElem?_eq_getElem hi]
      exact List.getElem_mem hi
    have h2 : (gSb.getD i []).getD j 0 ∈ gSb.getD i [] := by
      rw [List.getD_eq_getElem?_getD (l := gSb.getD i []), List.getElem?_eq_getElem hj]
      exact List.getElem_mem hj
    have h3 := List.all_eq_true.mp (List.all_eq_true.mp jl_b0 _ h1) _ h2
    rw [Bool.and_eq_true] at h3
    exact ⟨of_decide_eq_true h3.1, of_decide_eq_true h3.2⟩
  · have h0 : (gSb.getD i []).getD j 0 = 0 := by
      rw [List.getD_eq_getElem?_getD (l := gSb.getD i []), List.getElem?_eq_none (by omega)]
      rfl
    rw [h0]
    exact ⟨by decide, rfl⟩
theorem jl_in {j : Int32} {n : Nat} (hn : n < 1000) (h : ¬ mOut j n) : ¬ j < 0 ∧ j < Int32.ofNat n := by
  obtain ⟨k, hk, rfl⟩ := vp_in_of (x := j) (n := n) h (by omega)
  exact ⟨nI_pos (by omega), nI_lt hk (by omega)⟩
theorem jl_small : ∀ i, i < 5 → (gSb.getD i []).length < 1000 := by decide +kernel
set_option maxRecDepth 20000 in
theorem jm_l1 (hE : SxKeeps base E) (l : Launch) {i : Nat} (hi : i < 5) {j : Int32} (hj : ¬ mOut j (gSb.getD i []).length) : Met l yJ1_charAt_3b067 (Cond.code yJ1_charAt_3b067 cJ1_charAt_3b067 2 (some .char) :: lwG) (jRm 2) (jP base b adK adV E [.ref (adV i), .int j]) (jQ (some (.int ((gSb.getD i []).getD j.toNatClampNeg 0)))) 0 0 (fun _ => False) := by
  refine Met.ofW (cc := cJ1_charAt_3b067) (maxL := 2) (ret := (some .char)) (by decide +kernel) rfl ?_
  intro p e s m args below meth c s₁ B hml hv
  obtain ⟨rfl, hX, hbs⟩ := hv
  have hx := B.exec
  have hb := B.bytes
  have hr := B.returns
  have hlocks := B.notSynchronized
  have hts : ∀ w ∈ lwG, w.before _ s = true := fun w hw => atoms_spec (ws := Cond.code yJ1_charAt_3b067 cJ1_charAt_3b067 2 (some .char) :: lwG) B.pre w (List.mem_cons_of_mem _ hw)
  have hown : s.vm.findClass RJ1 = some m.cls := findClass_of_methodNamed B.named
  have hl := lv_entry ([.ref (adV i), .int j]) (n := 2) (Nat.le_of_ble_eq_true rfl)
  rw [lg_entry_eq]
  generalize (lg_sl ([.ref (adV i), .int j]) ++ List.replicate (2 - (lg_sl ([.ref (adV i), .int j])).length) Slot.unset).toArray = ls at hl ⊢
  have hS : va_S (fun q => base ≤ q) s.heap s.heap [] := va_S.rf
  obtain ⟨x1, x2, x3, x4, x5, x6, x7⟩ := id hX
  have hl0 : ls[0]? = some (.val (.ref (adV i))) := lv_at hl 0 rfl
  have hl1 : ls[1]? = some (.val (.int j)) := lv_at hl 1 rfl
  have hin := jl_in (jl_small i hi) hj
  refine lv_iload_n hx hb jd_J1_charAt_3b067_0 rfl hl1 ?_
  refine lv_aload_n hx hb jd_J1_charAt_3b067_1 rfl hl0 ?_
  refine va_tlen (v := Int32.ofNat (gSb.getD i []).length) hx hb (x4.1 i hi).2.2.2 hS (by rw [jl_len i hi]) jd_J1_charAt_3b067_2 ?_
  refine mCall0 (va_runS (Ts := lwG) (own := RJ1) (index := 9) (As := [.int j, .int (Int32.ofNat (gSb.getD i []).length)]) (rest := []) ⟨hx, hb, hml, hown, hts⟩ (jm_ck hE l hin.1 hin.2) (va_cwS 2 hts (jw_gs jw_ck_l jw_ck_t jw_iS jw_ck_c) rfl rfl rfl (by decide +kernel) ⟨Nat.le_of_ble_eq_true rfl, Nat.le_of_ble_eq_true rfl⟩) (jPre hE hX hS hbs [.int j, .int (Int32.ofNat (gSb.getD i []).length)]) rfl rfl hl.1 rfl (lv_room (Nat.le_of_ble_eq_true rfl)) jd_J1_charAt_3b067_3 ⟨Nat.le_of_ble_eq_true rfl, Nat.le_of_ble_eq_true rfl⟩) ?_
  refine lv_aload_n hx hb jd_J1_charAt_3b067_6 rfl hl0 ?_
  refine lv_iload_n hx hb jd_J1_charAt_3b067_7 rfl hl1 ?_
  refine va_tb hx hb (x4.1 i hi).2.2.2 hS (by rw [jl_len i hi]; exact hj) rfl jd_J1_charAt_3b067_8 ?_
  refine lv_sipush (v := 255) hx hb jd_J1_charAt_3b067_9 (by decide) ?_
  refine lv_iand hx hb jd_J1_charAt_3b067_12 ?_
  refine lv_i2c (v := (gSb.getD i []).getD j.toNatClampNeg 0) hx hb jd_J1_charAt_3b067_13 jl_b.1 ?_
  exact W.zret (ty := .char) hx hb hr jl_b.2 (fun t ht hW => ⟨rfl, ht⟩) (fun q h => by cases h) jd_J1_charAt_3b067_14 hlocks
set_option maxRecDepth 20000 in
theorem jm_chr (hE : SxKeeps base E) (l : Launch) {i : Nat} (hi : i < 5) {j : Int32} (hj : ¬ mOut j (gSb.getD i []).length) : Met l yJ0_charAt_5068e (Cond.code yJ0_charAt_5068e cJ0_charAt_5068e 2 (some .char) :: lwG) (jRm 3) (jP base b adK adV E [.ref (adK i), .int j]) (jQ (some (.int ((gSb.getD i []).getD j.toNatClampNeg 0)))) 0 0 (fun _ => False) := by
  refine Met.ofW (cc := cJ0_charAt_5068e) (maxL := 2) (ret := (some .char)) (by decide +kernel) rfl ?_
  intro p e s m args below meth c s₁ B hml hv
  obtain ⟨rfl, hX, hbs⟩ := hv
  have hx := B.exec
  have hb := B.bytes
  have hr := B.returns
  have hlocks := B.notSynchronized
  have hts : ∀ w ∈ lwG, w.before _ s = true := fun w hw => atoms_spec (ws := Cond.code yJ0_charAt_5068e cJ0_charAt_5068e 2 (some .char) :: lwG) B.pre w (List.mem_cons_of_mem _ hw)
  have hown : s.vm.findClass RJ0 = some m.cls := findClass_of_methodNamed B.named
  have hl := lv_entry ([.ref (adK i), .int j]) (n := 2) (Nat.le_of_ble_eq_true rfl)
  rw [lg_entry_eq]
  generalize (lg_sl ([.ref (adK i), .int j]) ++ List.replicate (2 - (lg_sl ([.ref (adK i), .int j])).length) Slot.unset).toArray = ls at hl ⊢
  have hS : va_S (fun q => base ≤ q) s.heap s.heap [] := va_S.rf
  obtain ⟨x1, x2, x3, x4, x5, x6, x7⟩ := id hX
  have hl0 : ls[0]? = some (.val (.ref (adK i))) := lv_at hl 0 rfl
  have hl1 : ls[1]? = some (.val (.int j)) := lv_at hl 1 rfl
  refine lv_aload_n hx hb jd_J0_charAt_5068e_0 rfl hl0 ?_
  refine mCall0 (va_runV (C := RJ0) (Ts := lwG) (own := RJ0) (index := 492) (b := adK i) (As := []) (rest := []) ⟨hx, hb, hml, hown, hts⟩ (jm_latin hE l hi) (cwV 0 hts (jw_gv jw_lat_l jw_lat_i jw_lat_s jw_lat_c) rfl rfl rfl (by decide +kernel) ⟨Nat.le_of_ble_eq_true rfl, Nat.le_of_ble_eq_true rfl⟩) ⟨(jPre hE hX hS hbs (.ref (adK i) :: [])).1, vk_recv x4 hi hS, (jPre hE hX hS hbs (.ref (adK i) :: [])).2⟩ rfl rfl hl.1 rfl (lv_room (Nat.le_of_ble_eq_true rfl)) jd_J0_charAt_5068e_1 ⟨Nat.le_of_ble_eq_true rfl, Nat.le_of_ble_eq_true rfl⟩) ?_
  refine lv_if_eq (tgt := 16) hx hb jd_J0_charAt_5068e_4 (by decide) (fun h => absurd h (by decide)) (fun _ => ?_)
  refine lv_aload_n hx hb jd_J0_charAt_5068e_7 rfl hl0 ?_
  refine vk_getf hx hb (x4.1 i hi).2.2.1 hS hown (hts _ jw_fv) (fun _ h => h) jd_J0_charAt_5068e_8 ?_
  refine lv_iload_n hx hb jd_J0_charAt_5068e_11 rfl hl1 ?_
  refine mCall0 (va_runS (Ts := lwG) (own := RJ0) (index := 495) (As := [.ref (adV i), .int j]) (rest := []) ⟨hx, hb, hml, hown, hts⟩ (jm_l1 hE l hi hj) (va_cwS 2 hts (jw_gs jw_l1_l jw_l1_t jw_iL jw_l1_c) rfl rfl rfl (by decide +kernel) ⟨Nat.le_of_ble_eq_true rfl, Nat.le_of_ble_eq_true rfl⟩) (jPre hE hX hS hbs [.ref (adV i), .int j]) rfl rfl hl.1 rfl (lv_room (Nat.le_of_ble_eq_true rfl)) jd_J0_charAt_5068e_12 ⟨Nat.le_of_ble_eq_true rfl, Nat.le_of_ble_eq_true rfl⟩) ?_
  exact W.zret (ty := .char) hx hb hr jl_b.2 (fun t ht hW => ⟨rfl, ht⟩) (fun q h => by cases h) jd_J0_charAt_5068e_15 hlocks
set_option maxRecDepth 20000 in
theorem SxD_str (hE : SxKeeps base E) (l : Launch) : mStrOk l base b adK (SxD base b adK adV E) := by
  refine ⟨?_, ?_⟩
  · intro p e R s m args below meth c H locs cells slots Q pc cc own ls rest a k hx hb hml hown hts hX hS hbs hlk hfr hlo ha0 ha1 hr8 hc hz hdg kk
    have ha0 : 1000000 < a := ha0
    obtain ⟨i, hi, rfl⟩ : ∃ i, i < 5 ∧ a = 1000001 + i := ⟨a - 1000001, by omega, by omega⟩
    have hi0 : 1000001 + i - 1000001 = i := by omega
    rw [hi0] at kk
    have had : mAd base b adK (1000001 + i) = adK i := by
      unfold mAd
      rw [if_neg (by omega), if_neg (by omega), hi0]
    rw [had]
    exact mCall0 (va_runV (C := RJ0) (Ts := lwG) (own := own) (index := k) (b := adK i) (As := []) (rest := rest) ⟨hx, hb, hml, hown, hts⟩ (jm_len hE l hi) (cwV 0 hts (jw_gv hlk jw_len_i jw_len_s jw_len_c) rfl rfl rfl (by decide +kernel) ⟨by show 1 + 1 ≤ R.frames; omega, by show 8 + (1 + 11) + 60 * 1 ≤ R.locals; omega⟩) ⟨(jPre hE hX hS hbs [.ref (adK i)]).1, vk_recv hX.2.2.2.1 hi hS, (jPre hE hX hS hbs [.ref (adK i)]).2⟩ rfl rfl rfl rfl (lv_room hr8) hdg ⟨by omega, by omega⟩) kk
  · intro p e R s m args below meth c H locs cells slots Q pc cc own ls rest a k j hx hb hml hown hts hX hS hbs hlk hfr hlo ha0 ha1 hj hr8 hc hz hdg kk
    have ha0 : 1000000 < a := ha0
    obtain ⟨i, hi, rfl⟩ : ∃ i, i < 5 ∧ a = 1000001 + i := ⟨a - 1000001, by omega, by omega⟩
    have hi0 : 1000001 + i - 1000001 = i := by omega
    rw [hi0] at kk hj
    have had : mAd base b adK (1000001 + i) = adK i := by
      unfold mAd
      rw [if_neg (by omega), if_neg (by omega), hi0]
    rw [had]
    exact mCall0 (va_runV (C := RJ0) (Ts := lwG) (own := own) (index := k) (b := adK i) (As := [.int j]) (rest := rest) ⟨hx, hb, hml, hown, hts⟩ (jm_chr hE l hi hj) (cwV 1 hts (jw_gv hlk jw_chr_i jw_chr_s jw_chr_c) rfl rfl rfl (by decide +kernel) ⟨by show 3 + 1 ≤ R.frames; omega, by show 8 + (2 + 11) + 60 * 3 ≤ R.locals; omega⟩) ⟨(jPre hE hX hS hbs [.ref (adK i), .int j]).1, vk_recv hX.2.2.2.1 hi hS, (jPre hE hX hS hbs [.ref (adK i), .int j]).2⟩ rfl rfl rfl rfl (lv_room hr8) hdg ⟨by omega, by omega⟩) kk
end STR
