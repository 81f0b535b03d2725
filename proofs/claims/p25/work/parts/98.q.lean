def Qf (o : mO) (w : mW) : Prop := o = some (some (.int 1)) ∧ w.1.length ≤ 717683 ∧ wZ w ≤ 6948432
section LP0
variable {L : Nat} {xs : Nat → Int32} {d : Nat}
theorem qf_i {n : Nat} {x : mX} {I : rI0} {J : rJ0} (h : INV n x I J) (hn : n ≤ 64) : Qf (some (some (.int (1 : Int32)))) (wv x I J) := by
  obtain ⟨-, -, -, h1, h2⟩ := h
  refine ⟨rfl, ?_, ?_⟩
  · show (SHL ++ x.1).length ≤ 717683
    rw [List.length_append, SHL_len]
    omega
  · show x.2.2.2 ≤ 6948432
    omega
theorem law_lp (hL : L ≤ 384) : ∀ (m n : Nat) (x : mX) (I : rI0) (J : rJ0), n + m = 64 → INV n x I J → RX x I J → wp (L, xs) (d + 40 + 8) 0 23 [some (.ref mScr), some (.ref 0), some (.ref 43), some (.ref 67), some (.int (nI (6 * n))), none, none] [] (wv x I J) Qf := by
  have tL : (Int32.ofNat L - (6 : Int32)).toInt = (L : Int) - 6 := by
    have l6 : (6 : Int32).toInt = 6 := by decide
    have e : (Int32.ofNat L).toInt = (L : Int) := nI_toInt (by omega)
    exact i_sub e l6 (by omega)
  intro m
  induction m with
  | zero =>
    intro n x I J hn h ht
    refine L_23 (d := d + 40) ⟨fun _ => qf_i h (by omega), fun q => absurd ?_ q⟩
    refine Int32.lt_iff_toInt_lt.mpr ?_
    show (Int32.ofNat L - (6 : Int32)).toInt < _
    rw [tL, nI_toInt (by omega)]
    omega
  | succ m ih =>
    intro n x I J hn h ht
    have hn64 : n ≤ 64 := by omega
    refine L_23 (d := d + 40) ⟨fun _ => qf_i h (by omega), fun q => ?_⟩
    have q := i_nlt q
    have q : (nI (6 * n)).toInt ≤ (Int32.ofNat L - (6 : Int32)).toInt := q
    rw [tL, nI_toInt (by omega)] at q
    have F : GO (L, xs) d (n + 1) (nI (6 * n)) Qf := by
      intro x' I' J' h' ht'
      refine L_1362 (d := d + 40) ?_
      have e : nI (6 * n) + (6 : Int32) = nI (6 * (n + 1)) := by
        show nI (6 * n) + nI 6 = _
        rw [nI_add]
        congr 1
      rw [e]
      exact ih (n + 1) x' I' J' (by omega) h' ht'
    have s0 : ¬ mOut (nI (6 * n)) L := nI_in (by omega) (by omega)
    have s : ∀ j, j ≤ 5 → ¬ mOut (nI (6 * n) + nI j) L := fun j hj => by
      rw [nI_add]
      exact nI_in (by omega) (by omega)
    have s1 := s 1 (by omega)
    have s2 := s 2 (by omega)
    have s3 := s 3 (by omega)
    have s4 := s 4 (by omega)
    have s5 := s 5 (by omega)
    exact ⟨s0, fun _ => F _ _ _ ⟨h.1, h.2.1, h.2.2.1, by have := h.2.2.2; omega⟩ ht, fun _ => q_0 h ht hn64 s1 s2 s3 s4 s5 F, fun _ => q_1 h ht hn64 s1 F, fun _ => q_2 h ht hn64 F, fun _ => q_3 h ht hn64 F, fun _ => q_4 h ht hn64 s1 s2 F, fun _ => q_5 h ht hn64 s1 s2 F, fun _ => q_6 h ht hn64 s1 s2 F, fun _ => q_7 h ht hn64 s1 s2 F, fun _ => q_8 h ht hn64 F, fun _ => q_9 h ht hn64 s1 s2 F, fun _ => q_10 h ht hn64 s1 s2 s3 s4 F, fun _ => q_11 h ht hn64 s1 s2 s3 F, fun _ => q_12 h ht hn64 s1 s2 F, fun _ => q_13 h ht hn64 s1 s2 s3 F, fun _ => q_14 h ht hn64 s1 F, fun _ => q_15 h ht hn64 s1 F, fun _ => q_16 h ht hn64 F, fun _ => q_17 h ht hn64 s1 F, fun _ => q_18 h ht hn64 s1 F, fun _ => q_19 h ht hn64 s1 F, fun _ => q_20 h ht hn64 F, fun _ => q_21 h ht hn64 F, fun _ => q_22 h ht hn64 F, fun _ => q_23 h ht hn64 s1 F, fun _ => q_24 h ht hn64 F, fun _ => q_25 h ht hn64 s1 s2 F, fun _ => q_26 h ht hn64 F, fun _ => q_27 h ht hn64 s1 F, fun _ => q_28 h ht hn64 s1 F, fun _ => q_29 h ht hn64 s1 F, fun _ => q_30 h ht hn64 s1 s2 F, fun _ => q_31 h ht hn64 F, fun _ => q_32 h ht hn64 s1 s2 F, fun _ => q_33 h ht hn64 s1 F, fun _ => q_34 h ht hn64 s1 F, fun _ => q_35 h ht hn64 s1 s2 F, fun _ => q_36 h ht hn64 F, fun _ => q_37 h ht hn64 F, fun _ => q_38 h ht hn64 s1 F, fun _ => q_39 h ht hn64 s1 F, fun _ => q_40 h ht hn64 s1 F⟩
theorem ic45 : ∀ i, i < 590 → Ic 45 i = plainR (wI kw179 46) i := fun i hi => (show (if i < 590 then wI kw180 46 i else wI kw180 45 i) = plainR (wI kw179 46) i from (if_pos hi).trans rfl)
set_option maxRecDepth 100000 in
theorem ic46 : ∀ i, Ic 46 i = plainR (wI kw179 46) i := fun i => rfl
set_option maxRecDepth 100000 in
theorem cv_0 : CV Ic Jc := by
  have z : ∀ {v : Int32} {n : Nat}, v = 0 → RB v n := fun h => ⟨0, Nat.zero_le _, h⟩
  have hv4 : HV 4 5 Ic Jc := ⟨z (by decide +kernel), z (by decide +kernel), Or.inl (by decide +kernel), fun s _ => Or.inr (z rfl), fun s _ hb => absurd (show SB (Jc 4 5) s from hb) (by rw [show Jc 4 5 = 0 by decide +kernel]; exact SB_0)⟩
  have hv16 : HV 16 17 Ic Jc := ⟨z (by decide +kernel), z (by decide +kernel), Or.inl (by decide +kernel), fun s _ => Or.inr (z rfl), fun s _ hb => absurd (show SB (Jc 16 5) s from hb) (by rw [show Jc 16 5 = 0 by decide +kernel]; exact SB_0)⟩
  exact ⟨z (by decide +kernel), hv4, hv16, z (by decide +kernel), z (by decide +kernel), z (by decide +kernel), z (by decide +kernel), z (by decide +kernel), z (by decide +kernel), z (by decide +kernel), z (by decide +kernel)⟩
set_option maxRecDepth 100000 in
theorem mn_0 : MN Ic := by
  unfold MN TKm
  decide +kernel
set_option maxRecDepth 100000 in
theorem mv_0 : MV Ic Jc := by
  have e52 : ¬ 1 ≤ (Ic 43 52).toInt := by decide +kernel
  have e590 : 0 ≤ (Ic 45 590).toInt ∧ (Ic 45 590).toInt ≤ 30 := by decide +kernel
  have z0 : (0 : Int32).toInt = 0 := by decide
  refine ⟨mn_0, ⟨HW_congr ic45 (HW_plain _), e590⟩, ?_, fun k => ?_, fun k => Or.inl rfl, fun h => absurd h e52, fun k _ => Or.inl rfl⟩
  · exact HW_congr (fun i _ => ic46 i) (HW_plain _)
  · show 0 ≤ (0 : Int32).toInt ∧ (0 : Int32).toInt ≤ 63
    omega
theorem inv_0 : INV 0 x0 Ic Jc := ⟨cv_0, mv_0, ⟨fun k _ => Or.inl rfl, fun k _ => iff_of_true rfl rfl⟩, by decide, by decide⟩
set_option maxRecDepth 100000 in
theorem tr_00 : Ic 1 1 = Ic 43 2 := by decide +kernel
set_option maxRecDepth 100000 in
theorem tb_0 : TB Ic := ⟨tr_00, fun i _ => by rw [show Ic 44 i = 0 from rfl, show Ic 2 i = 0 from rfl]; decide⟩
set_option maxRecDepth 100000 in
theorem nr_0 : NRw 3 Ic Jc (Ic 45) := by
  have a : Ic 4 0 = nI 0 ∧ Ic 45 0 = nI 0 ∧ Ic 4 1 = nI 0 ∧ Ic 45 1 = nI 0 ∧ Ic 4 4 = 0 ∧ Ic 45 5 = 0 ∧ Ic 4 2 = nI 1 ∧ Ic 45 3 = nI 1 ∧ Ic 4 3 = nI 600 ∧ Ic 45 4 = nI 600 ∧ Jc 4 5 = 0 := by decide +kernel
  have s : ∀ s, s < 64 → ¬ 0 < (Ic 45 (6 + s)).toInt := by decide +kernel
  have p : ∀ r, r < 8 → Ic 7 r = 10 ∧ Ic 45 (70 + r) = 10 ∧ Ic 8 r = -1 ∧ Ic 45 (78 + r) = 0 := by decide +kernel
  have l : ∀ l, l < 12 → Ic 9 l = -1 ∧ Ic 45 (86 + 42 * l) = 0 := by decide +kernel
  obtain ⟨a1, a2, a3, a4, a5, a6, a7, a8, a9, a10, a11⟩ := a
  have n : ∀ s, ¬ SB (Jc 4 5) s := fun s hb => by
    rw [a11] at hb
    exact SB_0 hb
  exact ⟨⟨0, 0, by omega, by omega, a1, a2, a3, a4, fun s _ _ => n s⟩, fun v hv => iff_of_false (n v) (s v hv), fun r hr => ⟨⟨10, by omega, (p r hr).1⟩, (p r hr).2.1.trans (p r hr).1.symm⟩, fun r hr => ⟨Or.inl (p r hr).2.2.1, (p r hr).2.2.2.trans (by rw [show Ic (3 + 5) r = -1 from (p r hr).2.2.1]; decide)⟩, ⟨Or.inl a5, a6.trans a5.symm, ⟨1, by omega, by omega, a7, a8⟩, ⟨600, by omega, a9, a10⟩⟩, fun i hi => Or.inl (l i hi)⟩
set_option maxRecDepth 100000 in
theorem nc_0 : NCu 3 Ic (Ic 45) := ⟨0, by omega, by decide +kernel, by decide +kernel, fun i hi => absurd hi (by omega)⟩
set_option maxRecDepth 100000 in
theorem fe_00 : Ic 0 9 = Ic 43 13 := by decide +kernel
theorem tr_0 : RLx x0 Ic Jc := ⟨tb_0, ⟨nr_0, nc_0⟩, ⟨fun k a _ e => (by cases e), fun a e => (by cases e)⟩, fe_00⟩
set_option maxRecDepth 100000 in
theorem nx_0 : NX 3 Ic Jc (Ic 45) := by
  have s : ∀ s, s < 64 → ¬ 0 < (Ic 45 (6 + s)).toInt := by decide +kernel
  have e : ∀ v, seB (Ic 45) v = false := fun v => by
    unfold seB
    by_cases z : v < 64
    · rw [decide_eq_false (s v z), Bool.and_false]
    · rw [decide_eq_false z, Bool.false_and]
  have q : ∀ k, k < 6 → Jc 6 k = 0 := by decide +kernel
  refine ⟨fun v hv => ?_, fun k hk v _ => ?_, fun a _ v hv => ?_⟩
  · rw [e v] at hv
    cases hv
  · show bits5 (Jc 6 k) v = _
    rw [q k hk, b5_0, e v]
    rfl
  · rw [e v] at hv
    cases hv
set_option maxRecDepth 100000 in
theorem cg_0 : CG (Ic 45) := by
  have a : Ic 45 590 = nI 0 := by decide +kernel
  have e := gn_i (g := Ic 45) (k := 590) (m := 0) a (by omega)
  exact ⟨by omega, by rw [e]; exact a, fun i hi => absurd hi (by omega)⟩
set_option maxRecDepth 100000 in
theorem ts_0 : TRs Ic Jc := by
  have a : Ic 37 8 = Ic 43 48 ∧ Ic 43 55 = 0 ∧ Ic 37 9 = -1 ∧ Ic 37 10 = -1 ∧ Ic 37 11 = -1 ∧ Ic 0 10 = Ic 43 63 ∧ Ic 37 7 = nI 0 ∧ Ic 43 52 = nI 0 := by decide +kernel
  exact ⟨a.1, ⟨0, fun _ => 0, by omega, a.2.2.2.2.2.2.1, a.2.2.2.2.2.2.2, fun i hi => absurd hi (by omega), Or.inl rfl⟩, Or.inl ⟨a.2.1, a.2.2.1, a.2.2.2.1, a.2.2.2.2.1⟩, a.2.2.2.2.2.1⟩
set_option maxRecDepth 100000 in
theorem rx_0 : RX x0 Ic Jc := by
  have a : Jc 3 5 = 0 ∧ Jc 3 6 = 0 ∧ Jc 43 16 = 0 ∧ Jc 43 17 = 0 ∧ ¬ Ic 43 30 = 0 ∧ Ic 31 6 = 0 := by decide +kernel
  exact ⟨tr_0, NTw.rd tr_0 nx_0 cg_0 (by rw [a.1, a.2.2.1]) (by rw [a.2.1, a.2.2.2.1]) (fun s hs => by rw [a.2.2.1, b5_0] at hs; cases hs) (fun k a _ e => (by cases e)) ts_0 (fun z => absurd z a.2.2.2.2.1) a.2.2.2.2.2⟩
theorem mPure_all (L : Nat) (xs : Nat → Int32) (hL : L ≤ 384) : mPure L xs := by
  have key : wp (L, xs) 1300 0 0 (mIni 7 [.ref mScr]) [] mW0 Qf := by
    refine ctor_w ?_
    rw [kw_wv]
    exact law_lp (d := 1252) hL 64 0 x0 Ic Jc rfl inv_0 rx_0
  obtain ⟨n, o, w', h1, h2, h3, h4⟩ := key
  subst h2
  exact ⟨n, w', h1, h3, h4⟩
end LP0
