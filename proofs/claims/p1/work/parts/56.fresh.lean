/-! A NEW OBJECT, AND ONE CALL -/
set_option maxRecDepth 100000 in
theorem fr_CF : CF Ic Jc := by
  unfold CF
  decide +kernel
set_option maxRecDepth 100000 in
theorem fr_DZ : DZ Ic Jc := ⟨fr_CF, fun m => rfl, fun m => rfl, fun m => rfl, fun m => rfl, Or.inl (by decide +kernel)⟩
set_option maxRecDepth 100000 in
theorem fr_CI : CI Ic Jc := ⟨fr_DZ, by decide +kernel, by decide +kernel, by decide +kernel, by decide +kernel, by decide +kernel, by decide +kernel, by decide +kernel, by decide +kernel, by decide +kernel, by decide +kernel, by decide +kernel⟩
set_option maxRecDepth 100000 in
theorem fr_MF : MFr (Ic 45) := by
  unfold MFr
  decide +kernel
set_option maxRecDepth 100000 in
theorem fr_MI : MI Ic Jc := ⟨⟨fr_MF, by decide +kernel, by decide +kernel, fun m => rfl, fun m => rfl, fun m => rfl, fun m => rfl⟩, by decide +kernel, by decide +kernel, by decide +kernel, by decide +kernel, by decide +kernel, by decide +kernel, by decide +kernel, by decide +kernel, by decide +kernel, by decide +kernel⟩
section FRE
variable {xs : Nat → Int32} {d : Nat} {I : rI0} {J : rJ0} {Q : mO → mW → Prop}
theorem xo_0 : XO x0 := ⟨by decide, by decide⟩
theorem xo_i0 : XO iw0_x := ⟨by decide, by decide⟩
theorem xo_i1 : XO iw1_x := ⟨by decide, by decide⟩
theorem op38 (hC : CI I J) (hM : MI I J) (hF : FIN xs d Q) : OP xs d 1371 x0 I J Q := by
  have h44 : I 4 4 = 0 := hC.1.1.2.2.2.2.1
  refine L_1371 ⟨s1, ?_⟩
  generalize hp : (6, xs).2 ((0 : Int32) + 1).toNatClampNeg = p
  by_cases a0 : p < 0
  · exact img_no (Or.inl a0) ⟨s1, c243_43 (inN (Or.inl a0) (eqok (eqok (hF _ _ _ xo_0))))⟩
  by_cases a1 : 1 < p
  · exact img_no (Or.inr a1) ⟨s1, c243_43 (inN (Or.inr a1) (eqok (eqok (hF _ _ _ xo_0))))⟩
  obtain ⟨t, ht, et⟩ := i_nat (n := 1) (by omega) a0 a1
  rcases (show t = 0 ∨ t = 1 by omega) with rfl | rfl
  · have et : p = 0 := et
    subst et
    refine img_w0 (d := d + 1) (Or.inl h44) ?_
    rw [iw0_wv]
    refine ⟨iw0_x, 1, _, _, rfl, rfl, s1, ?_⟩
    exact c243_43 (inY (by decide) (by decide) ⟨fun z => absurd z (by decide), fun _ => mimg_lp (B := 0) (by omega) (by decide) (by decide) (fun I2 J2 => eqok (hF _ _ _ xo_i0)) 681 0 _ (by omega)⟩)
  · have et : p = 1 := et
    subst et
    refine img_w1 (d := d + 1) (Or.inl h44) ?_
    rw [iw1_wv]
    refine ⟨iw1_x, 1, _, _, rfl, rfl, s1, ?_⟩
    exact c243_43 (inY (by decide) (by decide) ⟨fun z => absurd z (by decide), fun _ => mimg_lp (B := 681) (by omega) (by decide) (by decide) (fun I2 J2 => eqok (hF _ _ _ xo_i1)) 681 0 _ (by omega)⟩)
theorem op39 (hM : MI I J) (hF : FIN xs d Q) : OP xs d 1396 x0 I J Q := by
  refine L_1396 ⟨s1, rst_no ⟨s1, ?_⟩⟩
  generalize hp : (6, xs).2 ((0 : Int32) + 1).toNatClampNeg = p
  by_cases a0 : p < 0
  · exact c244_43 (inN (Or.inl a0) (eqok (eqok (hF _ _ _ xo_0))))
  by_cases a1 : 1 < p
  · exact c244_43 (inN (Or.inr a1) (eqok (eqok (hF _ _ _ xo_0))))
  obtain ⟨t, ht, et⟩ := i_nat (n := 1) (by omega) a0 a1
  refine c244_43 (inY a0 a1 ⟨fun z => absurd z (by decide), fun _ => ⟨?_, fun _ => eqok (hF _ _ _ xo_0), fun z => absurd ?_ z⟩⟩)
  · rw [et]
    exact nI_in (by omega) (by omega)
  · rw [et, nI_clamp (by omega)]
    exact hM.2.2.2.2.2.2.2.2.2.1 t (by omega)
end FRE
def Qf (o : mO) (w : mW) : Prop := o = some (some (.int 1)) ∧ w.1.length ≤ 600002 ∧ wZ w ≤ 7302232
theorem qf_wv {x : mX} {I : rI0} {J : rJ0} (h : XO x) : Qf (some (some (.int (1 : Int32)))) (wv x I J) := by
  refine ⟨rfl, ?_, ?_⟩
  · show (SHL ++ x.1).length ≤ 600002
    rw [List.length_append, SHL_len]
    have := h.1
    omega
  · show x.2.2.2 ≤ 7302232
    have := h.2
    omega
theorem fin_all {xs : Nat → Int32} {d : Nat} : FIN xs d Qf := by
  intro x I J hx
  exact L_1446 (L_23 ⟨fun _ => qf_wv hx, fun h => absurd (show ((Int32.ofNat 6) - (6 : Int32)) < (0 : Int32) + 6 from by decide) h⟩)
theorem one_call {xs : Nat → Int32} {d : Nat} : wp (6, xs) (d + 8) 0 23 [some (.ref mScr), some (.ref 0), some (.ref 43), some (.ref 67), some (.int (0 : Int32)), none, none] [] (wv x0 Ic Jc) Qf := by
  have hF : FIN xs d Qf := fin_all
  have hC := fr_CI
  have hM := fr_MI
  have hx := xo_0
  have hl : x0.1.length ≤ 10 ∧ x0.2.2.2 ≤ 15000 := ⟨by decide, by decide⟩
  exact L_23 ⟨fun h => absurd h (show ¬ ((Int32.ofNat 6) - (6 : Int32)) < (0 : Int32) from by decide), fun _ => ⟨show ¬ mOut (0 : Int32) 6 from by decide, fun _ => hF _ _ _ hx, fun _ => op0 hC hM hx hF, fun _ => op1 hC hM hx hF, fun _ => op2 hC hM hx hF, fun _ => op3 hC hM hx hF, fun _ => op4 hC hM hx hF hl, fun _ => op5 hC hM hx hF, fun _ => op6 hC hM hx hF, fun _ => op7 hC hM hx hF, fun _ => op8 hC hM hx hF, fun _ => op9 hC hM hx hF hl, fun _ => op10 hC hM hx hF, fun _ => op11 hC hM hx hF, fun _ => op12 hC hM hx hF, fun _ => op13 hC hM hx hF, fun _ => op14 hC hM hx hF, fun _ => op15 hC hM hx hF, fun _ => op16 hC hM hx hF, fun _ => op17 hC hM hx hF, fun _ => op18 hC hM hx hF, fun _ => op19 hC hM hx hF, fun _ => op20 hC hM hx hF, fun _ => op21 hC hM hx hF, fun _ => op22 hC hM hx hF, fun _ => op23 hC hM hx hF, fun _ => op24 hC hM hx hF, fun _ => op25 hC hM hx hF hl, fun _ => op26 hC hM hx hF, fun _ => op27 hC hM hx hF, fun _ => op28 hC hM hx hF, fun _ => op29 hC hM hx hF, fun _ => op30 hC hM hx hF, fun _ => op31 hC hM hx hF, fun _ => op32 hC hM hx hF, fun _ => op33 hC hM hx hF, fun _ => op34 hC hM hx hF, fun _ => op35 hC hM hx hF, fun _ => op36 hC hM hx hF, fun _ => op37 hC hM hx hF, fun _ => op38 hC hM hF, fun _ => op39 hM hF, fun _ => op40 hC hM hx hF⟩⟩
theorem mPure_all (L : Nat) (xs : Nat → Int32) (hL : L ≤ 6) : mPure L xs := by
  have key : wp (L, xs) 1300 0 0 (mIni 7 [.ref mScr]) [] mW0 Qf := by
    refine ctor_w ?_
    rw [kw_wv]
    by_cases h6 : L = 6
    · subst h6
      exact one_call (d := 1292)
    · refine L_23 (d := 1292) ⟨fun _ => qf_wv xo_0, fun h => absurd ?_ h⟩
      show ((Int32.ofNat L) - (6 : Int32)) < 0
      rcases (show L = 0 ∨ L = 1 ∨ L = 2 ∨ L = 3 ∨ L = 4 ∨ L = 5 by omega) with rfl | rfl | rfl | rfl | rfl | rfl <;> decide
  obtain ⟨n, o, w', h1, h2, h3, h4⟩ := key
  subst h2
  exact ⟨n, w', h1, h3, h4⟩
