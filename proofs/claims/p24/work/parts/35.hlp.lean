section HLP
variable {l : Launch} {dC : Nat → ClassId} {dI : Nat → Nat → Nat} {cy : Nat → ClassId} {base b : Nat} {adK adV : Nat → Nat} {S : Nat × (Nat → Int32)}
theorem hIni : Cond.initialized RL ∈ lwG := lwG_in (gTb1 (p := 0) rfl) rfl
set_option maxHeartbeats 2000000 in
set_option maxRecDepth 20000 in
theorem hHELP (hl : l.stackTraces = false) (n : Nat) (hS : SND l dC dI cy base b adK S (SxD base b adK adV (ExE base)) n) : HELP l dC dI cy base b adK S (SxD base b adK adV (ExE base)) n := by
  intro d2 mj x0 q p0 p1 w w1 w2 o v h1 h2 hd hq hx0 hx ho p e R s m args below meth c H locs cells slots Q ls d mi pc k Lo r hd2 F X hc hz hr8 hlk hdec kk
  have hSx := SxD_ok (b := b) (adK := adK) (adV := adV) (ExE_keeps (base := base))
  have hmj : mj = 246 ∨ mj = 247 ∨ mj = 248 := by omega
  have hj : mHelp mj < 253 := by rcases hmj with rfl | rfl | rfl <;> decide
  have hlw : gLw (mHelp mj) = false := by rcases hmj with rfl | rfl | rfl <;> rfl
  obtain ⟨⟨c1, c2⟩, -⟩ := hS d2 (mHelp mj) 0 _ [] w w1 _ hj (fun z => absurd (z.symm.trans hlw) (by decide)) hx
  have hw2 : w2.1.length = w1.1.length := by
    rcases ho with ⟨z, -, -, rfl⟩ | ⟨-, -, rfl⟩ <;> rfl
  refine mW_sz (fun hsz => ?_)
  have hH : H.size = base + w.1.length := by
    have := mSize X.2.1 (Nat.le_trans F.2.2.2.2.2.2.2.2.2.1 X.2.2.2.1.1) X.2.2.1
    have := X.1
    omega
  have hroom := F.2.2.2.2.2.2.2.2.1
  have hlnk : Cond.methodLink (gOwn.getD (gO mi) "") k (gSpY mj) ∈ lwG := by
    rcases (gC_ok hlk).1 with ⟨-, h⟩ | ⟨h, -⟩
    · exact h
    · exact absurd h (by decide)
  have hpre := mPre hSx F X hH [.ref (mAd base b adK x0), .int p0, .int p1, .ref (mAd base b adK q)]
  rcases hmj with rfl | rfl | rfl
  · have hM := hm_246 hl hS hd hq hx0 hx ho
    have hgood : GoodIn lwG (va_wsS (gOwn.getD (gO mi) "") k yL_seat (Cond.codeWith yL_seat cL_seat 5 (some .int) [(0, 10, 13, 13)] :: lwG)) := by
      refine gGoodA (fun z hz => ?_) ?_
      · simp only [List.mem_cons, List.not_mem_nil, or_false] at hz
        rcases hz with rfl | rfl | rfl
        · exact hlnk
        · exact hs_246
        · exact hIni
      · intro z hz
        rcases List.mem_cons.mp hz with rfl | hz
        · exact ⟨hw_246, good_of_word rfl⟩
        · exact ⟨hz, good_of_word (lwG_good hz)⟩
    refine mCall (v := some (.int v)) (w' := w2) (mc := w1.1.length - w.1.length) (ms := wZ w1 - wZ w) (rest := r.map (mCv (mAd base b adK))) (vx_runSW (Ts := lwG) (own := gOwn.getD (gO mi) "") (index := k) (As := [.ref (mAd base b adK x0), .int p0, .int p1, .ref (mAd base b adK q)]) (rest := r.map (mCv (mAd base b adK))) ⟨F.1, F.2.1, F.2.2.1, F.2.2.2.1, F.2.2.2.2.1⟩ hM (vx_cwSW 4 F.2.2.2.2.1 hgood rfl rfl rfl ⟨by decide, by decide, by decide +kernel⟩ ⟨by show d2 + 1 + 1 ≤ R.frames; omega, by show 8 + (5 + 11) + 60 * (d2 + 1) ≤ R.locals; omega⟩) hpre rfl rfl X.2.2.2.2.1.1 rfl (lv_room (by rw [← mCats (mAd base b adK)] at hr8; exact hr8)) hdec ⟨by omega, by omega⟩) X.2.2.2.1 (fun H2 locs2 n2 p2 s2 => ?_)
    exact kk H2 locs2 ls _ _ (by omega) (by omega) ⟨by have := X.1; omega, n2, p2, s2, X.2.2.2.2.1, X.2.2.2.2.2⟩
  · have hM := hm_247 hl hS hd hq hx0 hx ho
    have hgood : GoodIn lwG (va_wsS (gOwn.getD (gO mi) "") k yL_cue (Cond.codeWith yL_cue cL_cue 5 (some .int) [(0, 10, 13, 13)] :: lwG)) := by
      refine gGoodA (fun z hz => ?_) ?_
      · simp only [List.mem_cons, List.not_mem_nil, or_false] at hz
        rcases hz with rfl | rfl | rfl
        · exact hlnk
        · exact hs_247
        · exact hIni
      · intro z hz
        rcases List.mem_cons.mp hz with rfl | hz
        · exact ⟨hw_247, good_of_word rfl⟩
        · exact ⟨hz, good_of_word (lwG_good hz)⟩
    refine mCall (v := some (.int v)) (w' := w2) (mc := w1.1.length - w.1.length) (ms := wZ w1 - wZ w) (rest := r.map (mCv (mAd base b adK))) (vx_runSW (Ts := lwG) (own := gOwn.getD (gO mi) "") (index := k) (As := [.ref (mAd base b adK x0), .int p0, .int p1, .ref (mAd base b adK q)]) (rest := r.map (mCv (mAd base b adK))) ⟨F.1, F.2.1, F.2.2.1, F.2.2.2.1, F.2.2.2.2.1⟩ hM (vx_cwSW 4 F.2.2.2.2.1 hgood rfl rfl rfl ⟨by decide, by decide, by decide +kernel⟩ ⟨by show d2 + 1 + 1 ≤ R.frames; omega, by show 8 + (5 + 11) + 60 * (d2 + 1) ≤ R.locals; omega⟩) hpre rfl rfl X.2.2.2.2.1.1 rfl (lv_room (by rw [← mCats (mAd base b adK)] at hr8; exact hr8)) hdec ⟨by omega, by omega⟩) X.2.2.2.1 (fun H2 locs2 n2 p2 s2 => ?_)
    exact kk H2 locs2 ls _ _ (by omega) (by omega) ⟨by have := X.1; omega, n2, p2, s2, X.2.2.2.2.1, X.2.2.2.2.2⟩
  · have hM := hm_248 hl hS hd hq hx0 hx ho
    have hgood : GoodIn lwG (va_wsS (gOwn.getD (gO mi) "") k yL_worthOf (Cond.codeWith yL_worthOf cL_worthOf 5 (some .int) [(0, 10, 13, 13)] :: lwG)) := by
      refine gGoodA (fun z hz => ?_) ?_
      · simp only [List.mem_cons, List.not_mem_nil, or_false] at hz
        rcases hz with rfl | rfl | rfl
        · exact hlnk
        · exact hs_248
        · exact hIni
      · intro z hz
        rcases List.mem_cons.mp hz with rfl | hz
        · exact ⟨hw_248, good_of_word rfl⟩
        · exact ⟨hz, good_of_word (lwG_good hz)⟩
    refine mCall (v := some (.int v)) (w' := w2) (mc := w1.1.length - w.1.length) (ms := wZ w1 - wZ w) (rest := r.map (mCv (mAd base b adK))) (vx_runSW (Ts := lwG) (own := gOwn.getD (gO mi) "") (index := k) (As := [.ref (mAd base b adK x0), .int p0, .int p1, .ref (mAd base b adK q)]) (rest := r.map (mCv (mAd base b adK))) ⟨F.1, F.2.1, F.2.2.1, F.2.2.2.1, F.2.2.2.2.1⟩ hM (vx_cwSW 4 F.2.2.2.2.1 hgood rfl rfl rfl ⟨by decide, by decide, by decide +kernel⟩ ⟨by show d2 + 1 + 1 ≤ R.frames; omega, by show 8 + (5 + 11) + 60 * (d2 + 1) ≤ R.locals; omega⟩) hpre rfl rfl X.2.2.2.2.1.1 rfl (lv_room (by rw [← mCats (mAd base b adK)] at hr8; exact hr8)) hdec ⟨by omega, by omega⟩) X.2.2.2.1 (fun H2 locs2 n2 p2 s2 => ?_)
    exact kk H2 locs2 ls _ _ (by omega) (by omega) ⟨by have := X.1; omega, n2, p2, s2, X.2.2.2.2.1, X.2.2.2.2.2⟩
end HLP
