section GT0
variable {S : Nat × (Nat → Int32)} {d mi pc : Nat} {Lo : mL} {st r : List Value} {x : mX} {I : rI0} {J : rJ0} {Q : mO → mW → Prop}
abbrev sh (x : mX) (a : Nat) : Option (Nat × Nat) := (SHL ++ x.1)[a]?
abbrev rf (x : mX) (a k : Nat) : Option Nat := RRk x.2.1 a k
theorem wg_i {k1 a ci k : Nat} (hc : cod mi pc = some (.getfield k1, 3)) (hl : mLk gF (gO mi) k1 = some (ci, k)) (hk : gKi ci k = 0 ∨ gKi ci k = 3) (hs : sh x a = some (0, ci)) (kk : wp S d mi (pc + 3) Lo (.int (I a k) :: r) (wv x I J) Q) : wp S d mi pc Lo (.ref a :: r) (wv x I J) Q := by
  refine wp_st hc ?_ kk
  show mGet mi k1 Lo (.ref a :: r) (wv x I J) = _
  unfold mGet
  dsimp only
  rw [hl]
  dsimp only
  rw [if_pos (show (wS (wv x I J))[a]? = some (0, ci) from hs)]
  rcases hk with hk | hk <;> rw [hk] <;> rfl
theorem wg_j {k1 a ci k : Nat} (hc : cod mi pc = some (.getfield k1, 3)) (hl : mLk gF (gO mi) k1 = some (ci, k)) (hk : gKi ci k = 1) (hs : sh x a = some (0, ci)) (kk : wp S d mi (pc + 3) Lo (.long (J a k) :: r) (wv x I J) Q) : wp S d mi pc Lo (.ref a :: r) (wv x I J) Q := by
  refine wp_st hc ?_ kk
  show mGet mi k1 Lo (.ref a :: r) (wv x I J) = _
  unfold mGet
  dsimp only
  rw [hl]
  dsimp only
  rw [if_pos (show (wS (wv x I J))[a]? = some (0, ci) from hs), hk]
  rfl
theorem wg_r {k1 a ci k b : Nat} (hc : cod mi pc = some (.getfield k1, 3)) (hl : mLk gF (gO mi) k1 = some (ci, k)) (hk : gKi ci k = 2) (hs : sh x a = some (0, ci)) (hr : rf x a k = some b) (kk : wp S d mi (pc + 3) Lo (.ref b :: r) (wv x I J) Q) : wp S d mi pc Lo (.ref a :: r) (wv x I J) Q := gw_getR (w := wv x I J) hc hl hk hs hr kk
theorem wp_puti {k1 a ci k : Nat} {v : Int32} (hc : cod mi pc = some (.putfield k1, 3)) (hf : mLk gF (gO mi) k1 = some (ci, k)) (hs : sh x a = some (0, ci)) (hk : gFi ci k = false ∧ gKi ci k = 0) (kk : wp S d mi (pc + 3) Lo r (wv x (mSet I a k v) J) Q) : wp S d mi pc Lo (.int v :: .ref a :: r) (wv x I J) Q := by
  refine wp_st hc ?_ kk
  show mPut mi k1 Lo (.int v :: .ref a :: r) (wv x I J) = _
  unfold mPut
  dsimp only
  rw [hf]
  exact if_pos ⟨hs, hk.1, Or.inl hk.2⟩
theorem wp_putj {k1 a ci k : Nat} {v : Int64} (hc : cod mi pc = some (.putfield k1, 3)) (hf : mLk gF (gO mi) k1 = some (ci, k)) (hs : sh x a = some (0, ci)) (hk : gFi ci k = false ∧ gKi ci k = 1) (kk : wp S d mi (pc + 3) Lo r (wv x I (mSet J a k v)) Q) : wp S d mi pc Lo (.long v :: .ref a :: r) (wv x I J) Q := by
  refine wp_st hc ?_ kk
  show mPut mi k1 Lo (.long v :: .ref a :: r) (wv x I J) = _
  unfold mPut
  dsimp only
  rw [hf]
  exact if_pos ⟨hs, hk⟩
def xR (x : mX) (a k b : Nat) : mX := (x.1, mSet x.2.1 a k (some b), x.2.2)
theorem RRk_mS {kf : Nat → Nat → Option Nat} {a k : Nat} {v : Option Nat} (h : (Nat.beq a 27 || Nat.ble 68 a) = true) : mSet (RRk kf) a k v = RRk (mSet kf a k v) := by
  funext i
  by_cases z : i = a
  · subst z
    unfold mSet va_up RRk
    rw [h]
  · unfold mSet va_up RRk
    rw [if_neg z]
    dsimp only
    rw [if_neg z]
theorem wp_putr {k1 a ci k b : Nat} (hc : cod mi pc = some (.putfield k1, 3)) (hf : mLk gF (gO mi) k1 = some (ci, k)) (hs : sh x a = some (0, ci)) (hk : gFi ci k = true ∧ gKi ci k = 2 ∧ (gMe mi).2.2.2.2.2.2 = 2 ∧ gO mi = ci) (ha : 68 ≤ a) (kk : wp S d mi (pc + 3) Lo r (wv (xR x a k b) I J) Q) : wp S d mi pc Lo (.ref b :: .ref a :: r) (wv x I J) Q := by
  refine wp_st hc ?_ kk
  show mPut mi k1 Lo (.ref b :: .ref a :: r) (wv x I J) = _
  unfold mPut
  dsimp only
  rw [hf]
  dsimp only
  rw [if_pos ⟨hs, hk⟩]
  have e : mSet (RRk x.2.1) a k (some b) = RRk (mSet x.2.1 a k (some b)) := RRk_mS (by rw [Bool.or_eq_true]; exact Or.inr (Nat.ble_eq_true_of_le ha))
  show some (Lo, r, (SHL ++ x.1, I, J, mSet (RRk x.2.1) a k (some b), x.2.2)) = _
  rw [e]
  rfl
theorem wn_new {k1 ci n : Nat} (hc : cod mi pc = some (.new k1, 3)) (hn : mLk gNew (gO mi) k1 = some ci) (h11 : ci < 11) (hz : (gFt.getD ci []).length = n) (hl : 68 + x.1.length < 1000000) (kk : wp S d mi (pc + 3) Lo (.ref (68 + x.1.length) :: st) (wv (xA x (0, ci) n) (va_up I (68 + x.1.length) (fun _ => 0)) (va_up J (68 + x.1.length) (fun _ => 0))) Q) : wp S d mi pc Lo st (wv x I J) Q := by
  refine wp_st hc ?_ kk
  show mNwo mi k1 Lo st (wv x I J) = _
  unfold mNwo
  rw [hn]
  dsimp only
  have e : (wS (wv x I J)).length = 68 + x.1.length := by
    show (SHL ++ x.1).length = _
    rw [List.length_append, SHL_len]
  rw [e, if_neg (by show ¬ (11 ≤ ci ∨ 1000000 ≤ 68 + x.1.length); omega), hz, mNew_wv]
theorem wn_arr {t : ArrayType} {n : Int32} {q c : Nat} (hc : cod mi pc = some (.newarray t, 2)) (hn : ¬ n < 0 ∧ n.toNatClampNeg = c ∧ c ≤ 100000) (ht : mAk t = q ∧ q ≠ 9) (hl : 68 + x.1.length < 1000000) (kk : wp S d mi (pc + 2) Lo (.ref (68 + x.1.length) :: r) (wv (xA x (q, c) c) (va_up I (68 + x.1.length) (fun _ => 0)) (va_up J (68 + x.1.length) (fun _ => 0))) Q) : wp S d mi pc Lo (.int n :: r) (wv x I J) Q := by
  refine wp_st hc ?_ kk
  show mNwa t Lo (.int n :: r) (wv x I J) = _
  unfold mNwa
  dsimp only
  have e : (wS (wv x I J)).length = 68 + x.1.length := by
    show (SHL ++ x.1).length = _
    rw [List.length_append, SHL_len]
  rw [e, hn.2.1, ht.1, if_neg (by rintro (z | z | z | z); exact hn.1 z; omega; exact absurd (show 1000000 ≤ 68 + x.1.length from z) (by omega); exact ht.2 z), mNew_wv]
theorem wa_a {a n : Nat} {j : Int32} (hc : cod mi pc = some (.aaload, 1)) (hs : sh x a = some (5, n)) (hj : ¬ mOut j n) (kk : wp S d mi (pc + 1) Lo (mRf (rf x a j.toNatClampNeg) :: r) (wv x I J) Q) : wp S d mi pc Lo (.int j :: .ref a :: r) (wv x I J) Q := by
  refine wp_st hc ?_ kk
  show mAal Lo (.int j :: .ref a :: r) (wv x I J) = _
  unfold mAal
  dsimp only
  rw [show (wS (wv x I J))[a]? = some (5, n) from hs]
  exact if_neg hj
theorem ws_a {n b : Nat} {j : Int32} (hc : cod mi pc = some (.aastore, 1)) (hs : sh x 27 = some (5, n)) (hb : sh x b = some (0, 2)) (hj : ¬ mOut j n) (kk : wp S d mi (pc + 1) Lo r (wv (xR x 27 j.toNatClampNeg b) I J) Q) : wp S d mi pc Lo (.ref b :: .int j :: .ref 27 :: r) (wv x I J) Q := by
  refine wp_st hc ?_ kk
  show mAas Lo (.ref b :: .int j :: .ref 27 :: r) (wv x I J) = _
  unfold mAas
  dsimp only
  rw [show (wS (wv x I J))[27]? = some (5, n) from hs]
  refine (if_neg (show ¬ (mOut j n ∨ ¬ (wS (wv x I J))[b]? = some (0, 2)) from by rintro (z | z); exact hj z; exact z hb)).trans ?_
  have e : mSet (RRk x.2.1) 27 j.toNatClampNeg (some b) = RRk (mSet x.2.1 27 j.toNatClampNeg (some b)) := RRk_mS rfl
  show some (Lo, r, (SHL ++ x.1, I, J, mSet (RRk x.2.1) 27 j.toNatClampNeg (some b), x.2.2)) = _
  rw [e]
  rfl
theorem mSet_at {α : Type} {f : Nat → Nat → α} {n k : Nat} {v : α} : mSet f n k v n k = v := by
  unfold mSet va_up
  rw [if_pos rfl, if_pos rfl]
def EvX (x : mX) (a : Nat) : Prop := (sh x a = some (0, 2) ∧ sh x (a + 1) = some (0, 3) ∧ sh x (a + 2) = some (1, 64) ∧ sh x (a + 3) = some (4, 6) ∧ sh x (a + 4) = some (1, 8) ∧ sh x (a + 5) = some (1, 8) ∧ sh x (a + 6) = some (1, 12) ∧ sh x (a + 7) = some (1, 240) ∧ sh x (a + 8) = some (4, 384) ∧ sh x (a + 9) = some (1, 30) ∧ sh x (a + 10) = some (1, 30) ∧ sh x (a + 11) = some (1, 30)) ∧ (rf x a 0 = some (a + 1) ∧ rf x a 1 = some (a + 9) ∧ rf x a 2 = some (a + 10) ∧ rf x a 3 = some (a + 11)) ∧ rf x (a + 1) 6 = some (a + 2) ∧ rf x (a + 1) 7 = some (a + 3) ∧ rf x (a + 1) 8 = some (a + 4) ∧ rf x (a + 1) 9 = some (a + 5) ∧ rf x (a + 1) 10 = some (a + 6) ∧ rf x (a + 1) 11 = some (a + 7) ∧ rf x (a + 1) 12 = some (a + 8)
theorem EvX3 : EvX x 3 := ⟨⟨rfl, rfl, rfl, rfl, rfl, rfl, rfl, rfl, rfl, rfl, rfl, rfl⟩, ⟨rfl, rfl, rfl, rfl⟩, rfl, rfl, rfl, rfl, rfl, rfl, rfl⟩
end GT0
section GT1
variable {S : Nat × (Nat → Int32)} {d : Nat} {x : mX} {I : rI0} {J : rJ0}
theorem cpyK {α : Type} (f g : Nat → α) {k : Int32} {n s : Nat} (hk : k.toNatClampNeg = n) (hs : s < n) : va_cpy f g (0 : Int32).toNatClampNeg (0 : Int32).toNatClampNeg k.toNatClampNeg s = f s := by
  show (if 0 ≤ s ∧ s < 0 + k.toNatClampNeg then f (0 + (s - 0)) else g s) = f s
  rw [hk, if_pos ⟨by omega, by omega⟩, Nat.zero_add, Nat.sub_zero]
/-- the evening at t was copied to u -/
def CPe (t u : Nat) (I : rI0) (J : rJ0) (I' : rI0) (J' : rJ0) : Prop := (∀ q, q ≤ 4 → I' (u + 1) q = I (t + 1) q) ∧ J' (u + 1) 5 = J (t + 1) 5 ∧ (∀ s, s < 64 → I' (u + 2) s = I (t + 2) s) ∧ (∀ q, q < 6 → J' (u + 3) q = J (t + 3) q) ∧ (∀ r, r < 8 → I' (u + 4) r = I (t + 4) r) ∧ (∀ r, r < 8 → I' (u + 5) r = I (t + 5) r) ∧ (∀ l, l < 12 → I' (u + 6) l = I (t + 6) l) ∧ (∀ i, i < 240 → I' (u + 7) i = I (t + 7) i) ∧ (∀ i, i < 384 → J' (u + 8) i = J (t + 8) i) ∧ I' u 4 = I t 4 ∧ (∀ i, i < 30 → I' (u + 9) i = I (t + 9) i ∧ I' (u + 10) i = I (t + 10) i ∧ I' (u + 11) i = I (t + 11) i) ∧ J' u 5 = J t 5 ∧ J' u 6 = J t 6
theorem CPe.src {t u : Nat} {I1 I' : rI0} {J1 J' : rJ0} (z : CPe t u I J I' J') (h : ∀ b, t ≤ b → b ≤ t + 11 → I1 b = I b ∧ J1 b = J b) : CPe t u I1 J1 I' J' := by
  unfold CPe at *
  rw [(h (t + 1) (by omega) (by omega)).1, (h (t + 1) (by omega) (by omega)).2, (h (t + 2) (by omega) (by omega)).1, (h (t + 3) (by omega) (by omega)).2, (h (t + 4) (by omega) (by omega)).1, (h (t + 5) (by omega) (by omega)).1, (h (t + 6) (by omega) (by omega)).1, (h (t + 7) (by omega) (by omega)).1, (h (t + 8) (by omega) (by omega)).2, (h t (by omega) (by omega)).1, (h t (by omega) (by omega)).2, (h (t + 9) (by omega) (by omega)).1, (h (t + 10) (by omega) (by omega)).1, (h (t + 11) (by omega) (by omega)).1]
  exact z
set_option maxRecDepth 20000 in
theorem tHouse {t s : Nat} {Q : rI0 → rJ0 → Prop} (ht : EvX x t) (hs : EvX x s) (hd : t + 12 ≤ s ∨ s + 12 ≤ t) (h4 : I (s + 1) 4 = 0 ∨ I (s + 1) 4 = 1) (k : ∀ I' J', (∀ b, ¬ (t + 1 ≤ b ∧ b ≤ t + 8) → I' b = I b) → (∀ b, ¬ (t + 1 ≤ b ∧ b ≤ t + 8) → J' b = J b) → ((∀ q, q ≤ 4 → I' (t + 1) q = I (s + 1) q) ∧ J' (t + 1) 5 = J (s + 1) 5 ∧ (∀ v, v < 64 → I' (t + 2) v = I (s + 2) v) ∧ (∀ v, v < 6 → J' (t + 3) v = J (s + 3) v) ∧ (∀ v, v < 8 → I' (t + 4) v = I (s + 4) v) ∧ (∀ v, v < 8 → I' (t + 5) v = I (s + 5) v) ∧ (∀ v, v < 12 → I' (t + 6) v = I (s + 6) v) ∧ (∀ v, v < 240 → I' (t + 7) v = I (s + 7) v) ∧ ∀ v, v < 384 → J' (t + 8) v = J (s + 8) v) → Q I' J') : wcV S (d + 1) 22 [.ref (t + 1), .ref (s + 1)] x I J Q := by
  obtain ⟨⟨ts0, ts1, ts2, ts3, ts4, ts5, ts6, ts7, ts8, ts9, ts10, ts11⟩, ⟨tr0, tr1, tr2, tr3⟩, tq6, tq7, tq8, tq9, tq10, tq11, tq12⟩ := ht
  obtain ⟨⟨ss0, ss1, ss2, ss3, ss4, ss5, ss6, ss7, ss8, ss9, ss10, ss11⟩, ⟨sr0, sr1, sr2, sr3⟩, sq6, sq7, sq8, sq9, sq10, sq11, sq12⟩ := hs
  show wp S (d + 1) 22 0 [some (.ref (t + 1)), some (.ref (s + 1))] [] (wv x I J) (rV x Q)
  refine wp_seg (C := gC22) (pc1 := 2) (Lo1 := [some (.ref (t + 1)), some (.ref (s + 1))]) (st1' := [.ref (s + 1), .ref (t + 1)]) (w1 := (wv x I J)) rfl 2 rfl ?_
  refine wg_i (ci := 3) (k := 0) rfl rfl (Or.inl rfl) ss1 ?_
  refine wp_puti (ci := 3) (k := 0) rfl rfl ts1 ⟨rfl, rfl⟩ ?_
  obtain ⟨I1, e1⟩ : ∃ z, z = mSet I (t + 1) 0 (I (s + 1) 0) := ⟨_, rfl⟩
  rw [← e1]
  refine wp_seg (C := gC22) (pc1 := 10) (Lo1 := [some (.ref (t + 1)), some (.ref (s + 1))]) (st1' := [.ref (s + 1), .ref (t + 1)]) (w1 := (wv x I1 J)) rfl 2 rfl ?_
  refine wg_i (ci := 3) (k := 1) rfl rfl (Or.inl rfl) ss1 ?_
  refine wp_puti (ci := 3) (k := 1) rfl rfl ts1 ⟨rfl, rfl⟩ ?_
  obtain ⟨I2, e2⟩ : ∃ z, z = mSet I1 (t + 1) 1 (I1 (s + 1) 1) := ⟨_, rfl⟩
  rw [← e2]
  refine wp_seg (C := gC22) (pc1 := 18) (Lo1 := [some (.ref (t + 1)), some (.ref (s + 1))]) (st1' := [.ref (s + 1), .ref (t + 1)]) (w1 := (wv x I2 J)) rfl 2 rfl ?_
  refine wg_i (ci := 3) (k := 2) rfl rfl (Or.inl rfl) ss1 ?_
  refine wp_puti (ci := 3) (k := 2) rfl rfl ts1 ⟨rfl, rfl⟩ ?_
  obtain ⟨I3, e3⟩ : ∃ z, z = mSet I2 (t + 1) 2 (I2 (s + 1) 2) := ⟨_, rfl⟩
  rw [← e3]
  refine wp_seg (C := gC22) (pc1 := 26) (Lo1 := [some (.ref (t + 1)), some (.ref (s + 1))]) (st1' := [.ref (s + 1), .ref (t + 1)]) (w1 := (wv x I3 J)) rfl 2 rfl ?_
  refine wg_i (ci := 3) (k := 3) rfl rfl (Or.inl rfl) ss1 ?_
  refine wp_puti (ci := 3) (k := 3) rfl rfl ts1 ⟨rfl, rfl⟩ ?_
  obtain ⟨I4, e4⟩ : ∃ z, z = mSet I3 (t + 1) 3 (I3 (s + 1) 3) := ⟨_, rfl⟩
  rw [← e4]
  refine wp_seg (C := gC22) (pc1 := 34) (Lo1 := [some (.ref (t + 1)), some (.ref (s + 1))]) (st1' := [.ref (s + 1), .ref (t + 1)]) (w1 := (wv x I4 J)) rfl 2 rfl ?_
  refine wg_i (ci := 3) (k := 4) rfl rfl (Or.inr rfl) ss1 ?_
  have g4 : I4 (s + 1) 4 = 0 ∨ I4 (s + 1) 4 = 1 := by rw [e4, mSet_ne (show s + 1 ≠ t + 1 by omega), e3, mSet_ne (show s + 1 ≠ t + 1 by omega), e2, mSet_ne (show s + 1 ≠ t + 1 by omega), e1, mSet_ne (show s + 1 ≠ t + 1 by omega)]; exact h4
  refine wz_put (ci := 3) (k := 4) rfl rfl ts1 ⟨rfl, rfl⟩ g4 ?_
  obtain ⟨I5, e5⟩ : ∃ z, z = mSet I4 (t + 1) 4 (I4 (s + 1) 4) := ⟨_, rfl⟩
  rw [← e5]
  refine wp_seg (C := gC22) (pc1 := 42) (Lo1 := [some (.ref (t + 1)), some (.ref (s + 1))]) (st1' := [.ref (s + 1), .ref (t + 1)]) (w1 := (wv x I5 J)) rfl 2 rfl ?_
  refine wg_j (ci := 3) (k := 5) rfl rfl rfl ss1 ?_
  refine wp_putj (ci := 3) (k := 5) rfl rfl ts1 ⟨rfl, rfl⟩ ?_
  obtain ⟨J6, e6⟩ : ∃ z, z = mSet J (t + 1) 5 (J (s + 1) 5) := ⟨_, rfl⟩
  rw [← e6]
  refine wp_seg (C := gC22) (pc1 := 49) (Lo1 := [some (.ref (t + 1)), some (.ref (s + 1))]) (st1' := [.ref (s + 1)]) (w1 := (wv x I5 J6)) rfl 1 rfl ?_
  refine wg_r (ci := 3) (k := 6) rfl rfl rfl ss1 sq6 ?_
  refine wp_seg (C := gC22) (pc1 := 54) (Lo1 := [some (.ref (t + 1)), some (.ref (s + 1))]) (st1' := [.ref (t + 1), .int (0 : Int32), .ref (s + 2)]) (w1 := (wv x I5 J6)) rfl 2 rfl ?_
  refine wg_r (ci := 3) (k := 6) rfl rfl rfl ts1 tq6 ?_
  refine wp_seg (C := gC22) (pc1 := 60) (Lo1 := [some (.ref (t + 1)), some (.ref (s + 1))]) (st1' := [.int (64 : Int32), .int (0 : Int32), .ref (t + 2), .int (0 : Int32), .ref (s + 2)]) (w1 := (wv x I5 J6)) rfl 2 rfl ?_
  refine wq_cpI (n0 := 64) (n1 := 64) rfl rfl ss2 ts2 (by decide) (Nat.le_of_ble_eq_true rfl) ?_
  obtain ⟨I7, e7⟩ : ∃ z, z = va_up I5 (t + 2) (va_cpy (I5 (s + 2)) (I5 (t + 2)) (0 : Int32).toNatClampNeg (0 : Int32).toNatClampNeg (64 : Int32).toNatClampNeg) := ⟨_, rfl⟩
  rw [← e7]
  refine wp_seg (C := gC22) (pc1 := 64) (Lo1 := [some (.ref (t + 1)), some (.ref (s + 1))]) (st1' := [.ref (s + 1)]) (w1 := (wv x I7 J6)) rfl 1 rfl ?_
  refine wg_r (ci := 3) (k := 7) rfl rfl rfl ss1 sq7 ?_
  refine wp_seg (C := gC22) (pc1 := 69) (Lo1 := [some (.ref (t + 1)), some (.ref (s + 1))]) (st1' := [.ref (t + 1), .int (0 : Int32), .ref (s + 3)]) (w1 := (wv x I7 J6)) rfl 2 rfl ?_
  refine wg_r (ci := 3) (k := 7) rfl rfl rfl ts1 tq7 ?_
  refine wp_seg (C := gC22) (pc1 := 75) (Lo1 := [some (.ref (t + 1)), some (.ref (s + 1))]) (st1' := [.int (6 : Int32), .int (0 : Int32), .ref (t + 3), .int (0 : Int32), .ref (s + 3)]) (w1 := (wv x I7 J6)) rfl 2 rfl ?_
  refine wq_cpJ (n0 := 6) (n1 := 6) rfl rfl ss3 ts3 (by decide) (Nat.le_of_ble_eq_true rfl) ?_
  obtain ⟨J8, e8⟩ : ∃ z, z = va_up J6 (t + 3) (va_cpy (J6 (s + 3)) (J6 (t + 3)) (0 : Int32).toNatClampNeg (0 : Int32).toNatClampNeg (6 : Int32).toNatClampNeg) := ⟨_, rfl⟩
  rw [← e8]
  refine wp_seg (C := gC22) (pc1 := 79) (Lo1 := [some (.ref (t + 1)), some (.ref (s + 1))]) (st1' := [.ref (s + 1)]) (w1 := (wv x I7 J8)) rfl 1 rfl ?_
  refine wg_r (ci := 3) (k := 8) rfl rfl rfl ss1 sq8 ?_
  refine wp_seg (C := gC22) (pc1 := 84) (Lo1 := [some (.ref (t + 1)), some (.ref (s + 1))]) (st1' := [.ref (t + 1), .int (0 : Int32), .ref (s + 4)]) (w1 := (wv x I7 J8)) rfl 2 rfl ?_
  refine wg_r (ci := 3) (k := 8) rfl rfl rfl ts1 tq8 ?_
  refine wp_seg (C := gC22) (pc1 := 90) (Lo1 := [some (.ref (t + 1)), some (.ref (s + 1))]) (st1' := [.int (8 : Int32), .int (0 : Int32), .ref (t + 4), .int (0 : Int32), .ref (s + 4)]) (w1 := (wv x I7 J8)) rfl 2 rfl ?_
  refine wq_cpI (n0 := 8) (n1 := 8) rfl rfl ss4 ts4 (by decide) (Nat.le_of_ble_eq_true rfl) ?_
  obtain ⟨I9, e9⟩ : ∃ z, z = va_up I7 (t + 4) (va_cpy (I7 (s + 4)) (I7 (t + 4)) (0 : Int32).toNatClampNeg (0 : Int32).toNatClampNeg (8 : Int32).toNatClampNeg) := ⟨_, rfl⟩
  rw [← e9]
  refine wp_seg (C := gC22) (pc1 := 94) (Lo1 := [some (.ref (t + 1)), some (.ref (s + 1))]) (st1' := [.ref (s + 1)]) (w1 := (wv x I9 J8)) rfl 1 rfl ?_
  refine wg_r (ci := 3) (k := 9) rfl rfl rfl ss1 sq9 ?_
  refine wp_seg (C := gC22) (pc1 := 99) (Lo1 := [some (.ref (t + 1)), some (.ref (s + 1))]) (st1' := [.ref (t + 1), .int (0 : Int32), .ref (s + 5)]) (w1 := (wv x I9 J8)) rfl 2 rfl ?_
  refine wg_r (ci := 3) (k := 9) rfl rfl rfl ts1 tq9 ?_
  refine wp_seg (C := gC22) (pc1 := 105) (Lo1 := [some (.ref (t + 1)), some (.ref (s + 1))]) (st1' := [.int (8 : Int32), .int (0 : Int32), .ref (t + 5), .int (0 : Int32), .ref (s + 5)]) (w1 := (wv x I9 J8)) rfl 2 rfl ?_
  refine wq_cpI (n0 := 8) (n1 := 8) rfl rfl ss5 ts5 (by decide) (Nat.le_of_ble_eq_true rfl) ?_
  obtain ⟨I10, e10⟩ : ∃ z, z = va_up I9 (t + 5) (va_cpy (I9 (s + 5)) (I9 (t + 5)) (0 : Int32).toNatClampNeg (0 : Int32).toNatClampNeg (8 : Int32).toNatClampNeg) := ⟨_, rfl⟩
  rw [← e10]
  refine wp_seg (C := gC22) (pc1 := 109) (Lo1 := [some (.ref (t + 1)), some (.ref (s + 1))]) (st1' := [.ref (s + 1)]) (w1 := (wv x I10 J8)) rfl 1 rfl ?_
  refine wg_r (ci := 3) (k := 10) rfl rfl rfl ss1 sq10 ?_
  refine wp_seg (C := gC22) (pc1 := 114) (Lo1 := [some (.ref (t + 1)), some (.ref (s + 1))]) (st1' := [.ref (t + 1), .int (0 : Int32), .ref (s + 6)]) (w1 := (wv x I10 J8)) rfl 2 rfl ?_
  refine wg_r (ci := 3) (k := 10) rfl rfl rfl ts1 tq10 ?_
  refine wp_seg (C := gC22) (pc1 := 120) (Lo1 := [some (.ref (t + 1)), some (.ref (s + 1))]) (st1' := [.int (12 : Int32), .int (0 : Int32), .ref (t + 6), .int (0 : Int32), .ref (s + 6)]) (w1 := (wv x I10 J8)) rfl 2 rfl ?_
  refine wq_cpI (n0 := 12) (n1 := 12) rfl rfl ss6 ts6 (by decide) (Nat.le_of_ble_eq_true rfl) ?_
  obtain ⟨I11, e11⟩ : ∃ z, z = va_up I10 (t + 6) (va_cpy (I10 (s + 6)) (I10 (t + 6)) (0 : Int32).toNatClampNeg (0 : Int32).toNatClampNeg (12 : Int32).toNatClampNeg) := ⟨_, rfl⟩
  rw [← e11]
  refine wp_seg (C := gC22) (pc1 := 124) (Lo1 := [some (.ref (t + 1)), some (.ref (s + 1))]) (st1' := [.ref (s + 1)]) (w1 := (wv x I11 J8)) rfl 1 rfl ?_
  refine wg_r (ci := 3) (k := 11) rfl rfl rfl ss1 sq11 ?_
  refine wp_seg (C := gC22) (pc1 := 129) (Lo1 := [some (.ref (t + 1)), some (.ref (s + 1))]) (st1' := [.ref (t + 1), .int (0 : Int32), .ref (s + 7)]) (w1 := (wv x I11 J8)) rfl 2 rfl ?_
  refine wg_r (ci := 3) (k := 11) rfl rfl rfl ts1 tq11 ?_
  refine wp_seg (C := gC22) (pc1 := 136) (Lo1 := [some (.ref (t + 1)), some (.ref (s + 1))]) (st1' := [.int (240 : Int32), .int (0 : Int32), .ref (t + 7), .int (0 : Int32), .ref (s + 7)]) (w1 := (wv x I11 J8)) rfl 2 rfl ?_
  refine wq_cpI (n0 := 240) (n1 := 240) rfl rfl ss7 ts7 (by decide) (Nat.le_of_ble_eq_true rfl) ?_
  obtain ⟨I12, e12⟩ : ∃ z, z = va_up I11 (t + 7) (va_cpy (I11 (s + 7)) (I11 (t + 7)) (0 : Int32).toNatClampNeg (0 : Int32).toNatClampNeg (240 : Int32).toNatClampNeg) := ⟨_, rfl⟩
  rw [← e12]
  refine wp_seg (C := gC22) (pc1 := 140) (Lo1 := [some (.ref (t + 1)), some (.ref (s + 1))]) (st1' := [.ref (s + 1)]) (w1 := (wv x I12 J8)) rfl 1 rfl ?_
  refine wg_r (ci := 3) (k := 12) rfl rfl rfl ss1 sq12 ?_
  refine wp_seg (C := gC22) (pc1 := 145) (Lo1 := [some (.ref (t + 1)), some (.ref (s + 1))]) (st1' := [.ref (t + 1), .int (0 : Int32), .ref (s + 8)]) (w1 := (wv x I12 J8)) rfl 2 rfl ?_
  refine wg_r (ci := 3) (k := 12) rfl rfl rfl ts1 tq12 ?_
  refine wp_seg (C := gC22) (pc1 := 152) (Lo1 := [some (.ref (t + 1)), some (.ref (s + 1))]) (st1' := [.int (384 : Int32), .int (0 : Int32), .ref (t + 8), .int (0 : Int32), .ref (s + 8)]) (w1 := (wv x I12 J8)) rfl 2 rfl ?_
  refine wq_cpJ (n0 := 384) (n1 := 384) rfl rfl ss8 ts8 (by decide) (Nat.le_of_ble_eq_true rfl) ?_
  obtain ⟨J13, e13⟩ : ∃ z, z = va_up J8 (t + 8) (va_cpy (J8 (s + 8)) (J8 (t + 8)) (0 : Int32).toNatClampNeg (0 : Int32).toNatClampNeg (384 : Int32).toNatClampNeg) := ⟨_, rfl⟩
  rw [← e13]
  refine we_v rfl rfl (k I12 J13 (fun b hb => ?_) (fun b hb => ?_) ⟨fun q hq => ?_, ?_, fun v hv => ?_, fun v hv => ?_, fun v hv => ?_, fun v hv => ?_, fun v hv => ?_, fun v hv => ?_, fun v hv => ?_⟩)
  · rw [e12, vu_ne (by omega), e11, vu_ne (by omega), e10, vu_ne (by omega), e9, vu_ne (by omega), e7, vu_ne (by omega), e5, mSet_ne (by omega), e4, mSet_ne (by omega), e3, mSet_ne (by omega), e2, mSet_ne (by omega), e1, mSet_ne (by omega)]
  · rw [e13, vu_ne (by omega), e8, vu_ne (by omega), e6, mSet_ne (by omega)]
  · rcases (show q = 0 ∨ q = 1 ∨ q = 2 ∨ q = 3 ∨ q = 4 by omega) with z | z | z | z | z <;> subst z
    · rw [e12, vu_ne (by omega), e11, vu_ne (by omega), e10, vu_ne (by omega), e9, vu_ne (by omega), e7, vu_ne (by omega), e5, mSet_x (by omega), e4, mSet_x (by omega), e3, mSet_x (by omega), e2, mSet_x (by omega), e1, mSet_at]
    · rw [e12, vu_ne (by omega), e11, vu_ne (by omega), e10, vu_ne (by omega), e9, vu_ne (by omega), e7, vu_ne (by omega), e5, mSet_x (by omega), e4, mSet_x (by omega), e3, mSet_x (by omega), e2, mSet_at, e1, mSet_ne (show s + 1 ≠ t + 1 by omega)]
    · rw [e12, vu_ne (by omega), e11, vu_ne (by omega), e10, vu_ne (by omega), e9, vu_ne (by omega), e7, vu_ne (by omega), e5, mSet_x (by omega), e4, mSet_x (by omega), e3, mSet_at, e2, mSet_ne (show s + 1 ≠ t + 1 by omega), e1, mSet_ne (show s + 1 ≠ t + 1 by omega)]
    · rw [e12, vu_ne (by omega), e11, vu_ne (by omega), e10, vu_ne (by omega), e9, vu_ne (by omega), e7, vu_ne (by omega), e5, mSet_x (by omega), e4, mSet_at, e3, mSet_ne (show s + 1 ≠ t + 1 by omega), e2, mSet_ne (show s + 1 ≠ t + 1 by omega), e1, mSet_ne (show s + 1 ≠ t + 1 by omega)]
    · rw [e12, vu_ne (by omega), e11, vu_ne (by omega), e10, vu_ne (by omega), e9, vu_ne (by omega), e7, vu_ne (by omega), e5, mSet_at, e4, mSet_ne (show s + 1 ≠ t + 1 by omega), e3, mSet_ne (show s + 1 ≠ t + 1 by omega), e2, mSet_ne (show s + 1 ≠ t + 1 by omega), e1, mSet_ne (show s + 1 ≠ t + 1 by omega)]
  · rw [e13, vu_ne (by omega), e8, vu_ne (by omega), e6, mSet_at]
  · rw [e12, vu_ne (by omega), e11, vu_ne (by omega), e10, vu_ne (by omega), e9, vu_ne (by omega), e7]
    unfold va_up
    rw [if_pos rfl, cpyK (n := 64) _ _ rfl hv, e5, mSet_ne (show s + 2 ≠ t + 1 by omega), e4, mSet_ne (show s + 2 ≠ t + 1 by omega), e3, mSet_ne (show s + 2 ≠ t + 1 by omega), e2, mSet_ne (show s + 2 ≠ t + 1 by omega), e1, mSet_ne (show s + 2 ≠ t + 1 by omega)]
  · rw [e13, vu_ne (by omega), e8]
    unfold va_up
    rw [if_pos rfl, cpyK (n := 6) _ _ rfl hv, e6, mSet_ne (show s + 3 ≠ t + 1 by omega)]
  · rw [e12, vu_ne (by omega), e11, vu_ne (by omega), e10, vu_ne (by omega), e9]
    unfold va_up
    rw [if_pos rfl, cpyK (n := 8) _ _ rfl hv, e7, vu_ne (show s + 4 ≠ t + 2 by omega), e5, mSet_ne (show s + 4 ≠ t + 1 by omega), e4, mSet_ne (show s + 4 ≠ t + 1 by omega), e3, mSet_ne (show s + 4 ≠ t + 1 by omega), e2, mSet_ne (show s + 4 ≠ t + 1 by omega), e1, mSet_ne (show s + 4 ≠ t + 1 by omega)]
  · rw [e12, vu_ne (by omega), e11, vu_ne (by omega), e10]
    unfold va_up
    rw [if_pos rfl, cpyK (n := 8) _ _ rfl hv, e9, vu_ne (show s + 5 ≠ t + 4 by omega), e7, vu_ne (show s + 5 ≠ t + 2 by omega), e5, mSet_ne (show s + 5 ≠ t + 1 by omega), e4, mSet_ne (show s + 5 ≠ t + 1 by omega), e3, mSet_ne (show s + 5 ≠ t + 1 by omega), e2, mSet_ne (show s + 5 ≠ t + 1 by omega), e1, mSet_ne (show s + 5 ≠ t + 1 by omega)]
  · rw [e12, vu_ne (by omega), e11]
    unfold va_up
    rw [if_pos rfl, cpyK (n := 12) _ _ rfl hv, e10, vu_ne (show s + 6 ≠ t + 5 by omega), e9, vu_ne (show s + 6 ≠ t + 4 by omega), e7, vu_ne (show s + 6 ≠ t + 2 by omega), e5, mSet_ne (show s + 6 ≠ t + 1 by omega), e4, mSet_ne (show s + 6 ≠ t + 1 by omega), e3, mSet_ne (show s + 6 ≠ t + 1 by omega), e2, mSet_ne (show s + 6 ≠ t + 1 by omega), e1, mSet_ne (show s + 6 ≠ t + 1 by omega)]
  · rw [e12]
    unfold va_up
    rw [if_pos rfl, cpyK (n := 240) _ _ rfl hv, e11, vu_ne (show s + 7 ≠ t + 6 by omega), e10, vu_ne (show s + 7 ≠ t + 5 by omega), e9, vu_ne (show s + 7 ≠ t + 4 by omega), e7, vu_ne (show s + 7 ≠ t + 2 by omega), e5, mSet_ne (show s + 7 ≠ t + 1 by omega), e4, mSet_ne (show s + 7 ≠ t + 1 by omega), e3, mSet_ne (show s + 7 ≠ t + 1 by omega), e2, mSet_ne (show s + 7 ≠ t + 1 by omega), e1, mSet_ne (show s + 7 ≠ t + 1 by omega)]
  · rw [e13]
    unfold va_up
    rw [if_pos rfl, cpyK (n := 384) _ _ rfl hv, e8, vu_ne (show s + 8 ≠ t + 3 by omega), e6, mSet_ne (show s + 8 ≠ t + 1 by omega)]
set_option maxRecDepth 20000 in
theorem tCues {t s : Nat} {Q : rI0 → rJ0 → Prop} (ht : EvX x t) (hs : EvX x s) (hd : t + 12 ≤ s ∨ s + 12 ≤ t) (k : ∀ I', (∀ b, ¬ (b = t ∨ (t + 9 ≤ b ∧ b ≤ t + 11)) → I' b = I b) → I' t 4 = I s 4 → (∀ i, i < 30 → I' (t + 9) i = I (s + 9) i ∧ I' (t + 10) i = I (s + 10) i ∧ I' (t + 11) i = I (s + 11) i) → Q I' J) : wcV S (d + 1) 16 [.ref t, .ref s] x I J Q := by
  obtain ⟨⟨ts0, ts1, ts2, ts3, ts4, ts5, ts6, ts7, ts8, ts9, ts10, ts11⟩, ⟨tr0, tr1, tr2, tr3⟩, tq6, tq7, tq8, tq9, tq10, tq11, tq12⟩ := ht
  obtain ⟨⟨ss0, ss1, ss2, ss3, ss4, ss5, ss6, ss7, ss8, ss9, ss10, ss11⟩, ⟨sr0, sr1, sr2, sr3⟩, sq6, sq7, sq8, sq9, sq10, sq11, sq12⟩ := hs
  show wp S (d + 1) 16 0 [some (.ref t), some (.ref s)] [] (wv x I J) (rV x Q)
  refine wp_seg (C := gC16) (pc1 := 2) (Lo1 := [some (.ref t), some (.ref s)]) (st1' := [.ref s, .ref t]) (w1 := (wv x I J)) rfl 2 rfl ?_
  refine wg_i (ci := 2) (k := 4) rfl rfl (Or.inl rfl) ss0 ?_
  refine wp_puti (ci := 2) (k := 4) rfl rfl ts0 ⟨rfl, rfl⟩ ?_
  obtain ⟨I1, e1⟩ : ∃ z, z = mSet I t 4 (I s 4) := ⟨_, rfl⟩
  rw [← e1]
  refine wp_seg (C := gC16) (pc1 := 9) (Lo1 := [some (.ref t), some (.ref s)]) (st1' := [.ref s]) (w1 := (wv x I1 J)) rfl 1 rfl ?_
  refine wg_r (ci := 2) (k := 1) rfl rfl rfl ss0 sr1 ?_
  refine wp_seg (C := gC16) (pc1 := 14) (Lo1 := [some (.ref t), some (.ref s)]) (st1' := [.ref t, .int (0 : Int32), .ref (s + 9)]) (w1 := (wv x I1 J)) rfl 2 rfl ?_
  refine wg_r (ci := 2) (k := 1) rfl rfl rfl ts0 tr1 ?_
  refine wp_seg (C := gC16) (pc1 := 20) (Lo1 := [some (.ref t), some (.ref s)]) (st1' := [.int (30 : Int32), .int (0 : Int32), .ref (t + 9), .int (0 : Int32), .ref (s + 9)]) (w1 := (wv x I1 J)) rfl 2 rfl ?_
  refine wq_cpI (n0 := 30) (n1 := 30) rfl rfl ss9 ts9 (by decide) (Nat.le_of_ble_eq_true rfl) ?_
  obtain ⟨I2, e2⟩ : ∃ z, z = va_up I1 (t + 9) (va_cpy (I1 (s + 9)) (I1 (t + 9)) (0 : Int32).toNatClampNeg (0 : Int32).toNatClampNeg (30 : Int32).toNatClampNeg) := ⟨_, rfl⟩
  rw [← e2]
  refine wp_seg (C := gC16) (pc1 := 24) (Lo1 := [some (.ref t), some (.ref s)]) (st1' := [.ref s]) (w1 := (wv x I2 J)) rfl 1 rfl ?_
  refine wg_r (ci := 2) (k := 2) rfl rfl rfl ss0 sr2 ?_
  refine wp_seg (C := gC16) (pc1 := 29) (Lo1 := [some (.ref t), some (.ref s)]) (st1' := [.ref t, .int (0 : Int32), .ref (s + 10)]) (w1 := (wv x I2 J)) rfl 2 rfl ?_
  refine wg_r (ci := 2) (k := 2) rfl rfl rfl ts0 tr2 ?_
  refine wp_seg (C := gC16) (pc1 := 35) (Lo1 := [some (.ref t), some (.ref s)]) (st1' := [.int (30 : Int32), .int (0 : Int32), .ref (t + 10), .int (0 : Int32), .ref (s + 10)]) (w1 := (wv x I2 J)) rfl 2 rfl ?_
  refine wq_cpI (n0 := 30) (n1 := 30) rfl rfl ss10 ts10 (by decide) (Nat.le_of_ble_eq_true rfl) ?_
  obtain ⟨I3, e3⟩ : ∃ z, z = va_up I2 (t + 10) (va_cpy (I2 (s + 10)) (I2 (t + 10)) (0 : Int32).toNatClampNeg (0 : Int32).toNatClampNeg (30 : Int32).toNatClampNeg) := ⟨_, rfl⟩
  rw [← e3]
  refine wp_seg (C := gC16) (pc1 := 39) (Lo1 := [some (.ref t), some (.ref s)]) (st1' := [.ref s]) (w1 := (wv x I3 J)) rfl 1 rfl ?_
  refine wg_r (ci := 2) (k := 3) rfl rfl rfl ss0 sr3 ?_
  refine wp_seg (C := gC16) (pc1 := 44) (Lo1 := [some (.ref t), some (.ref s)]) (st1' := [.ref t, .int (0 : Int32), .ref (s + 11)]) (w1 := (wv x I3 J)) rfl 2 rfl ?_
  refine wg_r (ci := 2) (k := 3) rfl rfl rfl ts0 tr3 ?_
  refine wp_seg (C := gC16) (pc1 := 50) (Lo1 := [some (.ref t), some (.ref s)]) (st1' := [.int (30 : Int32), .int (0 : Int32), .ref (t + 11), .int (0 : Int32), .ref (s + 11)]) (w1 := (wv x I3 J)) rfl 2 rfl ?_
  refine wq_cpI (n0 := 30) (n1 := 30) rfl rfl ss11 ts11 (by decide) (Nat.le_of_ble_eq_true rfl) ?_
  obtain ⟨I4, e4⟩ : ∃ z, z = va_up I3 (t + 11) (va_cpy (I3 (s + 11)) (I3 (t + 11)) (0 : Int32).toNatClampNeg (0 : Int32).toNatClampNeg (30 : Int32).toNatClampNeg) := ⟨_, rfl⟩
  rw [← e4]
  refine we_v rfl rfl (k I4 (fun b hb => ?_) ?_ (fun i hi => ⟨?_, ?_, ?_⟩))
  · rw [e4, vu_ne (by omega), e3, vu_ne (by omega), e2, vu_ne (by omega), e1, mSet_ne (by omega)]
  · rw [e4, vu_ne (by omega), e3, vu_ne (by omega), e2, vu_ne (by omega), e1, mSet_at]
  · rw [e4, vu_ne (by omega), e3, vu_ne (by omega), e2]
    unfold va_up
    rw [if_pos rfl, cpyK (n := 30) _ _ rfl hi, e1, mSet_ne (show s + 9 ≠ t by omega)]
  · rw [e4, vu_ne (by omega), e3]
    unfold va_up
    rw [if_pos rfl, cpyK (n := 30) _ _ rfl hi, e2, vu_ne (show s + 10 ≠ t + 9 by omega), e1, mSet_ne (show s + 10 ≠ t by omega)]
  · rw [e4]
    unfold va_up
    rw [if_pos rfl, cpyK (n := 30) _ _ rfl hi, e3, vu_ne (show s + 11 ≠ t + 10 by omega), e2, vu_ne (show s + 11 ≠ t + 9 by omega), e1, mSet_ne (show s + 11 ≠ t by omega)]
set_option maxRecDepth 20000 in
theorem tAll {t s : Nat} {Q : rI0 → rJ0 → Prop} (ht : EvX x t) (hs : EvX x s) (hd : t + 12 ≤ s ∨ s + 12 ≤ t) (h4 : I (s + 1) 4 = 0 ∨ I (s + 1) 4 = 1) (k : ∀ I' J', (∀ b, ¬ (t ≤ b ∧ b ≤ t + 11) → I' b = I b) → (∀ b, ¬ (t ≤ b ∧ b ≤ t + 11) → J' b = J b) → CPe s t I J I' J' → Q I' J') : wcV S (d + 2) 15 [.ref t, .ref s] x I J Q := by
  have ht0 := ht
  have hs0 := hs
  obtain ⟨⟨ts0, ts1, ts2, ts3, ts4, ts5, ts6, ts7, ts8, ts9, ts10, ts11⟩, ⟨tr0, tr1, tr2, tr3⟩, tq6, tq7, tq8, tq9, tq10, tq11, tq12⟩ := ht
  obtain ⟨⟨ss0, ss1, ss2, ss3, ss4, ss5, ss6, ss7, ss8, ss9, ss10, ss11⟩, ⟨sr0, sr1, sr2, sr3⟩, sq6, sq7, sq8, sq9, sq10, sq11, sq12⟩ := hs
  show wp S (d + 2) 15 0 [some (.ref t), some (.ref s)] [] (wv x I J) (rV x Q)
  refine wp_seg (C := gC15) (pc1 := 1) (Lo1 := [some (.ref t), some (.ref s)]) (st1' := [.ref t]) (w1 := (wv x I J)) rfl 1 rfl ?_
  refine wg_r (ci := 2) (k := 0) rfl rfl rfl ts0 tr0 ?_
  refine wp_seg (C := gC15) (pc1 := 5) (Lo1 := [some (.ref t), some (.ref s)]) (st1' := [.ref s, .ref (t + 1)]) (w1 := (wv x I J)) rfl 1 rfl ?_
  refine wg_r (ci := 2) (k := 0) rfl rfl rfl ss0 sr0 ?_
  refine cv_V (mj := 22) (a := t + 1) (as := [.ref (s + 1)]) (r := []) rfl rfl rfl ⟨rfl, by decide, Nat.le_of_ble_eq_true rfl, Nat.le_of_ble_eq_true rfl⟩ ts1 (tHouse ht0 hs0 hd h4 (fun I1 J1 f1 g1 v1 => ?_))
  refine wp_seg (C := gC15) (pc1 := 13) (Lo1 := [some (.ref t), some (.ref s)]) (st1' := [.ref s, .ref t]) (w1 := (wv x I1 J1)) rfl 2 rfl ?_
  refine cv_V (mj := 16) (a := t) (as := [.ref s]) (r := []) rfl rfl rfl ⟨rfl, by decide, Nat.le_of_ble_eq_true rfl, Nat.le_of_ble_eq_true rfl⟩ ts0 (tCues ht0 hs0 hd (fun I2 f2 v2 w2 => ?_))
  refine wp_seg (C := gC15) (pc1 := 18) (Lo1 := [some (.ref t), some (.ref s)]) (st1' := [.ref s, .ref t]) (w1 := (wv x I2 J1)) rfl 2 rfl ?_
  refine wg_j (ci := 2) (k := 5) rfl rfl rfl ss0 ?_
  refine wp_putj (ci := 2) (k := 5) rfl rfl ts0 ⟨rfl, rfl⟩ ?_
  obtain ⟨J2, e2⟩ : ∃ z, z = mSet J1 t 5 (J1 s 5) := ⟨_, rfl⟩
  rw [← e2]
  refine wp_seg (C := gC15) (pc1 := 26) (Lo1 := [some (.ref t), some (.ref s)]) (st1' := [.ref s, .ref t]) (w1 := (wv x I2 J2)) rfl 2 rfl ?_
  refine wg_j (ci := 2) (k := 6) rfl rfl rfl ss0 ?_
  refine wp_putj (ci := 2) (k := 6) rfl rfl ts0 ⟨rfl, rfl⟩ ?_
  obtain ⟨J3, e3⟩ : ∃ z, z = mSet J2 t 6 (J2 s 6) := ⟨_, rfl⟩
  rw [← e3]
  obtain ⟨a0, a5, a2, a3, a4, a6, a7, a8, a9⟩ := v1
  refine we_v rfl rfl (k I2 J3 (fun b hb => ?_) (fun b hb => ?_) ⟨fun q hq => ?_, ?_, fun v hv => ?_, fun v hv => ?_, fun v hv => ?_, fun v hv => ?_, fun v hv => ?_, fun v hv => ?_, fun v hv => ?_, ?_, fun i hi => ?_, ?_, ?_⟩)
  · rw [f2 b (by omega), f1 b (by omega)]
  · rw [e3, mSet_ne (by omega), e2, mSet_ne (by omega), g1 b (by omega)]
  · rw [f2 (t + 1) (by omega), a0 q hq]
  · rw [e3, mSet_ne (by omega), e2, mSet_ne (by omega), a5]
  · rw [f2 (t + 2) (by omega), a2 v hv]
  · rw [e3, mSet_ne (by omega), e2, mSet_ne (by omega), a3 v hv]
  · rw [f2 (t + 4) (by omega), a4 v hv]
  · rw [f2 (t + 5) (by omega), a6 v hv]
  · rw [f2 (t + 6) (by omega), a7 v hv]
  · rw [f2 (t + 7) (by omega), a8 v hv]
  · rw [e3, mSet_ne (by omega), e2, mSet_ne (by omega), a9 v hv]
  · rw [v2, f1 s (by omega)]
  · have w := w2 i hi
    rw [f1 (s + 9) (by omega), f1 (s + 10) (by omega), f1 (s + 11) (by omega)] at w
    exact w
  · rw [e3, mSet_x (by omega), e2, mSet_at, g1 s (by omega)]
  · rw [e3, mSet_at, e2, mSet_ne (by omega), g1 s (by omega)]
end GT1
