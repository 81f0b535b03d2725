/-! image and restore on a new object -/
section IMG
variable {S : Nat × (Nat → Int32)} {d mi pc : Nat} {Lo : mL} {r : List Value} {w : mW} {Q : mO → mW → Prop}
theorem gw_putz {k1 a ci k : Nat} {v : Int32} (hc : cod mi pc = some (.putfield k1, 3)) (hf : mLk gF (gO mi) k1 = some (ci, k)) (hs : (wS w)[a]? = some (0, ci)) (hk : gFi ci k = false ∧ gKi ci k = 3) (hv : v = 0 ∨ v = 1) (kk : wp S d mi (pc + 3) Lo r (wsI w (mSet (wI w) a k v)) Q) : wp S d mi pc Lo (.int v :: .ref a :: r) w Q := by
  refine wp_st hc ?_ kk
  show mPut mi k1 Lo (.int v :: .ref a :: r) w = _
  unfold mPut
  dsimp only
  rw [hf]
  exact if_pos ⟨hs, hk.1, Or.inr ⟨hk.2, hv⟩⟩
theorem gw_cpI {k1 nn a0 a n0 n1 : Nat} {sp dp n : Int32} (hc : cod mi pc = some (.invokestatic k1, 3)) (hg : mLk gCall (gO mi) k1 = some (1001, nn)) (h0 : (wS w)[a0]? = some (1, n0)) (h1 : (wS w)[a]? = some (1, n1)) (hb : ¬ sp < 0 ∧ ¬ dp < 0 ∧ ¬ n < 0 ∧ sp.toNatClampNeg + n.toNatClampNeg ≤ n0 ∧ dp.toNatClampNeg + n.toNatClampNeg ≤ n1) (hr : mCat r ≤ 8) (k : wp S (d + 1) mi (pc + 3) Lo r (wsI w (va_up (wI w) a (va_cpy (wI w a0) (wI w a) sp.toNatClampNeg dp.toNatClampNeg n.toNatClampNeg))) Q) : wp S (d + 1) mi pc Lo (.int n :: .int dp :: .ref a :: .int sp :: .ref a0 :: r) w Q := by
  refine wp_st hc ?_ k
  show mIst (d + 1) mi k1 Lo (.int n :: .int dp :: .ref a :: .int sp :: .ref a0 :: r) w = _
  unfold mIst
  rw [hg]
  show mAcp (d + 1) Lo (.int n :: .int dp :: .ref a :: .int sp :: .ref a0 :: r) w = _
  unfold mAcp
  dsimp only
  rw [if_pos ⟨Nat.succ_pos d, hr, hb.1, hb.2.1, hb.2.2.1⟩]
  unfold mCpy
  rw [h0, h1]
  exact if_neg (by omega)
theorem gw_cpJ {k1 nn a0 a n0 n1 : Nat} {sp dp n : Int32} (hc : cod mi pc = some (.invokestatic k1, 3)) (hg : mLk gCall (gO mi) k1 = some (1001, nn)) (h0 : (wS w)[a0]? = some (4, n0)) (h1 : (wS w)[a]? = some (4, n1)) (hb : ¬ sp < 0 ∧ ¬ dp < 0 ∧ ¬ n < 0 ∧ sp.toNatClampNeg + n.toNatClampNeg ≤ n0 ∧ dp.toNatClampNeg + n.toNatClampNeg ≤ n1) (hr : mCat r ≤ 8) (k : wp S (d + 1) mi (pc + 3) Lo r (wsJ w (va_up (wJ w) a (va_cpy (wJ w a0) (wJ w a) sp.toNatClampNeg dp.toNatClampNeg n.toNatClampNeg))) Q) : wp S (d + 1) mi pc Lo (.int n :: .int dp :: .ref a :: .int sp :: .ref a0 :: r) w Q := by
  refine wp_st hc ?_ k
  show mIst (d + 1) mi k1 Lo (.int n :: .int dp :: .ref a :: .int sp :: .ref a0 :: r) w = _
  unfold mIst
  rw [hg]
  show mAcp (d + 1) Lo (.int n :: .int dp :: .ref a :: .int sp :: .ref a0 :: r) w = _
  unfold mAcp
  dsimp only
  rw [if_pos ⟨Nat.succ_pos d, hr, hb.1, hb.2.1, hb.2.2.1⟩]
  unfold mCpy
  rw [h0, h1]
  exact if_neg (by omega)
end IMG
theorem RRk_set {kf : Nat → Nat → Option Nat} {a k : Nat} {v : Option Nat} (h : a = 27 ∨ 68 ≤ a) : mSet (RRk kf) a k v = RRk (mSet kf a k v) := by
  have hb : (Nat.beq a 27 || Nat.ble 68 a) = true := by
    rw [Bool.or_eq_true]
    rcases h with rfl | h
    · exact Or.inl rfl
    · exact Or.inr (Nat.ble_eq_true_of_le h)
  funext b
  unfold mSet va_up RRk
  by_cases hz : b = a
  · subst hz
    rw [if_pos rfl, hb]
    dsimp only
    rw [if_pos rfl]
  · rw [if_neg hz]
    dsimp only
    rw [if_neg hz]
def KD (w : mW) (kf : Nat → Nat → Option Nat) : Prop := w.2.2.2.1 = RRk kf
theorem KD_new {w : mW} {kf : Nat → Nat → Option Nat} {q : Nat × Nat} {n m : Nat} (h : KD w kf) (hm : w.1.length = m) (h68 : 68 ≤ m) : KD (mNew w q n) (va_up kf m (fun _ => none)) := by
  subst hm
  show va_up w.2.2.2.1 w.1.length (fun _ => none) = _
  have h : w.2.2.2.1 = RRk kf := h
  rw [h, RRk_up h68]
theorem KD_R {w : mW} {kf : Nat → Nat → Option Nat} {a k v : Nat} (h : KD w kf) (ha : a = 27 ∨ 68 ≤ a) : KD (wsR w (mSet (wR w) a k (some v))) (mSet kf a k (some v)) := by
  show mSet w.2.2.2.1 a k (some v) = _
  have h : w.2.2.2.1 = RRk kf := h
  rw [h, RRk_set ha]
theorem KD_I {w : mW} {kf : Nat → Nat → Option Nat} {f : Nat → Nat → Int32} (h : KD w kf) : KD (wsI w f) kf := h
theorem KD_J {w : mW} {kf : Nat → Nat → Option Nat} {f : Nat → Nat → Int64} (h : KD w kf) : KD (wsJ w f) kf := h
def kq0 : Nat → Nat → Option Nat := fun _ _ => none
def iw0_0 (I : rI0) (J : rJ0) : mW := wv x0 I J
def iw0_1 (I : rI0) (J : rJ0) : mW := mNew (iw0_0 I J) (0, 2) 7
def iw0_2 (I : rI0) (J : rJ0) : mW := mNew (iw0_1 I J) (0, 3) 13
def iw0_3 (I : rI0) (J : rJ0) : mW := mNew (iw0_2 I J) (1, 64) 64
def iw0_4 (I : rI0) (J : rJ0) : mW := wsR (iw0_3 I J) (mSet (wR (iw0_3 I J)) 69 6 (some 70))
def iw0_5 (I : rI0) (J : rJ0) : mW := mNew (iw0_4 I J) (4, 6) 6
def iw0_6 (I : rI0) (J : rJ0) : mW := wsR (iw0_5 I J) (mSet (wR (iw0_5 I J)) 69 7 (some 71))
def iw0_7 (I : rI0) (J : rJ0) : mW := mNew (iw0_6 I J) (1, 8) 8
def iw0_8 (I : rI0) (J : rJ0) : mW := wsR (iw0_7 I J) (mSet (wR (iw0_7 I J)) 69 8 (some 72))
def iw0_9 (I : rI0) (J : rJ0) : mW := mNew (iw0_8 I J) (1, 8) 8
def iw0_10 (I : rI0) (J : rJ0) : mW := wsR (iw0_9 I J) (mSet (wR (iw0_9 I J)) 69 9 (some 73))
def iw0_11 (I : rI0) (J : rJ0) : mW := mNew (iw0_10 I J) (1, 12) 12
def iw0_12 (I : rI0) (J : rJ0) : mW := wsR (iw0_11 I J) (mSet (wR (iw0_11 I J)) 69 10 (some 74))
def iw0_13 (I : rI0) (J : rJ0) : mW := mNew (iw0_12 I J) (1, 240) 240
def iw0_14 (I : rI0) (J : rJ0) : mW := wsR (iw0_13 I J) (mSet (wR (iw0_13 I J)) 69 11 (some 75))
def iw0_15 (I : rI0) (J : rJ0) : mW := mNew (iw0_14 I J) (4, 384) 384
def iw0_16 (I : rI0) (J : rJ0) : mW := wsR (iw0_15 I J) (mSet (wR (iw0_15 I J)) 69 12 (some 76))
def iw0_17 (I : rI0) (J : rJ0) : mW := wsI (iw0_16 I J) (mSet (wI (iw0_16 I J)) 69 0 (0 : Int32))
def iw0_18 (I : rI0) (J : rJ0) : mW := wsI (iw0_17 I J) (mSet (wI (iw0_17 I J)) 69 1 (0 : Int32))
def iw0_19 (I : rI0) (J : rJ0) : mW := wsI (iw0_18 I J) (mSet (wI (iw0_18 I J)) 69 2 (1 : Int32))
def iw0_20 (I : rI0) (J : rJ0) : mW := wsI (iw0_19 I J) (mSet (wI (iw0_19 I J)) 69 3 (600 : Int32))
def iw0_21 (I : rI0) (J : rJ0) : mW := wsI (iw0_20 I J) (mSet (wI (iw0_20 I J)) 69 4 (0 : Int32))
def iw0_22 (I : rI0) (J : rJ0) : mW := wsJ (iw0_21 I J) (mSet (wJ (iw0_21 I J)) 69 5 (0 : Int64))
def iw0_23 (I : rI0) (J : rJ0) : mW := wsJ (iw0_22 I J) (va_up (wJ (iw0_22 I J)) 71 (fun j => if j < 6 then (0 : Int64) else wJ (iw0_22 I J) 71 j))
def iw0_24 (I : rI0) (J : rJ0) : mW := wsI (iw0_23 I J) (va_up (wI (iw0_23 I J)) 72 (fun j => if j < 8 then (10 : Int32) else wI (iw0_23 I J) 72 j))
def iw0_25 (I : rI0) (J : rJ0) : mW := wsI (iw0_24 I J) (va_up (wI (iw0_24 I J)) 73 (fun j => if j < 8 then (-1 : Int32) else wI (iw0_24 I J) 73 j))
def iw0_26 (I : rI0) (J : rJ0) : mW := wsI (iw0_25 I J) (va_up (wI (iw0_25 I J)) 74 (fun j => if j < 12 then (-1 : Int32) else wI (iw0_25 I J) 74 j))
def iw0_27 (I : rI0) (J : rJ0) : mW := wsR (iw0_26 I J) (mSet (wR (iw0_26 I J)) 68 0 (some 69))
def iw0_28 (I : rI0) (J : rJ0) : mW := mNew (iw0_27 I J) (1, 30) 30
def iw0_29 (I : rI0) (J : rJ0) : mW := wsR (iw0_28 I J) (mSet (wR (iw0_28 I J)) 68 1 (some 77))
def iw0_30 (I : rI0) (J : rJ0) : mW := mNew (iw0_29 I J) (1, 30) 30
def iw0_31 (I : rI0) (J : rJ0) : mW := wsR (iw0_30 I J) (mSet (wR (iw0_30 I J)) 68 2 (some 78))
def iw0_32 (I : rI0) (J : rJ0) : mW := mNew (iw0_31 I J) (1, 30) 30
def iw0_33 (I : rI0) (J : rJ0) : mW := wsR (iw0_32 I J) (mSet (wR (iw0_32 I J)) 68 3 (some 79))
def iw0_34 (I : rI0) (J : rJ0) : mW := wsR (iw0_33 I J) (mSet (wR (iw0_33 I J)) 27 0 (some 68))
def iw0_35 (I : rI0) (J : rJ0) : mW := wsI (iw0_34 I J) (mSet (wI (iw0_34 I J)) 69 0 (I 4 0))
def iw0_36 (I : rI0) (J : rJ0) : mW := wsI (iw0_35 I J) (mSet (wI (iw0_35 I J)) 69 1 (I 4 1))
def iw0_37 (I : rI0) (J : rJ0) : mW := wsI (iw0_36 I J) (mSet (wI (iw0_36 I J)) 69 2 (I 4 2))
def iw0_38 (I : rI0) (J : rJ0) : mW := wsI (iw0_37 I J) (mSet (wI (iw0_37 I J)) 69 3 (I 4 3))
def iw0_39 (I : rI0) (J : rJ0) : mW := wsI (iw0_38 I J) (mSet (wI (iw0_38 I J)) 69 4 (I 4 4))
def iw0_40 (I : rI0) (J : rJ0) : mW := wsJ (iw0_39 I J) (mSet (wJ (iw0_39 I J)) 69 5 (J 4 5))
def iw0_41 (I : rI0) (J : rJ0) : mW := wsI (iw0_40 I J) (va_up (wI (iw0_40 I J)) 70 (va_cpy (wI (iw0_40 I J) 5) (wI (iw0_40 I J) 70) (0 : Int32).toNatClampNeg (0 : Int32).toNatClampNeg (64 : Int32).toNatClampNeg))
def iw0_42 (I : rI0) (J : rJ0) : mW := wsJ (iw0_41 I J) (va_up (wJ (iw0_41 I J)) 71 (va_cpy (wJ (iw0_41 I J) 6) (wJ (iw0_41 I J) 71) (0 : Int32).toNatClampNeg (0 : Int32).toNatClampNeg (6 : Int32).toNatClampNeg))
def iw0_43 (I : rI0) (J : rJ0) : mW := wsI (iw0_42 I J) (va_up (wI (iw0_42 I J)) 72 (va_cpy (wI (iw0_42 I J) 7) (wI (iw0_42 I J) 72) (0 : Int32).toNatClampNeg (0 : Int32).toNatClampNeg (8 : Int32).toNatClampNeg))
def iw0_44 (I : rI0) (J : rJ0) : mW := wsI (iw0_43 I J) (va_up (wI (iw0_43 I J)) 73 (va_cpy (wI (iw0_43 I J) 8) (wI (iw0_43 I J) 73) (0 : Int32).toNatClampNeg (0 : Int32).toNatClampNeg (8 : Int32).toNatClampNeg))
def iw0_45 (I : rI0) (J : rJ0) : mW := wsI (iw0_44 I J) (va_up (wI (iw0_44 I J)) 74 (va_cpy (wI (iw0_44 I J) 9) (wI (iw0_44 I J) 74) (0 : Int32).toNatClampNeg (0 : Int32).toNatClampNeg (12 : Int32).toNatClampNeg))
def iw0_46 (I : rI0) (J : rJ0) : mW := wsI (iw0_45 I J) (va_up (wI (iw0_45 I J)) 75 (va_cpy (wI (iw0_45 I J) 10) (wI (iw0_45 I J) 75) (0 : Int32).toNatClampNeg (0 : Int32).toNatClampNeg (240 : Int32).toNatClampNeg))
def iw0_47 (I : rI0) (J : rJ0) : mW := wsJ (iw0_46 I J) (va_up (wJ (iw0_46 I J)) 76 (va_cpy (wJ (iw0_46 I J) 11) (wJ (iw0_46 I J) 76) (0 : Int32).toNatClampNeg (0 : Int32).toNatClampNeg (384 : Int32).toNatClampNeg))
def iw0_48 (I : rI0) (J : rJ0) : mW := wsI (iw0_47 I J) (mSet (wI (iw0_47 I J)) 68 4 (I 3 4))
def iw0_49 (I : rI0) (J : rJ0) : mW := wsI (iw0_48 I J) (va_up (wI (iw0_48 I J)) 77 (va_cpy (wI (iw0_48 I J) 12) (wI (iw0_48 I J) 77) (0 : Int32).toNatClampNeg (0 : Int32).toNatClampNeg (30 : Int32).toNatClampNeg))
def iw0_50 (I : rI0) (J : rJ0) : mW := wsI (iw0_49 I J) (va_up (wI (iw0_49 I J)) 78 (va_cpy (wI (iw0_49 I J) 13) (wI (iw0_49 I J) 78) (0 : Int32).toNatClampNeg (0 : Int32).toNatClampNeg (30 : Int32).toNatClampNeg))
def iw0_51 (I : rI0) (J : rJ0) : mW := wsI (iw0_50 I J) (va_up (wI (iw0_50 I J)) 79 (va_cpy (wI (iw0_50 I J) 14) (wI (iw0_50 I J) 79) (0 : Int32).toNatClampNeg (0 : Int32).toNatClampNeg (30 : Int32).toNatClampNeg))
def iw0_52 (I : rI0) (J : rJ0) : mW := wsJ (iw0_51 I J) (mSet (wJ (iw0_51 I J)) 68 5 (J 3 5))
def iw0_53 (I : rI0) (J : rJ0) : mW := wsJ (iw0_52 I J) (mSet (wJ (iw0_52 I J)) 68 6 (J 3 6))
set_option maxRecDepth 20000 in
set_option maxHeartbeats 4000000 in
theorem img_w0 {S : Nat × (Nat → Int32)} {d : Nat} {I : rI0} {J : rJ0} {Q : mO → mW → Prop} (h44 : I 4 4 = 0 ∨ I 4 4 = 1) (k : Q (some (some (.int (1 : Int32)))) (iw0_53 I J)) : wc S (d + 6) 137 [.ref 0, .int (0 : Int32)] (wv x0 I J) Q := by
  show wp S (d + 6) 137 0 [some (.ref 0), some (.int (0 : Int32))] [] (iw0_0 I J) Q
  refine wp_seg (C := gC137) (pc1 := 1) (Lo1 := [some (.ref 0), some (.int (0 : Int32))]) (st1' := [.int (0 : Int32)]) (w1 := (iw0_0 I J)) rfl 1 rfl ?_
  refine wp_if (c := .lt) (off := 8) rfl ⟨fun z => absurd z (by decide), fun _ => ?_⟩
  show wp S (d + 6) 137 4 [some (.ref 0), some (.int (0 : Int32))] [] (iw0_0 I J) _
  refine wp_seg (C := gC137) (pc1 := 6) (Lo1 := [some (.ref 0), some (.int (0 : Int32))]) (st1' := [.int (2 : Int32), .int (0 : Int32)]) (w1 := (iw0_0 I J)) rfl 2 rfl ?_
  refine wp_ic (c := .lt) (off := 5) rfl ⟨fun _ => ?_, fun z => absurd (by decide) z⟩
  show wp S (d + 6) 137 11 [some (.ref 0), some (.int (0 : Int32))] [] (iw0_0 I J) _
  refine wp_seg (C := gC137) (pc1 := 17) (Lo1 := [some (.ref 0), some (.int (0 : Int32))]) (st1' := [.null]) (w1 := (iw0_0 I J)) rfl 4 rfl ?_
  refine wp_nl (off := 16) rfl ?_
  show wp S (d + 6) 137 20 [some (.ref 0), some (.int (0 : Int32))] [] (iw0_0 I J) _
  refine wp_seg (C := gC137) (pc1 := 28) (Lo1 := [some (.ref 0), some (.int (0 : Int32))]) (st1' := [.ref 68, .int (0 : Int32), .ref 27]) (w1 := (iw0_1 I J)) rfl 4 rfl ?_
  refine wp_seg (C := gC137) (pc1 := 29) (Lo1 := [some (.ref 0), some (.int (0 : Int32))]) (st1' := [.ref 68, .ref 68, .int (0 : Int32), .ref 27]) (w1 := (iw0_1 I J)) rfl 1 rfl ?_
  refine wp_ci (mj := 13) (nn := 1) (a := 68) (as := []) (r := [.ref 68, .int (0 : Int32), .ref 27]) rfl rfl rfl ⟨rfl, by decide, by decide, by decide⟩ ?_
  show wp S (d + 5) 13 0 [some (.ref 68)] [] (iw0_1 I J) _
  refine wp_seg (C := gC13) (pc1 := 8) (Lo1 := [some (.ref 68)]) (st1' := [.ref 69, .ref 68]) (w1 := (iw0_2 I J)) rfl 4 rfl ?_
  refine wp_seg (C := gC13) (pc1 := 9) (Lo1 := [some (.ref 68)]) (st1' := [.ref 69, .ref 69, .ref 68]) (w1 := (iw0_2 I J)) rfl 1 rfl ?_
  refine wp_ci (mj := 20) (nn := 0) (a := 69) (as := []) (r := [.ref 69, .ref 68]) rfl rfl rfl ⟨rfl, by decide, by decide, by decide⟩ ?_
  show wp S (d + 4) 20 0 [some (.ref 69)] [] (iw0_2 I J) _
  refine wp_seg (C := gC20) (pc1 := 9) (Lo1 := [some (.ref 69)]) (st1' := [.ref 70, .ref 69]) (w1 := (iw0_3 I J)) rfl 5 rfl ?_
  refine wp_seg (C := gC20) (pc1 := 12) (Lo1 := [some (.ref 69)]) (st1' := []) (w1 := (iw0_4 I J)) rfl 1 rfl ?_
  refine wp_seg (C := gC20) (pc1 := 17) (Lo1 := [some (.ref 69)]) (st1' := [.ref 71, .ref 69]) (w1 := (iw0_5 I J)) rfl 3 rfl ?_
  refine wp_seg (C := gC20) (pc1 := 20) (Lo1 := [some (.ref 69)]) (st1' := []) (w1 := (iw0_6 I J)) rfl 1 rfl ?_
  refine wp_seg (C := gC20) (pc1 := 25) (Lo1 := [some (.ref 69)]) (st1' := [.ref 72, .ref 69]) (w1 := (iw0_7 I J)) rfl 3 rfl ?_
  refine wp_seg (C := gC20) (pc1 := 28) (Lo1 := [some (.ref 69)]) (st1' := []) (w1 := (iw0_8 I J)) rfl 1 rfl ?_
  refine wp_seg (C := gC20) (pc1 := 33) (Lo1 := [some (.ref 69)]) (st1' := [.ref 73, .ref 69]) (w1 := (iw0_9 I J)) rfl 3 rfl ?_
  refine wp_seg (C := gC20) (pc1 := 36) (Lo1 := [some (.ref 69)]) (st1' := []) (w1 := (iw0_10 I J)) rfl 1 rfl ?_
  refine wp_seg (C := gC20) (pc1 := 41) (Lo1 := [some (.ref 69)]) (st1' := [.ref 74, .ref 69]) (w1 := (iw0_11 I J)) rfl 3 rfl ?_
  refine wp_seg (C := gC20) (pc1 := 44) (Lo1 := [some (.ref 69)]) (st1' := []) (w1 := (iw0_12 I J)) rfl 1 rfl ?_
  refine wp_seg (C := gC20) (pc1 := 50) (Lo1 := [some (.ref 69)]) (st1' := [.ref 75, .ref 69]) (w1 := (iw0_13 I J)) rfl 3 rfl ?_
  refine wp_seg (C := gC20) (pc1 := 53) (Lo1 := [some (.ref 69)]) (st1' := []) (w1 := (iw0_14 I J)) rfl 1 rfl ?_
  refine wp_seg (C := gC20) (pc1 := 59) (Lo1 := [some (.ref 69)]) (st1' := [.ref 76, .ref 69]) (w1 := (iw0_15 I J)) rfl 3 rfl ?_
  refine wp_seg (C := gC20) (pc1 := 62) (Lo1 := [some (.ref 69)]) (st1' := []) (w1 := (iw0_16 I J)) rfl 1 rfl ?_
  refine wp_seg (C := gC20) (pc1 := 63) (Lo1 := [some (.ref 69)]) (st1' := [.ref 69]) (w1 := (iw0_16 I J)) rfl 1 rfl ?_
  refine wp_cv (mj := 21) (a := 69) (as := []) (r := []) rfl rfl rfl ⟨rfl, by decide, by decide, by decide⟩ rfl ?_
  show wp S (d + 3) 21 0 [some (.ref 69)] [] (iw0_16 I J) _
  refine wp_seg (C := gC21) (pc1 := 5) (Lo1 := [some (.ref 69)]) (st1' := []) (w1 := (iw0_17 I J)) rfl 3 rfl ?_
  refine wp_seg (C := gC21) (pc1 := 10) (Lo1 := [some (.ref 69)]) (st1' := []) (w1 := (iw0_18 I J)) rfl 3 rfl ?_
  refine wp_seg (C := gC21) (pc1 := 15) (Lo1 := [some (.ref 69)]) (st1' := []) (w1 := (iw0_19 I J)) rfl 3 rfl ?_
  refine wp_seg (C := gC21) (pc1 := 22) (Lo1 := [some (.ref 69)]) (st1' := []) (w1 := (iw0_20 I J)) rfl 3 rfl ?_
  refine wp_seg (C := gC21) (pc1 := 27) (Lo1 := [some (.ref 69)]) (st1' := []) (w1 := (iw0_21 I J)) rfl 3 rfl ?_
  refine wp_seg (C := gC21) (pc1 := 32) (Lo1 := [some (.ref 69)]) (st1' := []) (w1 := (iw0_22 I J)) rfl 3 rfl ?_
  refine wp_seg (C := gC21) (pc1 := 37) (Lo1 := [some (.ref 69)]) (st1' := [.long (0 : Int64), .ref 71]) (w1 := (iw0_22 I J)) rfl 3 rfl ?_
  refine wp_cs (mj := 251) (nn := 0) (as := [.ref 71, .long (0 : Int64)]) (r := []) rfl rfl rfl ⟨rfl, by decide, by decide, by decide⟩ (by decide) ?_
  refine fillJ (n := 6) rfl (by decide) ⟨none, rfl, ?_⟩
  show wp S (d + 3) 21 40 [some (.ref 69)] [] (iw0_23 I J) _
  refine wp_seg (C := gC21) (pc1 := 46) (Lo1 := [some (.ref 69)]) (st1' := [.int (10 : Int32), .ref 72]) (w1 := (iw0_23 I J)) rfl 3 rfl ?_
  refine wp_cs (mj := 252) (nn := 0) (as := [.ref 72, .int (10 : Int32)]) (r := []) rfl rfl rfl ⟨rfl, by decide, by decide, by decide⟩ (by decide) ?_
  refine fillI (n := 8) rfl (by decide) ⟨none, rfl, ?_⟩
  show wp S (d + 3) 21 49 [some (.ref 69)] [] (iw0_24 I J) _
  refine wp_seg (C := gC21) (pc1 := 54) (Lo1 := [some (.ref 69)]) (st1' := [.int (-1 : Int32), .ref 73]) (w1 := (iw0_24 I J)) rfl 3 rfl ?_
  refine wp_cs (mj := 252) (nn := 0) (as := [.ref 73, .int (-1 : Int32)]) (r := []) rfl rfl rfl ⟨rfl, by decide, by decide, by decide⟩ (by decide) ?_
  refine fillI (n := 8) rfl (by decide) ⟨none, rfl, ?_⟩
  show wp S (d + 3) 21 57 [some (.ref 69)] [] (iw0_25 I J) _
  refine wp_seg (C := gC21) (pc1 := 62) (Lo1 := [some (.ref 69)]) (st1' := [.int (-1 : Int32), .ref 74]) (w1 := (iw0_25 I J)) rfl 3 rfl ?_
  refine wp_cs (mj := 252) (nn := 0) (as := [.ref 74, .int (-1 : Int32)]) (r := []) rfl rfl rfl ⟨rfl, by decide, by decide, by decide⟩ (by decide) ?_
  refine fillI (n := 12) rfl (by decide) ⟨none, rfl, ?_⟩
  show wp S (d + 3) 21 65 [some (.ref 69)] [] (iw0_26 I J) _
  refine wp_vret (mi := 21) (pc := 65) rfl rfl ?_
  refine ⟨none, rfl, ?_⟩
  show wp S (d + 4) 20 66 [some (.ref 69)] [] (iw0_26 I J) _
  refine wp_vret (mi := 20) (pc := 66) rfl rfl ?_
  refine ⟨rfl, ?_⟩
  show wp S (d + 5) 13 12 [some (.ref 68)] [.ref 69, .ref 68] (iw0_26 I J) _
  refine wp_seg (C := gC13) (pc1 := 15) (Lo1 := [some (.ref 68)]) (st1' := []) (w1 := (iw0_27 I J)) rfl 1 rfl ?_
  refine wp_seg (C := gC13) (pc1 := 20) (Lo1 := [some (.ref 68)]) (st1' := [.ref 77, .ref 68]) (w1 := (iw0_28 I J)) rfl 3 rfl ?_
  refine wp_seg (C := gC13) (pc1 := 23) (Lo1 := [some (.ref 68)]) (st1' := []) (w1 := (iw0_29 I J)) rfl 1 rfl ?_
  refine wp_seg (C := gC13) (pc1 := 28) (Lo1 := [some (.ref 68)]) (st1' := [.ref 78, .ref 68]) (w1 := (iw0_30 I J)) rfl 3 rfl ?_
  refine wp_seg (C := gC13) (pc1 := 31) (Lo1 := [some (.ref 68)]) (st1' := []) (w1 := (iw0_31 I J)) rfl 1 rfl ?_
  refine wp_seg (C := gC13) (pc1 := 36) (Lo1 := [some (.ref 68)]) (st1' := [.ref 79, .ref 68]) (w1 := (iw0_32 I J)) rfl 3 rfl ?_
  refine wp_seg (C := gC13) (pc1 := 39) (Lo1 := [some (.ref 68)]) (st1' := []) (w1 := (iw0_33 I J)) rfl 1 rfl ?_
  refine wp_vret (mi := 13) (pc := 39) rfl rfl ?_
  refine ⟨rfl, ?_⟩
  show wp S (d + 6) 137 32 [some (.ref 0), some (.int (0 : Int32))] [.ref 68, .int (0 : Int32), .ref 27] (iw0_33 I J) _
  refine wp_seg (C := gC137) (pc1 := 33) (Lo1 := [some (.ref 0), some (.int (0 : Int32))]) (st1' := []) (w1 := (iw0_34 I J)) rfl 1 rfl ?_
  refine wp_seg (C := gC137) (pc1 := 43) (Lo1 := [some (.ref 0), some (.int (0 : Int32))]) (st1' := [.ref 3, .ref 68]) (w1 := (iw0_34 I J)) rfl 6 rfl ?_
  refine wp_cv (mj := 15) (a := 68) (as := [.ref 3]) (r := []) rfl rfl rfl ⟨rfl, by decide, by decide, by decide⟩ rfl ?_
  show wp S (d + 5) 15 0 [some (.ref 68), some (.ref 3)] [] (iw0_34 I J) _
  refine wp_seg (C := gC15) (pc1 := 8) (Lo1 := [some (.ref 68), some (.ref 3)]) (st1' := [.ref 4, .ref 69]) (w1 := (iw0_34 I J)) rfl 4 rfl ?_
  refine wp_cv (mj := 22) (a := 69) (as := [.ref 4]) (r := []) rfl rfl rfl ⟨rfl, by decide, by decide, by decide⟩ rfl ?_
  show wp S (d + 4) 22 0 [some (.ref 69), some (.ref 4)] [] (iw0_34 I J) _
  refine wp_seg (C := gC22) (pc1 := 8) (Lo1 := [some (.ref 69), some (.ref 4)]) (st1' := []) (w1 := (iw0_35 I J)) rfl 4 rfl ?_
  refine wp_seg (C := gC22) (pc1 := 16) (Lo1 := [some (.ref 69), some (.ref 4)]) (st1' := []) (w1 := (iw0_36 I J)) rfl 4 rfl ?_
  refine wp_seg (C := gC22) (pc1 := 24) (Lo1 := [some (.ref 69), some (.ref 4)]) (st1' := []) (w1 := (iw0_37 I J)) rfl 4 rfl ?_
  refine wp_seg (C := gC22) (pc1 := 32) (Lo1 := [some (.ref 69), some (.ref 4)]) (st1' := []) (w1 := (iw0_38 I J)) rfl 4 rfl ?_
  refine wp_seg (C := gC22) (pc1 := 37) (Lo1 := [some (.ref 69), some (.ref 4)]) (st1' := [.int (I 4 4), .ref 69]) (w1 := (iw0_38 I J)) rfl 3 rfl ?_
  refine gw_putz (a := 69) (ci := 3) (k := 4) rfl rfl rfl ⟨rfl, rfl⟩ h44 ?_
  show wp S (d + 4) 22 40 [some (.ref 69), some (.ref 4)] [] (iw0_39 I J) _
  refine wp_seg (C := gC22) (pc1 := 48) (Lo1 := [some (.ref 69), some (.ref 4)]) (st1' := []) (w1 := (iw0_40 I J)) rfl 4 rfl ?_
  refine wp_seg (C := gC22) (pc1 := 60) (Lo1 := [some (.ref 69), some (.ref 4)]) (st1' := [.int (64 : Int32), .int (0 : Int32), .ref 70, .int (0 : Int32), .ref 5]) (w1 := (iw0_40 I J)) rfl 7 rfl ?_
  refine gw_cpI (n0 := 64) (n1 := 64) rfl rfl rfl rfl (by decide) (by decide) ?_
  show wp S (d + 4) 22 63 [some (.ref 69), some (.ref 4)] [] (iw0_41 I J) _
  refine wp_seg (C := gC22) (pc1 := 75) (Lo1 := [some (.ref 69), some (.ref 4)]) (st1' := [.int (6 : Int32), .int (0 : Int32), .ref 71, .int (0 : Int32), .ref 6]) (w1 := (iw0_41 I J)) rfl 7 rfl ?_
  refine gw_cpJ (n0 := 6) (n1 := 6) rfl rfl rfl rfl (by decide) (by decide) ?_
  show wp S (d + 4) 22 78 [some (.ref 69), some (.ref 4)] [] (iw0_42 I J) _
  refine wp_seg (C := gC22) (pc1 := 90) (Lo1 := [some (.ref 69), some (.ref 4)]) (st1' := [.int (8 : Int32), .int (0 : Int32), .ref 72, .int (0 : Int32), .ref 7]) (w1 := (iw0_42 I J)) rfl 7 rfl ?_
  refine gw_cpI (n0 := 8) (n1 := 8) rfl rfl rfl rfl (by decide) (by decide) ?_
  show wp S (d + 4) 22 93 [some (.ref 69), some (.ref 4)] [] (iw0_43 I J) _
  refine wp_seg (C := gC22) (pc1 := 105) (Lo1 := [some (.ref 69), some (.ref 4)]) (st1' := [.int (8 : Int32), .int (0 : Int32), .ref 73, .int (0 : Int32), .ref 8]) (w1 := (iw0_43 I J)) rfl 7 rfl ?_
  refine gw_cpI (n0 := 8) (n1 := 8) rfl rfl rfl rfl (by decide) (by decide) ?_
  show wp S (d + 4) 22 108 [some (.ref 69), some (.ref 4)] [] (iw0_44 I J) _
  refine wp_seg (C := gC22) (pc1 := 120) (Lo1 := [some (.ref 69), some (.ref 4)]) (st1' := [.int (12 : Int32), .int (0 : Int32), .ref 74, .int (0 : Int32), .ref 9]) (w1 := (iw0_44 I J)) rfl 7 rfl ?_
  refine gw_cpI (n0 := 12) (n1 := 12) rfl rfl rfl rfl (by decide) (by decide) ?_
  show wp S (d + 4) 22 123 [some (.ref 69), some (.ref 4)] [] (iw0_45 I J) _
  refine wp_seg (C := gC22) (pc1 := 136) (Lo1 := [some (.ref 69), some (.ref 4)]) (st1' := [.int (240 : Int32), .int (0 : Int32), .ref 75, .int (0 : Int32), .ref 10]) (w1 := (iw0_45 I J)) rfl 7 rfl ?_
  refine gw_cpI (n0 := 240) (n1 := 240) rfl rfl rfl rfl (by decide) (by decide) ?_
  show wp S (d + 4) 22 139 [some (.ref 69), some (.ref 4)] [] (iw0_46 I J) _
  refine wp_seg (C := gC22) (pc1 := 152) (Lo1 := [some (.ref 69), some (.ref 4)]) (st1' := [.int (384 : Int32), .int (0 : Int32), .ref 76, .int (0 : Int32), .ref 11]) (w1 := (iw0_46 I J)) rfl 7 rfl ?_
  refine gw_cpJ (n0 := 384) (n1 := 384) rfl rfl rfl rfl (by decide) (by decide) ?_
  show wp S (d + 4) 22 155 [some (.ref 69), some (.ref 4)] [] (iw0_47 I J) _
  refine wp_vret (mi := 22) (pc := 155) rfl rfl ?_
  refine ⟨none, rfl, ?_⟩
  show wp S (d + 5) 15 11 [some (.ref 68), some (.ref 3)] [] (iw0_47 I J) _
  refine wp_seg (C := gC15) (pc1 := 13) (Lo1 := [some (.ref 68), some (.ref 3)]) (st1' := [.ref 3, .ref 68]) (w1 := (iw0_47 I J)) rfl 2 rfl ?_
  refine wp_cv (mj := 16) (a := 68) (as := [.ref 3]) (r := []) rfl rfl rfl ⟨rfl, by decide, by decide, by decide⟩ rfl ?_
  show wp S (d + 4) 16 0 [some (.ref 68), some (.ref 3)] [] (iw0_47 I J) _
  refine wp_seg (C := gC16) (pc1 := 8) (Lo1 := [some (.ref 68), some (.ref 3)]) (st1' := []) (w1 := (iw0_48 I J)) rfl 4 rfl ?_
  refine wp_seg (C := gC16) (pc1 := 20) (Lo1 := [some (.ref 68), some (.ref 3)]) (st1' := [.int (30 : Int32), .int (0 : Int32), .ref 77, .int (0 : Int32), .ref 12]) (w1 := (iw0_48 I J)) rfl 7 rfl ?_
  refine gw_cpI (n0 := 30) (n1 := 30) rfl rfl rfl rfl (by decide) (by decide) ?_
  show wp S (d + 4) 16 23 [some (.ref 68), some (.ref 3)] [] (iw0_49 I J) _
  refine wp_seg (C := gC16) (pc1 := 35) (Lo1 := [some (.ref 68), some (.ref 3)]) (st1' := [.int (30 : Int32), .int (0 : Int32), .ref 78, .int (0 : Int32), .ref 13]) (w1 := (iw0_49 I J)) rfl 7 rfl ?_
  refine gw_cpI (n0 := 30) (n1 := 30) rfl rfl rfl rfl (by decide) (by decide) ?_
  show wp S (d + 4) 16 38 [some (.ref 68), some (.ref 3)] [] (iw0_50 I J) _
  refine wp_seg (C := gC16) (pc1 := 50) (Lo1 := [some (.ref 68), some (.ref 3)]) (st1' := [.int (30 : Int32), .int (0 : Int32), .ref 79, .int (0 : Int32), .ref 14]) (w1 := (iw0_50 I J)) rfl 7 rfl ?_
  refine gw_cpI (n0 := 30) (n1 := 30) rfl rfl rfl rfl (by decide) (by decide) ?_
  show wp S (d + 4) 16 53 [some (.ref 68), some (.ref 3)] [] (iw0_51 I J) _
  refine wp_vret (mi := 16) (pc := 53) rfl rfl ?_
  refine ⟨none, rfl, ?_⟩
  show wp S (d + 5) 15 16 [some (.ref 68), some (.ref 3)] [] (iw0_51 I J) _
  refine wp_seg (C := gC15) (pc1 := 24) (Lo1 := [some (.ref 68), some (.ref 3)]) (st1' := []) (w1 := (iw0_52 I J)) rfl 4 rfl ?_
  refine wp_seg (C := gC15) (pc1 := 32) (Lo1 := [some (.ref 68), some (.ref 3)]) (st1' := []) (w1 := (iw0_53 I J)) rfl 4 rfl ?_
  refine wp_vret (mi := 15) (pc := 32) rfl rfl ?_
  refine ⟨none, rfl, ?_⟩
  show wp S (d + 6) 137 46 [some (.ref 0), some (.int (0 : Int32))] [] (iw0_53 I J) _
  refine wp_seg (C := gC137) (pc1 := 47) (Lo1 := [some (.ref 0), some (.int (0 : Int32))]) (st1' := [.int (1 : Int32)]) (w1 := (iw0_53 I J)) rfl 1 rfl ?_
  refine wp_iret (mi := 137) (pc := 47) rfl (Or.inr ⟨rfl, Or.inr rfl⟩) ?_
  exact k
theorem iw0_k0 {I : rI0} {J : rJ0} : KD (iw0_0 I J) kq0 := rfl
def iw0_q1 : Nat → Nat → Option Nat := va_up kq0 68 (fun _ => none)
theorem iw0_k1 {I : rI0} {J : rJ0} : KD (iw0_1 I J) iw0_q1 := KD_new iw0_k0 rfl (by decide)
def iw0_q2 : Nat → Nat → Option Nat := va_up iw0_q1 69 (fun _ => none)
theorem iw0_k2 {I : rI0} {J : rJ0} : KD (iw0_2 I J) iw0_q2 := KD_new iw0_k1 rfl (by decide)
def iw0_q3 : Nat → Nat → Option Nat := va_up iw0_q2 70 (fun _ => none)
theorem iw0_k3 {I : rI0} {J : rJ0} : KD (iw0_3 I J) iw0_q3 := KD_new iw0_k2 rfl (by decide)
def iw0_q4 : Nat → Nat → Option Nat := mSet iw0_q3 69 6 (some 70)
theorem iw0_k4 {I : rI0} {J : rJ0} : KD (iw0_4 I J) iw0_q4 := KD_R iw0_k3 (by decide)
def iw0_q5 : Nat → Nat → Option Nat := va_up iw0_q4 71 (fun _ => none)
theorem iw0_k5 {I : rI0} {J : rJ0} : KD (iw0_5 I J) iw0_q5 := KD_new iw0_k4 rfl (by decide)
def iw0_q6 : Nat → Nat → Option Nat := mSet iw0_q5 69 7 (some 71)
theorem iw0_k6 {I : rI0} {J : rJ0} : KD (iw0_6 I J) iw0_q6 := KD_R iw0_k5 (by decide)
def iw0_q7 : Nat → Nat → Option Nat := va_up iw0_q6 72 (fun _ => none)
theorem iw0_k7 {I : rI0} {J : rJ0} : KD (iw0_7 I J) iw0_q7 := KD_new iw0_k6 rfl (by decide)
def iw0_q8 : Nat → Nat → Option Nat := mSet iw0_q7 69 8 (some 72)
theorem iw0_k8 {I : rI0} {J : rJ0} : KD (iw0_8 I J) iw0_q8 := KD_R iw0_k7 (by decide)
def iw0_q9 : Nat → Nat → Option Nat := va_up iw0_q8 73 (fun _ => none)
theorem iw0_k9 {I : rI0} {J : rJ0} : KD (iw0_9 I J) iw0_q9 := KD_new iw0_k8 rfl (by decide)
def iw0_q10 : Nat → Nat → Option Nat := mSet iw0_q9 69 9 (some 73)
theorem iw0_k10 {I : rI0} {J : rJ0} : KD (iw0_10 I J) iw0_q10 := KD_R iw0_k9 (by decide)
def iw0_q11 : Nat → Nat → Option Nat := va_up iw0_q10 74 (fun _ => none)
theorem iw0_k11 {I : rI0} {J : rJ0} : KD (iw0_11 I J) iw0_q11 := KD_new iw0_k10 rfl (by decide)
def iw0_q12 : Nat → Nat → Option Nat := mSet iw0_q11 69 10 (some 74)
theorem iw0_k12 {I : rI0} {J : rJ0} : KD (iw0_12 I J) iw0_q12 := KD_R iw0_k11 (by decide)
def iw0_q13 : Nat → Nat → Option Nat := va_up iw0_q12 75 (fun _ => none)
theorem iw0_k13 {I : rI0} {J : rJ0} : KD (iw0_13 I J) iw0_q13 := KD_new iw0_k12 rfl (by decide)
def iw0_q14 : Nat → Nat → Option Nat := mSet iw0_q13 69 11 (some 75)
theorem iw0_k14 {I : rI0} {J : rJ0} : KD (iw0_14 I J) iw0_q14 := KD_R iw0_k13 (by decide)
def iw0_q15 : Nat → Nat → Option Nat := va_up iw0_q14 76 (fun _ => none)
theorem iw0_k15 {I : rI0} {J : rJ0} : KD (iw0_15 I J) iw0_q15 := KD_new iw0_k14 rfl (by decide)
def iw0_q16 : Nat → Nat → Option Nat := mSet iw0_q15 69 12 (some 76)
theorem iw0_k16 {I : rI0} {J : rJ0} : KD (iw0_16 I J) iw0_q16 := KD_R iw0_k15 (by decide)
theorem iw0_k17 {I : rI0} {J : rJ0} : KD (iw0_17 I J) iw0_q16 := KD_I iw0_k16
theorem iw0_k18 {I : rI0} {J : rJ0} : KD (iw0_18 I J) iw0_q16 := KD_I iw0_k17
theorem iw0_k19 {I : rI0} {J : rJ0} : KD (iw0_19 I J) iw0_q16 := KD_I iw0_k18
theorem iw0_k20 {I : rI0} {J : rJ0} : KD (iw0_20 I J) iw0_q16 := KD_I iw0_k19
theorem iw0_k21 {I : rI0} {J : rJ0} : KD (iw0_21 I J) iw0_q16 := KD_I iw0_k20
theorem iw0_k22 {I : rI0} {J : rJ0} : KD (iw0_22 I J) iw0_q16 := KD_J iw0_k21
theorem iw0_k23 {I : rI0} {J : rJ0} : KD (iw0_23 I J) iw0_q16 := KD_J iw0_k22
theorem iw0_k24 {I : rI0} {J : rJ0} : KD (iw0_24 I J) iw0_q16 := KD_I iw0_k23
theorem iw0_k25 {I : rI0} {J : rJ0} : KD (iw0_25 I J) iw0_q16 := KD_I iw0_k24
theorem iw0_k26 {I : rI0} {J : rJ0} : KD (iw0_26 I J) iw0_q16 := KD_I iw0_k25
def iw0_q27 : Nat → Nat → Option Nat := mSet iw0_q16 68 0 (some 69)
theorem iw0_k27 {I : rI0} {J : rJ0} : KD (iw0_27 I J) iw0_q27 := KD_R iw0_k26 (by decide)
def iw0_q28 : Nat → Nat → Option Nat := va_up iw0_q27 77 (fun _ => none)
theorem iw0_k28 {I : rI0} {J : rJ0} : KD (iw0_28 I J) iw0_q28 := KD_new iw0_k27 rfl (by decide)
def iw0_q29 : Nat → Nat → Option Nat := mSet iw0_q28 68 1 (some 77)
theorem iw0_k29 {I : rI0} {J : rJ0} : KD (iw0_29 I J) iw0_q29 := KD_R iw0_k28 (by decide)
def iw0_q30 : Nat → Nat → Option Nat := va_up iw0_q29 78 (fun _ => none)
theorem iw0_k30 {I : rI0} {J : rJ0} : KD (iw0_30 I J) iw0_q30 := KD_new iw0_k29 rfl (by decide)
def iw0_q31 : Nat → Nat → Option Nat := mSet iw0_q30 68 2 (some 78)
theorem iw0_k31 {I : rI0} {J : rJ0} : KD (iw0_31 I J) iw0_q31 := KD_R iw0_k30 (by decide)
def iw0_q32 : Nat → Nat → Option Nat := va_up iw0_q31 79 (fun _ => none)
theorem iw0_k32 {I : rI0} {J : rJ0} : KD (iw0_32 I J) iw0_q32 := KD_new iw0_k31 rfl (by decide)
def iw0_q33 : Nat → Nat → Option Nat := mSet iw0_q32 68 3 (some 79)
theorem iw0_k33 {I : rI0} {J : rJ0} : KD (iw0_33 I J) iw0_q33 := KD_R iw0_k32 (by decide)
def iw0_q34 : Nat → Nat → Option Nat := mSet iw0_q33 27 0 (some 68)
theorem iw0_k34 {I : rI0} {J : rJ0} : KD (iw0_34 I J) iw0_q34 := KD_R iw0_k33 (by decide)
theorem iw0_k35 {I : rI0} {J : rJ0} : KD (iw0_35 I J) iw0_q34 := KD_I iw0_k34
theorem iw0_k36 {I : rI0} {J : rJ0} : KD (iw0_36 I J) iw0_q34 := KD_I iw0_k35
theorem iw0_k37 {I : rI0} {J : rJ0} : KD (iw0_37 I J) iw0_q34 := KD_I iw0_k36
theorem iw0_k38 {I : rI0} {J : rJ0} : KD (iw0_38 I J) iw0_q34 := KD_I iw0_k37
theorem iw0_k39 {I : rI0} {J : rJ0} : KD (iw0_39 I J) iw0_q34 := KD_I iw0_k38
theorem iw0_k40 {I : rI0} {J : rJ0} : KD (iw0_40 I J) iw0_q34 := KD_J iw0_k39
theorem iw0_k41 {I : rI0} {J : rJ0} : KD (iw0_41 I J) iw0_q34 := KD_I iw0_k40
theorem iw0_k42 {I : rI0} {J : rJ0} : KD (iw0_42 I J) iw0_q34 := KD_J iw0_k41
theorem iw0_k43 {I : rI0} {J : rJ0} : KD (iw0_43 I J) iw0_q34 := KD_I iw0_k42
theorem iw0_k44 {I : rI0} {J : rJ0} : KD (iw0_44 I J) iw0_q34 := KD_I iw0_k43
theorem iw0_k45 {I : rI0} {J : rJ0} : KD (iw0_45 I J) iw0_q34 := KD_I iw0_k44
theorem iw0_k46 {I : rI0} {J : rJ0} : KD (iw0_46 I J) iw0_q34 := KD_I iw0_k45
theorem iw0_k47 {I : rI0} {J : rJ0} : KD (iw0_47 I J) iw0_q34 := KD_J iw0_k46
theorem iw0_k48 {I : rI0} {J : rJ0} : KD (iw0_48 I J) iw0_q34 := KD_I iw0_k47
theorem iw0_k49 {I : rI0} {J : rJ0} : KD (iw0_49 I J) iw0_q34 := KD_I iw0_k48
theorem iw0_k50 {I : rI0} {J : rJ0} : KD (iw0_50 I J) iw0_q34 := KD_I iw0_k49
theorem iw0_k51 {I : rI0} {J : rJ0} : KD (iw0_51 I J) iw0_q34 := KD_I iw0_k50
theorem iw0_k52 {I : rI0} {J : rJ0} : KD (iw0_52 I J) iw0_q34 := KD_J iw0_k51
theorem iw0_k53 {I : rI0} {J : rJ0} : KD (iw0_53 I J) iw0_q34 := KD_J iw0_k52
def iw0_x : mX := ([(0, 2), (0, 3), (1, 64), (4, 6), (1, 8), (1, 8), (1, 12), (1, 240), (4, 384), (1, 30), (1, 30), (1, 30)], iw0_q34, 80, 13801)
theorem iw0_wv {I : rI0} {J : rJ0} : iw0_53 I J = wv iw0_x (wI (iw0_53 I J)) (wJ (iw0_53 I J)) := by
  have hR : (iw0_53 I J).2.2.2.1 = RRk iw0_q34 := iw0_k53
  have hS : (iw0_53 I J).1 = SHL ++ [(0, 2), (0, 3), (1, 64), (4, 6), (1, 8), (1, 8), (1, 12), (1, 240), (4, 384), (1, 30), (1, 30), (1, 30)] := rfl
  have hC : (iw0_53 I J).2.2.2.2 = (80, 13801) := rfl
  show ((iw0_53 I J).1, (iw0_53 I J).2.1, (iw0_53 I J).2.2.1, (iw0_53 I J).2.2.2.1, (iw0_53 I J).2.2.2.2) = _
  rw [hS, hR, hC]
  rfl
def iw1_0 (I : rI0) (J : rJ0) : mW := wv x0 I J
def iw1_1 (I : rI0) (J : rJ0) : mW := mNew (iw1_0 I J) (0, 2) 7
def iw1_2 (I : rI0) (J : rJ0) : mW := mNew (iw1_1 I J) (0, 3) 13
def iw1_3 (I : rI0) (J : rJ0) : mW := mNew (iw1_2 I J) (1, 64) 64
def iw1_4 (I : rI0) (J : rJ0) : mW := wsR (iw1_3 I J) (mSet (wR (iw1_3 I J)) 69 6 (some 70))
def iw1_5 (I : rI0) (J : rJ0) : mW := mNew (iw1_4 I J) (4, 6) 6
def iw1_6 (I : rI0) (J : rJ0) : mW := wsR (iw1_5 I J) (mSet (wR (iw1_5 I J)) 69 7 (some 71))
def iw1_7 (I : rI0) (J : rJ0) : mW := mNew (iw1_6 I J) (1, 8) 8
def iw1_8 (I : rI0) (J : rJ0) : mW := wsR (iw1_7 I J) (mSet (wR (iw1_7 I J)) 69 8 (some 72))
def iw1_9 (I : rI0) (J : rJ0) : mW := mNew (iw1_8 I J) (1, 8) 8
def iw1_10 (I : rI0) (J : rJ0) : mW := wsR (iw1_9 I J) (mSet (wR (iw1_9 I J)) 69 9 (some 73))
def iw1_11 (I : rI0) (J : rJ0) : mW := mNew (iw1_10 I J) (1, 12) 12
def iw1_12 (I : rI0) (J : rJ0) : mW := wsR (iw1_11 I J) (mSet (wR (iw1_11 I J)) 69 10 (some 74))
def iw1_13 (I : rI0) (J : rJ0) : mW := mNew (iw1_12 I J) (1, 240) 240
def iw1_14 (I : rI0) (J : rJ0) : mW := wsR (iw1_13 I J) (mSet (wR (iw1_13 I J)) 69 11 (some 75))
def iw1_15 (I : rI0) (J : rJ0) : mW := mNew (iw1_14 I J) (4, 384) 384
def iw1_16 (I : rI0) (J : rJ0) : mW := wsR (iw1_15 I J) (mSet (wR (iw1_15 I J)) 69 12 (some 76))
def iw1_17 (I : rI0) (J : rJ0) : mW := wsI (iw1_16 I J) (mSet (wI (iw1_16 I J)) 69 0 (0 : Int32))
def iw1_18 (I : rI0) (J : rJ0) : mW := wsI (iw1_17 I J) (mSet (wI (iw1_17 I J)) 69 1 (0 : Int32))
def iw1_19 (I : rI0) (J : rJ0) : mW := wsI (iw1_18 I J) (mSet (wI (iw1_18 I J)) 69 2 (1 : Int32))
def iw1_20 (I : rI0) (J : rJ0) : mW := wsI (iw1_19 I J) (mSet (wI (iw1_19 I J)) 69 3 (600 : Int32))
def iw1_21 (I : rI0) (J : rJ0) : mW := wsI (iw1_20 I J) (mSet (wI (iw1_20 I J)) 69 4 (0 : Int32))
def iw1_22 (I : rI0) (J : rJ0) : mW := wsJ (iw1_21 I J) (mSet (wJ (iw1_21 I J)) 69 5 (0 : Int64))
def iw1_23 (I : rI0) (J : rJ0) : mW := wsJ (iw1_22 I J) (va_up (wJ (iw1_22 I J)) 71 (fun j => if j < 6 then (0 : Int64) else wJ (iw1_22 I J) 71 j))
def iw1_24 (I : rI0) (J : rJ0) : mW := wsI (iw1_23 I J) (va_up (wI (iw1_23 I J)) 72 (fun j => if j < 8 then (10 : Int32) else wI (iw1_23 I J) 72 j))
def iw1_25 (I : rI0) (J : rJ0) : mW := wsI (iw1_24 I J) (va_up (wI (iw1_24 I J)) 73 (fun j => if j < 8 then (-1 : Int32) else wI (iw1_24 I J) 73 j))
def iw1_26 (I : rI0) (J : rJ0) : mW := wsI (iw1_25 I J) (va_up (wI (iw1_25 I J)) 74 (fun j => if j < 12 then (-1 : Int32) else wI (iw1_25 I J) 74 j))
def iw1_27 (I : rI0) (J : rJ0) : mW := wsR (iw1_26 I J) (mSet (wR (iw1_26 I J)) 68 0 (some 69))
def iw1_28 (I : rI0) (J : rJ0) : mW := mNew (iw1_27 I J) (1, 30) 30
def iw1_29 (I : rI0) (J : rJ0) : mW := wsR (iw1_28 I J) (mSet (wR (iw1_28 I J)) 68 1 (some 77))
def iw1_30 (I : rI0) (J : rJ0) : mW := mNew (iw1_29 I J) (1, 30) 30
def iw1_31 (I : rI0) (J : rJ0) : mW := wsR (iw1_30 I J) (mSet (wR (iw1_30 I J)) 68 2 (some 78))
def iw1_32 (I : rI0) (J : rJ0) : mW := mNew (iw1_31 I J) (1, 30) 30
def iw1_33 (I : rI0) (J : rJ0) : mW := wsR (iw1_32 I J) (mSet (wR (iw1_32 I J)) 68 3 (some 79))
def iw1_34 (I : rI0) (J : rJ0) : mW := wsR (iw1_33 I J) (mSet (wR (iw1_33 I J)) 27 1 (some 68))
def iw1_35 (I : rI0) (J : rJ0) : mW := wsI (iw1_34 I J) (mSet (wI (iw1_34 I J)) 69 0 (I 4 0))
def iw1_36 (I : rI0) (J : rJ0) : mW := wsI (iw1_35 I J) (mSet (wI (iw1_35 I J)) 69 1 (I 4 1))
def iw1_37 (I : rI0) (J : rJ0) : mW := wsI (iw1_36 I J) (mSet (wI (iw1_36 I J)) 69 2 (I 4 2))
def iw1_38 (I : rI0) (J : rJ0) : mW := wsI (iw1_37 I J) (mSet (wI (iw1_37 I J)) 69 3 (I 4 3))
def iw1_39 (I : rI0) (J : rJ0) : mW := wsI (iw1_38 I J) (mSet (wI (iw1_38 I J)) 69 4 (I 4 4))
def iw1_40 (I : rI0) (J : rJ0) : mW := wsJ (iw1_39 I J) (mSet (wJ (iw1_39 I J)) 69 5 (J 4 5))
def iw1_41 (I : rI0) (J : rJ0) : mW := wsI (iw1_40 I J) (va_up (wI (iw1_40 I J)) 70 (va_cpy (wI (iw1_40 I J) 5) (wI (iw1_40 I J) 70) (0 : Int32).toNatClampNeg (0 : Int32).toNatClampNeg (64 : Int32).toNatClampNeg))
def iw1_42 (I : rI0) (J : rJ0) : mW := wsJ (iw1_41 I J) (va_up (wJ (iw1_41 I J)) 71 (va_cpy (wJ (iw1_41 I J) 6) (wJ (iw1_41 I J) 71) (0 : Int32).toNatClampNeg (0 : Int32).toNatClampNeg (6 : Int32).toNatClampNeg))
def iw1_43 (I : rI0) (J : rJ0) : mW := wsI (iw1_42 I J) (va_up (wI (iw1_42 I J)) 72 (va_cpy (wI (iw1_42 I J) 7) (wI (iw1_42 I J) 72) (0 : Int32).toNatClampNeg (0 : Int32).toNatClampNeg (8 : Int32).toNatClampNeg))
def iw1_44 (I : rI0) (J : rJ0) : mW := wsI (iw1_43 I J) (va_up (wI (iw1_43 I J)) 73 (va_cpy (wI (iw1_43 I J) 8) (wI (iw1_43 I J) 73) (0 : Int32).toNatClampNeg (0 : Int32).toNatClampNeg (8 : Int32).toNatClampNeg))
def iw1_45 (I : rI0) (J : rJ0) : mW := wsI (iw1_44 I J) (va_up (wI (iw1_44 I J)) 74 (va_cpy (wI (iw1_44 I J) 9) (wI (iw1_44 I J) 74) (0 : Int32).toNatClampNeg (0 : Int32).toNatClampNeg (12 : Int32).toNatClampNeg))
def iw1_46 (I : rI0) (J : rJ0) : mW := wsI (iw1_45 I J) (va_up (wI (iw1_45 I J)) 75 (va_cpy (wI (iw1_45 I J) 10) (wI (iw1_45 I J) 75) (0 : Int32).toNatClampNeg (0 : Int32).toNatClampNeg (240 : Int32).toNatClampNeg))
def iw1_47 (I : rI0) (J : rJ0) : mW := wsJ (iw1_46 I J) (va_up (wJ (iw1_46 I J)) 76 (va_cpy (wJ (iw1_46 I J) 11) (wJ (iw1_46 I J) 76) (0 : Int32).toNatClampNeg (0 : Int32).toNatClampNeg (384 : Int32).toNatClampNeg))
def iw1_48 (I : rI0) (J : rJ0) : mW := wsI (iw1_47 I J) (mSet (wI (iw1_47 I J)) 68 4 (I 3 4))
def iw1_49 (I : rI0) (J : rJ0) : mW := wsI (iw1_48 I J) (va_up (wI (iw1_48 I J)) 77 (va_cpy (wI (iw1_48 I J) 12) (wI (iw1_48 I J) 77) (0 : Int32).toNatClampNeg (0 : Int32).toNatClampNeg (30 : Int32).toNatClampNeg))
def iw1_50 (I : rI0) (J : rJ0) : mW := wsI (iw1_49 I J) (va_up (wI (iw1_49 I J)) 78 (va_cpy (wI (iw1_49 I J) 13) (wI (iw1_49 I J) 78) (0 : Int32).toNatClampNeg (0 : Int32).toNatClampNeg (30 : Int32).toNatClampNeg))
def iw1_51 (I : rI0) (J : rJ0) : mW := wsI (iw1_50 I J) (va_up (wI (iw1_50 I J)) 79 (va_cpy (wI (iw1_50 I J) 14) (wI (iw1_50 I J) 79) (0 : Int32).toNatClampNeg (0 : Int32).toNatClampNeg (30 : Int32).toNatClampNeg))
def iw1_52 (I : rI0) (J : rJ0) : mW := wsJ (iw1_51 I J) (mSet (wJ (iw1_51 I J)) 68 5 (J 3 5))
def iw1_53 (I : rI0) (J : rJ0) : mW := wsJ (iw1_52 I J) (mSet (wJ (iw1_52 I J)) 68 6 (J 3 6))
set_option maxRecDepth 20000 in
set_option maxHeartbeats 4000000 in
theorem img_w1 {S : Nat × (Nat → Int32)} {d : Nat} {I : rI0} {J : rJ0} {Q : mO → mW → Prop} (h44 : I 4 4 = 0 ∨ I 4 4 = 1) (k : Q (some (some (.int (1 : Int32)))) (iw1_53 I J)) : wc S (d + 6) 137 [.ref 0, .int (1 : Int32)] (wv x0 I J) Q := by
  show wp S (d + 6) 137 0 [some (.ref 0), some (.int (1 : Int32))] [] (iw1_0 I J) Q
  refine wp_seg (C := gC137) (pc1 := 1) (Lo1 := [some (.ref 0), some (.int (1 : Int32))]) (st1' := [.int (1 : Int32)]) (w1 := (iw1_0 I J)) rfl 1 rfl ?_
  refine wp_if (c := .lt) (off := 8) rfl ⟨fun z => absurd z (by decide), fun _ => ?_⟩
  show wp S (d + 6) 137 4 [some (.ref 0), some (.int (1 : Int32))] [] (iw1_0 I J) _
  refine wp_seg (C := gC137) (pc1 := 6) (Lo1 := [some (.ref 0), some (.int (1 : Int32))]) (st1' := [.int (2 : Int32), .int (1 : Int32)]) (w1 := (iw1_0 I J)) rfl 2 rfl ?_
  refine wp_ic (c := .lt) (off := 5) rfl ⟨fun _ => ?_, fun z => absurd (by decide) z⟩
  show wp S (d + 6) 137 11 [some (.ref 0), some (.int (1 : Int32))] [] (iw1_0 I J) _
  refine wp_seg (C := gC137) (pc1 := 17) (Lo1 := [some (.ref 0), some (.int (1 : Int32))]) (st1' := [.null]) (w1 := (iw1_0 I J)) rfl 4 rfl ?_
  refine wp_nl (off := 16) rfl ?_
  show wp S (d + 6) 137 20 [some (.ref 0), some (.int (1 : Int32))] [] (iw1_0 I J) _
  refine wp_seg (C := gC137) (pc1 := 28) (Lo1 := [some (.ref 0), some (.int (1 : Int32))]) (st1' := [.ref 68, .int (1 : Int32), .ref 27]) (w1 := (iw1_1 I J)) rfl 4 rfl ?_
  refine wp_seg (C := gC137) (pc1 := 29) (Lo1 := [some (.ref 0), some (.int (1 : Int32))]) (st1' := [.ref 68, .ref 68, .int (1 : Int32), .ref 27]) (w1 := (iw1_1 I J)) rfl 1 rfl ?_
  refine wp_ci (mj := 13) (nn := 1) (a := 68) (as := []) (r := [.ref 68, .int (1 : Int32), .ref 27]) rfl rfl rfl ⟨rfl, by decide, by decide, by decide⟩ ?_
  show wp S (d + 5) 13 0 [some (.ref 68)] [] (iw1_1 I J) _
  refine wp_seg (C := gC13) (pc1 := 8) (Lo1 := [some (.ref 68)]) (st1' := [.ref 69, .ref 68]) (w1 := (iw1_2 I J)) rfl 4 rfl ?_
  refine wp_seg (C := gC13) (pc1 := 9) (Lo1 := [some (.ref 68)]) (st1' := [.ref 69, .ref 69, .ref 68]) (w1 := (iw1_2 I J)) rfl 1 rfl ?_
  refine wp_ci (mj := 20) (nn := 0) (a := 69) (as := []) (r := [.ref 69, .ref 68]) rfl rfl rfl ⟨rfl, by decide, by decide, by decide⟩ ?_
  show wp S (d + 4) 20 0 [some (.ref 69)] [] (iw1_2 I J) _
  refine wp_seg (C := gC20) (pc1 := 9) (Lo1 := [some (.ref 69)]) (st1' := [.ref 70, .ref 69]) (w1 := (iw1_3 I J)) rfl 5 rfl ?_
  refine wp_seg (C := gC20) (pc1 := 12) (Lo1 := [some (.ref 69)]) (st1' := []) (w1 := (iw1_4 I J)) rfl 1 rfl ?_
  refine wp_seg (C := gC20) (pc1 := 17) (Lo1 := [some (.ref 69)]) (st1' := [.ref 71, .ref 69]) (w1 := (iw1_5 I J)) rfl 3 rfl ?_
  refine wp_seg (C := gC20) (pc1 := 20) (Lo1 := [some (.ref 69)]) (st1' := []) (w1 := (iw1_6 I J)) rfl 1 rfl ?_
  refine wp_seg (C := gC20) (pc1 := 25) (Lo1 := [some (.ref 69)]) (st1' := [.ref 72, .ref 69]) (w1 := (iw1_7 I J)) rfl 3 rfl ?_
  refine wp_seg (C := gC20) (pc1 := 28) (Lo1 := [some (.ref 69)]) (st1' := []) (w1 := (iw1_8 I J)) rfl 1 rfl ?_
  refine wp_seg (C := gC20) (pc1 := 33) (Lo1 := [some (.ref 69)]) (st1' := [.ref 73, .ref 69]) (w1 := (iw1_9 I J)) rfl 3 rfl ?_
  refine wp_seg (C := gC20) (pc1 := 36) (Lo1 := [some (.ref 69)]) (st1' := []) (w1 := (iw1_10 I J)) rfl 1 rfl ?_
  refine wp_seg (C := gC20) (pc1 := 41) (Lo1 := [some (.ref 69)]) (st1' := [.ref 74, .ref 69]) (w1 := (iw1_11 I J)) rfl 3 rfl ?_
  refine wp_seg (C := gC20) (pc1 := 44) (Lo1 := [some (.ref 69)]) (st1' := []) (w1 := (iw1_12 I J)) rfl 1 rfl ?_
  refine wp_seg (C := gC20) (pc1 := 50) (Lo1 := [some (.ref 69)]) (st1' := [.ref 75, .ref 69]) (w1 := (iw1_13 I J)) rfl 3 rfl ?_
  refine wp_seg (C := gC20) (pc1 := 53) (Lo1 := [some (.ref 69)]) (st1' := []) (w1 := (iw1_14 I J)) rfl 1 rfl ?_
  refine wp_seg (C := gC20) (pc1 := 59) (Lo1 := [some (.ref 69)]) (st1' := [.ref 76, .ref 69]) (w1 := (iw1_15 I J)) rfl 3 rfl ?_
  refine wp_seg (C := gC20) (pc1 := 62) (Lo1 := [some (.ref 69)]) (st1' := []) (w1 := (iw1_16 I J)) rfl 1 rfl ?_
  refine wp_seg (C := gC20) (pc1 := 63) (Lo1 := [some (.ref 69)]) (st1' := [.ref 69]) (w1 := (iw1_16 I J)) rfl 1 rfl ?_
  refine wp_cv (mj := 21) (a := 69) (as := []) (r := []) rfl rfl rfl ⟨rfl, by decide, by decide, by decide⟩ rfl ?_
  show wp S (d + 3) 21 0 [some (.ref 69)] [] (iw1_16 I J) _
  refine wp_seg (C := gC21) (pc1 := 5) (Lo1 := [some (.ref 69)]) (st1' := []) (w1 := (iw1_17 I J)) rfl 3 rfl ?_
  refine wp_seg (C := gC21) (pc1 := 10) (Lo1 := [some (.ref 69)]) (st1' := []) (w1 := (iw1_18 I J)) rfl 3 rfl ?_
  refine wp_seg (C := gC21) (pc1 := 15) (Lo1 := [some (.ref 69)]) (st1' := []) (w1 := (iw1_19 I J)) rfl 3 rfl ?_
  refine wp_seg (C := gC21) (pc1 := 22) (Lo1 := [some (.ref 69)]) (st1' := []) (w1 := (iw1_20 I J)) rfl 3 rfl ?_
  refine wp_seg (C := gC21) (pc1 := 27) (Lo1 := [some (.ref 69)]) (st1' := []) (w1 := (iw1_21 I J)) rfl 3 rfl ?_
  refine wp_seg (C := gC21) (pc1 := 32) (Lo1 := [some (.ref 69)]) (st1' := []) (w1 := (iw1_22 I J)) rfl 3 rfl ?_
  refine wp_seg (C := gC21) (pc1 := 37) (Lo1 := [some (.ref 69)]) (st1' := [.long (0 : Int64), .ref 71]) (w1 := (iw1_22 I J)) rfl 3 rfl ?_
  refine wp_cs (mj := 251) (nn := 0) (as := [.ref 71, .long (0 : Int64)]) (r := []) rfl rfl rfl ⟨rfl, by decide, by decide, by decide⟩ (by decide) ?_
  refine fillJ (n := 6) rfl (by decide) ⟨none, rfl, ?_⟩
  show wp S (d + 3) 21 40 [some (.ref 69)] [] (iw1_23 I J) _
  refine wp_seg (C := gC21) (pc1 := 46) (Lo1 := [some (.ref 69)]) (st1' := [.int (10 : Int32), .ref 72]) (w1 := (iw1_23 I J)) rfl 3 rfl ?_
  refine wp_cs (mj := 252) (nn := 0) (as := [.ref 72, .int (10 : Int32)]) (r := []) rfl rfl rfl ⟨rfl, by decide, by decide, by decide⟩ (by decide) ?_
  refine fillI (n := 8) rfl (by decide) ⟨none, rfl, ?_⟩
  show wp S (d + 3) 21 49 [some (.ref 69)] [] (iw1_24 I J) _
  refine wp_seg (C := gC21) (pc1 := 54) (Lo1 := [some (.ref 69)]) (st1' := [.int (-1 : Int32), .ref 73]) (w1 := (iw1_24 I J)) rfl 3 rfl ?_
  refine wp_cs (mj := 252) (nn := 0) (as := [.ref 73, .int (-1 : Int32)]) (r := []) rfl rfl rfl ⟨rfl, by decide, by decide, by decide⟩ (by decide) ?_
  refine fillI (n := 8) rfl (by decide) ⟨none, rfl, ?_⟩
  show wp S (d + 3) 21 57 [some (.ref 69)] [] (iw1_25 I J) _
  refine wp_seg (C := gC21) (pc1 := 62) (Lo1 := [some (.ref 69)]) (st1' := [.int (-1 : Int32), .ref 74]) (w1 := (iw1_25 I J)) rfl 3 rfl ?_
  refine wp_cs (mj := 252) (nn := 0) (as := [.ref 74, .int (-1 : Int32)]) (r := []) rfl rfl rfl ⟨rfl, by decide, by decide, by decide⟩ (by decide) ?_
  refine fillI (n := 12) rfl (by decide) ⟨none, rfl, ?_⟩
  show wp S (d + 3) 21 65 [some (.ref 69)] [] (iw1_26 I J) _
  refine wp_vret (mi := 21) (pc := 65) rfl rfl ?_
  refine ⟨none, rfl, ?_⟩
  show wp S (d + 4) 20 66 [some (.ref 69)] [] (iw1_26 I J) _
  refine wp_vret (mi := 20) (pc := 66) rfl rfl ?_
  refine ⟨rfl, ?_⟩
  show wp S (d + 5) 13 12 [some (.ref 68)] [.ref 69, .ref 68] (iw1_26 I J) _
  refine wp_seg (C := gC13) (pc1 := 15) (Lo1 := [some (.ref 68)]) (st1' := []) (w1 := (iw1_27 I J)) rfl 1 rfl ?_
  refine wp_seg (C := gC13) (pc1 := 20) (Lo1 := [some (.ref 68)]) (st1' := [.ref 77, .ref 68]) (w1 := (iw1_28 I J)) rfl 3 rfl ?_
  refine wp_seg (C := gC13) (pc1 := 23) (Lo1 := [some (.ref 68)]) (st1' := []) (w1 := (iw1_29 I J)) rfl 1 rfl ?_
  refine wp_seg (C := gC13) (pc1 := 28) (Lo1 := [some (.ref 68)]) (st1' := [.ref 78, .ref 68]) (w1 := (iw1_30 I J)) rfl 3 rfl ?_
  refine wp_seg (C := gC13) (pc1 := 31) (Lo1 := [some (.ref 68)]) (st1' := []) (w1 := (iw1_31 I J)) rfl 1 rfl ?_
  refine wp_seg (C := gC13) (pc1 := 36) (Lo1 := [some (.ref 68)]) (st1' := [.ref 79, .ref 68]) (w1 := (iw1_32 I J)) rfl 3 rfl ?_
  refine wp_seg (C := gC13) (pc1 := 39) (Lo1 := [some (.ref 68)]) (st1' := []) (w1 := (iw1_33 I J)) rfl 1 rfl ?_
  refine wp_vret (mi := 13) (pc := 39) rfl rfl ?_
  refine ⟨rfl, ?_⟩
  show wp S (d + 6) 137 32 [some (.ref 0), some (.int (1 : Int32))] [.ref 68, .int (1 : Int32), .ref 27] (iw1_33 I J) _
  refine wp_seg (C := gC137) (pc1 := 33) (Lo1 := [some (.ref 0), some (.int (1 : Int32))]) (st1' := []) (w1 := (iw1_34 I J)) rfl 1 rfl ?_
  refine wp_seg (C := gC137) (pc1 := 43) (Lo1 := [some (.ref 0), some (.int (1 : Int32))]) (st1' := [.ref 3, .ref 68]) (w1 := (iw1_34 I J)) rfl 6 rfl ?_
  refine wp_cv (mj := 15) (a := 68) (as := [.ref 3]) (r := []) rfl rfl rfl ⟨rfl, by decide, by decide, by decide⟩ rfl ?_
  show wp S (d + 5) 15 0 [some (.ref 68), some (.ref 3)] [] (iw1_34 I J) _
  refine wp_seg (C := gC15) (pc1 := 8) (Lo1 := [some (.ref 68), some (.ref 3)]) (st1' := [.ref 4, .ref 69]) (w1 := (iw1_34 I J)) rfl 4 rfl ?_
  refine wp_cv (mj := 22) (a := 69) (as := [.ref 4]) (r := []) rfl rfl rfl ⟨rfl, by decide, by decide, by decide⟩ rfl ?_
  show wp S (d + 4) 22 0 [some (.ref 69), some (.ref 4)] [] (iw1_34 I J) _
  refine wp_seg (C := gC22) (pc1 := 8) (Lo1 := [some (.ref 69), some (.ref 4)]) (st1' := []) (w1 := (iw1_35 I J)) rfl 4 rfl ?_
  refine wp_seg (C := gC22) (pc1 := 16) (Lo1 := [some (.ref 69), some (.ref 4)]) (st1' := []) (w1 := (iw1_36 I J)) rfl 4 rfl ?_
  refine wp_seg (C := gC22) (pc1 := 24) (Lo1 := [some (.ref 69), some (.ref 4)]) (st1' := []) (w1 := (iw1_37 I J)) rfl 4 rfl ?_
  refine wp_seg (C := gC22) (pc1 := 32) (Lo1 := [some (.ref 69), some (.ref 4)]) (st1' := []) (w1 := (iw1_38 I J)) rfl 4 rfl ?_
  refine wp_seg (C := gC22) (pc1 := 37) (Lo1 := [some (.ref 69), some (.ref 4)]) (st1' := [.int (I 4 4), .ref 69]) (w1 := (iw1_38 I J)) rfl 3 rfl ?_
  refine gw_putz (a := 69) (ci := 3) (k := 4) rfl rfl rfl ⟨rfl, rfl⟩ h44 ?_
  show wp S (d + 4) 22 40 [some (.ref 69), some (.ref 4)] [] (iw1_39 I J) _
  refine wp_seg (C := gC22) (pc1 := 48) (Lo1 := [some (.ref 69), some (.ref 4)]) (st1' := []) (w1 := (iw1_40 I J)) rfl 4 rfl ?_
  refine wp_seg (C := gC22) (pc1 := 60) (Lo1 := [some (.ref 69), some (.ref 4)]) (st1' := [.int (64 : Int32), .int (0 : Int32), .ref 70, .int (0 : Int32), .ref 5]) (w1 := (iw1_40 I J)) rfl 7 rfl ?_
  refine gw_cpI (n0 := 64) (n1 := 64) rfl rfl rfl rfl (by decide) (by decide) ?_
  show wp S (d + 4) 22 63 [some (.ref 69), some (.ref 4)] [] (iw1_41 I J) _
  refine wp_seg (C := gC22) (pc1 := 75) (Lo1 := [some (.ref 69), some (.ref 4)]) (st1' := [.int (6 : Int32), .int (0 : Int32), .ref 71, .int (0 : Int32), .ref 6]) (w1 := (iw1_41 I J)) rfl 7 rfl ?_
  refine gw_cpJ (n0 := 6) (n1 := 6) rfl rfl rfl rfl (by decide) (by decide) ?_
  show wp S (d + 4) 22 78 [some (.ref 69), some (.ref 4)] [] (iw1_42 I J) _
  refine wp_seg (C := gC22) (pc1 := 90) (Lo1 := [some (.ref 69), some (.ref 4)]) (st1' := [.int (8 : Int32), .int (0 : Int32), .ref 72, .int (0 : Int32), .ref 7]) (w1 := (iw1_42 I J)) rfl 7 rfl ?_
  refine gw_cpI (n0 := 8) (n1 := 8) rfl rfl rfl rfl (by decide) (by decide) ?_
  show wp S (d + 4) 22 93 [some (.ref 69), some (.ref 4)] [] (iw1_43 I J) _
  refine wp_seg (C := gC22) (pc1 := 105) (Lo1 := [some (.ref 69), some (.ref 4)]) (st1' := [.int (8 : Int32), .int (0 : Int32), .ref 73, .int (0 : Int32), .ref 8]) (w1 := (iw1_43 I J)) rfl 7 rfl ?_
  refine gw_cpI (n0 := 8) (n1 := 8) rfl rfl rfl rfl (by decide) (by decide) ?_
  show wp S (d + 4) 22 108 [some (.ref 69), some (.ref 4)] [] (iw1_44 I J) _
  refine wp_seg (C := gC22) (pc1 := 120) (Lo1 := [some (.ref 69), some (.ref 4)]) (st1' := [.int (12 : Int32), .int (0 : Int32), .ref 74, .int (0 : Int32), .ref 9]) (w1 := (iw1_44 I J)) rfl 7 rfl ?_
  refine gw_cpI (n0 := 12) (n1 := 12) rfl rfl rfl rfl (by decide) (by decide) ?_
  show wp S (d + 4) 22 123 [some (.ref 69), some (.ref 4)] [] (iw1_45 I J) _
  refine wp_seg (C := gC22) (pc1 := 136) (Lo1 := [some (.ref 69), some (.ref 4)]) (st1' := [.int (240 : Int32), .int (0 : Int32), .ref 75, .int (0 : Int32), .ref 10]) (w1 := (iw1_45 I J)) rfl 7 rfl ?_
  refine gw_cpI (n0 := 240) (n1 := 240) rfl rfl rfl rfl (by decide) (by decide) ?_
  show wp S (d + 4) 22 139 [some (.ref 69), some (.ref 4)] [] (iw1_46 I J) _
  refine wp_seg (C := gC22) (pc1 := 152) (Lo1 := [some (.ref 69), some (.ref 4)]) (st1' := [.int (384 : Int32), .int (0 : Int32), .ref 76, .int (0 : Int32), .ref 11]) (w1 := (iw1_46 I J)) rfl 7 rfl ?_
  refine gw_cpJ (n0 := 384) (n1 := 384) rfl rfl rfl rfl (by decide) (by decide) ?_
  show wp S (d + 4) 22 155 [some (.ref 69), some (.ref 4)] [] (iw1_47 I J) _
  refine wp_vret (mi := 22) (pc := 155) rfl rfl ?_
  refine ⟨none, rfl, ?_⟩
  show wp S (d + 5) 15 11 [some (.ref 68), some (.ref 3)] [] (iw1_47 I J) _
  refine wp_seg (C := gC15) (pc1 := 13) (Lo1 := [some (.ref 68), some (.ref 3)]) (st1' := [.ref 3, .ref 68]) (w1 := (iw1_47 I J)) rfl 2 rfl ?_
  refine wp_cv (mj := 16) (a := 68) (as := [.ref 3]) (r := []) rfl rfl rfl ⟨rfl, by decide, by decide, by decide⟩ rfl ?_
  show wp S (d + 4) 16 0 [some (.ref 68), some (.ref 3)] [] (iw1_47 I J) _
  refine wp_seg (C := gC16) (pc1 := 8) (Lo1 := [some (.ref 68), some (.ref 3)]) (st1' := []) (w1 := (iw1_48 I J)) rfl 4 rfl ?_
  refine wp_seg (C := gC16) (pc1 := 20) (Lo1 := [some (.ref 68), some (.ref 3)]) (st1' := [.int (30 : Int32), .int (0 : Int32), .ref 77, .int (0 : Int32), .ref 12]) (w1 := (iw1_48 I J)) rfl 7 rfl ?_
  refine gw_cpI (n0 := 30) (n1 := 30) rfl rfl rfl rfl (by decide) (by decide) ?_
  show wp S (d + 4) 16 23 [some (.ref 68), some (.ref 3)] [] (iw1_49 I J) _
  refine wp_seg (C := gC16) (pc1 := 35) (Lo1 := [some (.ref 68), some (.ref 3)]) (st1' := [.int (30 : Int32), .int (0 : Int32), .ref 78, .int (0 : Int32), .ref 13]) (w1 := (iw1_49 I J)) rfl 7 rfl ?_
  refine gw_cpI (n0 := 30) (n1 := 30) rfl rfl rfl rfl (by decide) (by decide) ?_
  show wp S (d + 4) 16 38 [some (.ref 68), some (.ref 3)] [] (iw1_50 I J) _
  refine wp_seg (C := gC16) (pc1 := 50) (Lo1 := [some (.ref 68), some (.ref 3)]) (st1' := [.int (30 : Int32), .int (0 : Int32), .ref 79, .int (0 : Int32), .ref 14]) (w1 := (iw1_50 I J)) rfl 7 rfl ?_
  refine gw_cpI (n0 := 30) (n1 := 30) rfl rfl rfl rfl (by decide) (by decide) ?_
  show wp S (d + 4) 16 53 [some (.ref 68), some (.ref 3)] [] (iw1_51 I J) _
  refine wp_vret (mi := 16) (pc := 53) rfl rfl ?_
  refine ⟨none, rfl, ?_⟩
  show wp S (d + 5) 15 16 [some (.ref 68), some (.ref 3)] [] (iw1_51 I J) _
  refine wp_seg (C := gC15) (pc1 := 24) (Lo1 := [some (.ref 68), some (.ref 3)]) (st1' := []) (w1 := (iw1_52 I J)) rfl 4 rfl ?_
  refine wp_seg (C := gC15) (pc1 := 32) (Lo1 := [some (.ref 68), some (.ref 3)]) (st1' := []) (w1 := (iw1_53 I J)) rfl 4 rfl ?_
  refine wp_vret (mi := 15) (pc := 32) rfl rfl ?_
  refine ⟨none, rfl, ?_⟩
  show wp S (d + 6) 137 46 [some (.ref 0), some (.int (1 : Int32))] [] (iw1_53 I J) _
  refine wp_seg (C := gC137) (pc1 := 47) (Lo1 := [some (.ref 0), some (.int (1 : Int32))]) (st1' := [.int (1 : Int32)]) (w1 := (iw1_53 I J)) rfl 1 rfl ?_
  refine wp_iret (mi := 137) (pc := 47) rfl (Or.inr ⟨rfl, Or.inr rfl⟩) ?_
  exact k
theorem iw1_k0 {I : rI0} {J : rJ0} : KD (iw1_0 I J) kq0 := rfl
def iw1_q1 : Nat → Nat → Option Nat := va_up kq0 68 (fun _ => none)
theorem iw1_k1 {I : rI0} {J : rJ0} : KD (iw1_1 I J) iw1_q1 := KD_new iw1_k0 rfl (by decide)
def iw1_q2 : Nat → Nat → Option Nat := va_up iw1_q1 69 (fun _ => none)
theorem iw1_k2 {I : rI0} {J : rJ0} : KD (iw1_2 I J) iw1_q2 := KD_new iw1_k1 rfl (by decide)
def iw1_q3 : Nat → Nat → Option Nat := va_up iw1_q2 70 (fun _ => none)
theorem iw1_k3 {I : rI0} {J : rJ0} : KD (iw1_3 I J) iw1_q3 := KD_new iw1_k2 rfl (by decide)
def iw1_q4 : Nat → Nat → Option Nat := mSet iw1_q3 69 6 (some 70)
theorem iw1_k4 {I : rI0} {J : rJ0} : KD (iw1_4 I J) iw1_q4 := KD_R iw1_k3 (by decide)
def iw1_q5 : Nat → Nat → Option Nat := va_up iw1_q4 71 (fun _ => none)
theorem iw1_k5 {I : rI0} {J : rJ0} : KD (iw1_5 I J) iw1_q5 := KD_new iw1_k4 rfl (by decide)
def iw1_q6 : Nat → Nat → Option Nat := mSet iw1_q5 69 7 (some 71)
theorem iw1_k6 {I : rI0} {J : rJ0} : KD (iw1_6 I J) iw1_q6 := KD_R iw1_k5 (by decide)
def iw1_q7 : Nat → Nat → Option Nat := va_up iw1_q6 72 (fun _ => none)
theorem iw1_k7 {I : rI0} {J : rJ0} : KD (iw1_7 I J) iw1_q7 := KD_new iw1_k6 rfl (by decide)
def iw1_q8 : Nat → Nat → Option Nat := mSet iw1_q7 69 8 (some 72)
theorem iw1_k8 {I : rI0} {J : rJ0} : KD (iw1_8 I J) iw1_q8 := KD_R iw1_k7 (by decide)
def iw1_q9 : Nat → Nat → Option Nat := va_up iw1_q8 73 (fun _ => none)
theorem iw1_k9 {I : rI0} {J : rJ0} : KD (iw1_9 I J) iw1_q9 := KD_new iw1_k8 rfl (by decide)
def iw1_q10 : Nat → Nat → Option Nat := mSet iw1_q9 69 9 (some 73)
theorem iw1_k10 {I : rI0} {J : rJ0} : KD (iw1_10 I J) iw1_q10 := KD_R iw1_k9 (by decide)
def iw1_q11 : Nat → Nat → Option Nat := va_up iw1_q10 74 (fun _ => none)
theorem iw1_k11 {I : rI0} {J : rJ0} : KD (iw1_11 I J) iw1_q11 := KD_new iw1_k10 rfl (by decide)
def iw1_q12 : Nat → Nat → Option Nat := mSet iw1_q11 69 10 (some 74)
theorem iw1_k12 {I : rI0} {J : rJ0} : KD (iw1_12 I J) iw1_q12 := KD_R iw1_k11 (by decide)
def iw1_q13 : Nat → Nat → Option Nat := va_up iw1_q12 75 (fun _ => none)
theorem iw1_k13 {I : rI0} {J : rJ0} : KD (iw1_13 I J) iw1_q13 := KD_new iw1_k12 rfl (by decide)
def iw1_q14 : Nat → Nat → Option Nat := mSet iw1_q13 69 11 (some 75)
theorem iw1_k14 {I : rI0} {J : rJ0} : KD (iw1_14 I J) iw1_q14 := KD_R iw1_k13 (by decide)
def iw1_q15 : Nat → Nat → Option Nat := va_up iw1_q14 76 (fun _ => none)
theorem iw1_k15 {I : rI0} {J : rJ0} : KD (iw1_15 I J) iw1_q15 := KD_new iw1_k14 rfl (by decide)
def iw1_q16 : Nat → Nat → Option Nat := mSet iw1_q15 69 12 (some 76)
theorem iw1_k16 {I : rI0} {J : rJ0} : KD (iw1_16 I J) iw1_q16 := KD_R iw1_k15 (by decide)
theorem iw1_k17 {I : rI0} {J : rJ0} : KD (iw1_17 I J) iw1_q16 := KD_I iw1_k16
theorem iw1_k18 {I : rI0} {J : rJ0} : KD (iw1_18 I J) iw1_q16 := KD_I iw1_k17
theorem iw1_k19 {I : rI0} {J : rJ0} : KD (iw1_19 I J) iw1_q16 := KD_I iw1_k18
theorem iw1_k20 {I : rI0} {J : rJ0} : KD (iw1_20 I J) iw1_q16 := KD_I iw1_k19
theorem iw1_k21 {I : rI0} {J : rJ0} : KD (iw1_21 I J) iw1_q16 := KD_I iw1_k20
theorem iw1_k22 {I : rI0} {J : rJ0} : KD (iw1_22 I J) iw1_q16 := KD_J iw1_k21
theorem iw1_k23 {I : rI0} {J : rJ0} : KD (iw1_23 I J) iw1_q16 := KD_J iw1_k22
theorem iw1_k24 {I : rI0} {J : rJ0} : KD (iw1_24 I J) iw1_q16 := KD_I iw1_k23
theorem iw1_k25 {I : rI0} {J : rJ0} : KD (iw1_25 I J) iw1_q16 := KD_I iw1_k24
theorem iw1_k26 {I : rI0} {J : rJ0} : KD (iw1_26 I J) iw1_q16 := KD_I iw1_k25
def iw1_q27 : Nat → Nat → Option Nat := mSet iw1_q16 68 0 (some 69)
theorem iw1_k27 {I : rI0} {J : rJ0} : KD (iw1_27 I J) iw1_q27 := KD_R iw1_k26 (by decide)
def iw1_q28 : Nat → Nat → Option Nat := va_up iw1_q27 77 (fun _ => none)
theorem iw1_k28 {I : rI0} {J : rJ0} : KD (iw1_28 I J) iw1_q28 := KD_new iw1_k27 rfl (by decide)
def iw1_q29 : Nat → Nat → Option Nat := mSet iw1_q28 68 1 (some 77)
theorem iw1_k29 {I : rI0} {J : rJ0} : KD (iw1_29 I J) iw1_q29 := KD_R iw1_k28 (by decide)
def iw1_q30 : Nat → Nat → Option Nat := va_up iw1_q29 78 (fun _ => none)
theorem iw1_k30 {I : rI0} {J : rJ0} : KD (iw1_30 I J) iw1_q30 := KD_new iw1_k29 rfl (by decide)
def iw1_q31 : Nat → Nat → Option Nat := mSet iw1_q30 68 2 (some 78)
theorem iw1_k31 {I : rI0} {J : rJ0} : KD (iw1_31 I J) iw1_q31 := KD_R iw1_k30 (by decide)
def iw1_q32 : Nat → Nat → Option Nat := va_up iw1_q31 79 (fun _ => none)
theorem iw1_k32 {I : rI0} {J : rJ0} : KD (iw1_32 I J) iw1_q32 := KD_new iw1_k31 rfl (by decide)
def iw1_q33 : Nat → Nat → Option Nat := mSet iw1_q32 68 3 (some 79)
theorem iw1_k33 {I : rI0} {J : rJ0} : KD (iw1_33 I J) iw1_q33 := KD_R iw1_k32 (by decide)
def iw1_q34 : Nat → Nat → Option Nat := mSet iw1_q33 27 1 (some 68)
theorem iw1_k34 {I : rI0} {J : rJ0} : KD (iw1_34 I J) iw1_q34 := KD_R iw1_k33 (by decide)
theorem iw1_k35 {I : rI0} {J : rJ0} : KD (iw1_35 I J) iw1_q34 := KD_I iw1_k34
theorem iw1_k36 {I : rI0} {J : rJ0} : KD (iw1_36 I J) iw1_q34 := KD_I iw1_k35
theorem iw1_k37 {I : rI0} {J : rJ0} : KD (iw1_37 I J) iw1_q34 := KD_I iw1_k36
theorem iw1_k38 {I : rI0} {J : rJ0} : KD (iw1_38 I J) iw1_q34 := KD_I iw1_k37
theorem iw1_k39 {I : rI0} {J : rJ0} : KD (iw1_39 I J) iw1_q34 := KD_I iw1_k38
theorem iw1_k40 {I : rI0} {J : rJ0} : KD (iw1_40 I J) iw1_q34 := KD_J iw1_k39
theorem iw1_k41 {I : rI0} {J : rJ0} : KD (iw1_41 I J) iw1_q34 := KD_I iw1_k40
theorem iw1_k42 {I : rI0} {J : rJ0} : KD (iw1_42 I J) iw1_q34 := KD_J iw1_k41
theorem iw1_k43 {I : rI0} {J : rJ0} : KD (iw1_43 I J) iw1_q34 := KD_I iw1_k42
theorem iw1_k44 {I : rI0} {J : rJ0} : KD (iw1_44 I J) iw1_q34 := KD_I iw1_k43
theorem iw1_k45 {I : rI0} {J : rJ0} : KD (iw1_45 I J) iw1_q34 := KD_I iw1_k44
theorem iw1_k46 {I : rI0} {J : rJ0} : KD (iw1_46 I J) iw1_q34 := KD_I iw1_k45
theorem iw1_k47 {I : rI0} {J : rJ0} : KD (iw1_47 I J) iw1_q34 := KD_J iw1_k46
theorem iw1_k48 {I : rI0} {J : rJ0} : KD (iw1_48 I J) iw1_q34 := KD_I iw1_k47
theorem iw1_k49 {I : rI0} {J : rJ0} : KD (iw1_49 I J) iw1_q34 := KD_I iw1_k48
theorem iw1_k50 {I : rI0} {J : rJ0} : KD (iw1_50 I J) iw1_q34 := KD_I iw1_k49
theorem iw1_k51 {I : rI0} {J : rJ0} : KD (iw1_51 I J) iw1_q34 := KD_I iw1_k50
theorem iw1_k52 {I : rI0} {J : rJ0} : KD (iw1_52 I J) iw1_q34 := KD_J iw1_k51
theorem iw1_k53 {I : rI0} {J : rJ0} : KD (iw1_53 I J) iw1_q34 := KD_J iw1_k52
def iw1_x : mX := ([(0, 2), (0, 3), (1, 64), (4, 6), (1, 8), (1, 8), (1, 12), (1, 240), (4, 384), (1, 30), (1, 30), (1, 30)], iw1_q34, 80, 13801)
theorem iw1_wv {I : rI0} {J : rJ0} : iw1_53 I J = wv iw1_x (wI (iw1_53 I J)) (wJ (iw1_53 I J)) := by
  have hR : (iw1_53 I J).2.2.2.1 = RRk iw1_q34 := iw1_k53
  have hS : (iw1_53 I J).1 = SHL ++ [(0, 2), (0, 3), (1, 64), (4, 6), (1, 8), (1, 8), (1, 12), (1, 240), (4, 384), (1, 30), (1, 30), (1, 30)] := rfl
  have hC : (iw1_53 I J).2.2.2.2 = (80, 13801) := rfl
  show ((iw1_53 I J).1, (iw1_53 I J).2.1, (iw1_53 I J).2.2.1, (iw1_53 I J).2.2.2.1, (iw1_53 I J).2.2.2.2) = _
  rw [hS, hR, hC]
  rfl
theorem img_no {S : Nat × (Nat → Int32)} {d : Nat} {x : mX} {I : rI0} {J : rJ0} {p : Int32} {Q : mX → Int32 → rI0 → rJ0 → Prop} (h : p < 0 ∨ 1 < p) (k : Q x 0 I J) : wcX S d 137 [.ref 0, .int p] x I J Q := by
  show wp S d 137 0 [some (.ref 0), some (.int p)] [] (wv x I J) (rX Q)
  have fin : wp S d 137 9 [some (.ref 0), some (.int p)] [] (wv x I J) (rX Q) := by
    refine wp_seg (C := gC137) (pc1 := 10) (Lo1 := [some (.ref 0), some (.int p)]) (st1' := [.int (0 : Int32)]) (w1 := wv x I J) rfl 1 rfl ?_
    exact wp_iret (mi := 137) (pc := 10) rfl (Or.inr ⟨rfl, Or.inl rfl⟩) ⟨x, 0, I, J, rfl, rfl, k⟩
  refine wp_seg (C := gC137) (pc1 := 1) (Lo1 := [some (.ref 0), some (.int p)]) (st1' := [.int p]) (w1 := wv x I J) rfl 1 rfl ?_
  refine wp_if (c := .lt) (off := 8) rfl ⟨fun _ => fin, fun h0 => ?_⟩
  refine wp_seg (C := gC137) (pc1 := 6) (Lo1 := [some (.ref 0), some (.int p)]) (st1' := [.int (2 : Int32), .int p]) (w1 := wv x I J) rfl 2 rfl ?_
  refine wp_ic (c := .lt) (off := 5) rfl ⟨fun h2 => absurd h ?_, fun _ => fin⟩
  rintro (h1 | h1)
  · exact h0 h1
  · rw [Int32.lt_iff_toInt_lt] at h1 h2
    have e1 : (1 : Int32).toInt = 1 := by decide
    have e2 : (2 : Int32).toInt = 2 := by decide
    omega
theorem rst_no {S : Nat × (Nat → Int32)} {d : Nat} {I : rI0} {J : rJ0} {p : Int32} {Q : Int32 → rI0 → rJ0 → Prop} (k : Q 0 I J) : wcI S d 138 [.ref 0, .int p] x0 I J Q := by
  show wp S d 138 0 [some (.ref 0), some (.int p)] [] (wv x0 I J) (rI x0 Q)
  have fin : wp S d 138 18 [some (.ref 0), some (.int p)] [] (wv x0 I J) (rI x0 Q) := by
    refine wp_seg (C := gC138) (pc1 := 19) (Lo1 := [some (.ref 0), some (.int p)]) (st1' := [.int (0 : Int32)]) (w1 := wv x0 I J) rfl 1 rfl ?_
    exact wp_iret (mi := 138) (pc := 19) rfl (Or.inr ⟨rfl, Or.inl rfl⟩) ⟨0, I, J, rfl, rfl, k⟩
  refine wp_seg (C := gC138) (pc1 := 1) (Lo1 := [some (.ref 0), some (.int p)]) (st1' := [.int p]) (w1 := wv x0 I J) rfl 1 rfl ?_
  refine wp_if (c := .lt) (off := 17) rfl ⟨fun _ => fin, fun h0 => ?_⟩
  refine wp_seg (C := gC138) (pc1 := 6) (Lo1 := [some (.ref 0), some (.int p)]) (st1' := [.int (2 : Int32), .int p]) (w1 := wv x0 I J) rfl 2 rfl ?_
  refine wp_ic (c := .ge) (off := 12) rfl ⟨fun h2 => ?_, fun _ => fin⟩
  have h1 : ¬ nI 1 < p := by
    intro z
    rw [Int32.lt_iff_toInt_lt] at h2 z
    have e1 : (nI 1).toInt = 1 := by decide
    have e2 : (2 : Int32).toInt = 2 := by decide
    omega
  obtain ⟨t, ht, rfl⟩ := i_nat (n := 1) (by decide) h0 h1
  rcases (show t = 0 ∨ t = 1 by omega) with rfl | rfl
  · refine wp_seg (C := gC138) (pc1 := 15) (Lo1 := [some (.ref 0), some (.int (nI 0))]) (st1' := [.null]) (w1 := wv x0 I J) rfl 4 rfl ?_
    exact wp_nl (off := 5) rfl fin
  · refine wp_seg (C := gC138) (pc1 := 15) (Lo1 := [some (.ref 0), some (.int (nI 1))]) (st1' := [.null]) (w1 := wv x0 I J) rfl 4 rfl ?_
    exact wp_nl (off := 5) rfl fin
