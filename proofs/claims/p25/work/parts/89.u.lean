section GU0
variable {x : mX}
theorem xA_len {q : Nat × Nat} {m n : Nat} (h : 68 + x.1.length = n) : 68 + (xA x q m).1.length = n + 1 := by
  show 68 + (x.1 ++ [q]).length = _
  rw [List.length_append, List.length_singleton]
  omega
theorem xA_new {q : Nat × Nat} {m n : Nat} (h : 68 + x.1.length = n) : sh (xA x q m) n = some q := by
  show (SHL ++ (x.1 ++ [q]))[n]? = _
  rw [← List.append_assoc, List.getElem?_append_right (by rw [List.length_append, SHL_len]; omega), List.length_append, SHL_len, show n - (68 + x.1.length) = 0 by omega]
  rfl
theorem xA_old {q : Nat × Nat} {m n b : Nat} (h : 68 + x.1.length = n) (hb : b < n) : sh (xA x q m) b = sh x b := by
  show (SHL ++ (x.1 ++ [q]))[b]? = _
  rw [← List.append_assoc, List.getElem?_append_left (by rw [List.length_append, SHL_len]; omega)]
theorem RRk_b {kf kf' : Nat → Nat → Option Nat} {b : Nat} (h : kf' b = kf b) : RRk kf' b = RRk kf b := by
  unfold RRk
  rw [h]
theorem xA_kf {q : Nat × Nat} {m n b : Nat} (h : 68 + x.1.length = n) (hb : b < n) : (xA x q m).2.1 b = x.2.1 b := by
  show va_up x.2.1 (68 + x.1.length) (fun _ => none) b = _
  exact vu_ne (by omega)
theorem xA_rf {q : Nat × Nat} {m n b k : Nat} (h : 68 + x.1.length = n) (hb : b < n) : rf (xA x q m) b k = rf x b k := congrFun (RRk_b (xA_kf h hb)) k
theorem xR_at {a k b : Nat} (ha : 68 ≤ a) : rf (xR x a k b) a k = some b := by
  show RRk (mSet x.2.1 a k (some b)) a k = _
  rw [← RRk_mS (by rw [Bool.or_eq_true]; exact Or.inr (Nat.ble_eq_true_of_le ha)), mSet_at]
theorem xR_ne {a k b c j : Nat} (h : ¬ (c = a ∧ j = k)) (ha : (Nat.beq a 27 || Nat.ble 68 a) = true) : rf (xR x a k b) c j = rf x c j := by
  show RRk (mSet x.2.1 a k (some b)) c j = _
  rw [← RRk_mS ha, mSet_x h]
theorem xR_kf {a k b c : Nat} (h : c ≠ a) : (xR x a k b).2.1 c = x.2.1 c := mSet_ne h
theorem b68 {a : Nat} (ha : 68 ≤ a) : (Nat.beq a 27 || Nat.ble 68 a) = true := by rw [Bool.or_eq_true]; exact Or.inr (Nat.ble_eq_true_of_le ha)
theorem lenE {y : mX} {a : Nat} (h : 68 + x.1.length = a + 1) (h2 : 68 + y.1.length = a + 12) : y.1.length = x.1.length + 11 := by omega
theorem al {a i j : Nat} (h : i < j) : a + i < a + j := by omega
theorem al0 {a j : Nat} (h : 0 < j) : a < a + j := by omega
theorem nle {a b j : Nat} (hb : b ≤ a) (h : 0 < j) : b ≠ a + j := by omega
theorem lej {a b j : Nat} (hb : b ≤ a) (h : 0 < j) : b < a + j := by omega
theorem nltj {a b j : Nat} (hb : b < a) : b ≠ a + j := by omega
theorem nlt0 {a b : Nat} (hb : b < a) : b ≠ a := by omega
theorem ltj {a b j : Nat} (hb : b < a) : b < a + j := by omega
theorem aj {a j : Nat} (h : 68 ≤ a) : 68 ≤ a + j := by omega
theorem lmj {a j : Nat} (h : a + 20 < 1000000) (hj : j < 20) : a + j < 1000000 := by omega
theorem nij {a i j : Nat} (h : i ≠ j) : ¬ a + i = a + j := by omega
theorem ni0 {a j : Nat} (h : 0 < j) : ¬ a = a + j := by omega
theorem nj0 {a j : Nat} (h : 0 < j) : ¬ a + j = a := by omega
theorem cA {q : Nat × Nat} {m n0 z0 i z : Nat} (h : x.2.2.1 = n0 + i ∧ x.2.2.2 = z0 + z) : (xA x q m).2.2.1 = n0 + (i + 1) ∧ (xA x q m).2.2.2 = z0 + (z + m) := by
  show x.2.2.1 + 1 = _ ∧ x.2.2.2 + m = _
  omega
end GU0
section GU1
set_option maxRecDepth 20000 in
set_option maxHeartbeats 4000000 in
theorem evInit {S : Nat × (Nat → Int32)} {d a : Nat} {x : mX} {I : rI0} {J : rJ0} {Q : mO → mW → Prop} (ha : 68 + x.1.length = a + 1) (h68 : 68 ≤ a) (sa : sh x a = some (0, 2)) (hm : a + 20 < 1000000) (k : ∀ x' I' J', EvX x' a → x'.1.length = x.1.length + 11 → (∀ b, b ≤ a → sh x' b = sh x b) → (∀ b, b < a → x'.2.1 b = x.2.1 b) → (∀ b, b ≤ a → I' b = I b) → (∀ b, b ≤ a → J' b = J b) → (x'.2.2.1 = x.2.2.1 + 11 ∧ x'.2.2.2 ≤ x.2.2.2 + 1000) → Q (some none) (wv x' I' J')) : wc S (d + 3) 13 [.ref a] (wv x I J) Q := by
  have hl_x : 68 + x.1.length = a + 1 := ha
  have x_fS : ∀ b, b ≤ a → sh x b = sh x b := fun _ _ => rfl
  have x_fR : ∀ b, b < a → x.2.1 b = x.2.1 b := fun _ _ => rfl
  have x_c : x.2.2.1 = x.2.2.1 + 0 ∧ x.2.2.2 = x.2.2.2 + 0 := ⟨rfl, rfl⟩
  have fI : ∀ b, b ≤ a → I b = I b := fun _ _ => rfl
  have fJ : ∀ b, b ≤ a → J b = J b := fun _ _ => rfl
  show wp S (d + 3) 13 0 [some (.ref a)] [] (wv x I J) Q
  refine wp_seg (C := gC13) (pc1 := 4) (Lo1 := [some (.ref a)]) (st1' := []) (w1 := (wv x I J)) rfl 2 rfl ?_
  refine wp_seg (C := gC13) (pc1 := 5) (Lo1 := [some (.ref a)]) (st1' := [.ref a]) (w1 := (wv x I J)) rfl 1 rfl ?_
  refine wn_new (ci := 3) (n := 13) rfl rfl (by decide) rfl (by rw [hl_x]; exact lmj hm (by decide)) ?_
  rw [hl_x]
  obtain ⟨x1, ex1⟩ : ∃ z, z = xA x (0, 3) 13 := ⟨_, rfl⟩
  rw [← ex1]
  have hl_x1 : 68 + x1.1.length = a + 2 := by rw [ex1]; exact xA_len hl_x
  have x1_s0 : sh x1 a = some (0, 2) := by rw [ex1]; exact (xA_old hl_x (al0 (by decide))).trans sa
  have x1_s1 : sh x1 (a + 1) = some (0, 3) := by rw [ex1]; exact xA_new hl_x
  have x1_fS : ∀ b, b ≤ a → sh x1 b = sh x b := fun b hb => by rw [ex1]; exact (xA_old hl_x (lej hb (by decide))).trans (x_fS b hb)
  have x1_fR : ∀ b, b < a → x1.2.1 b = x.2.1 b := fun b hb => by rw [ex1]; exact (xA_kf hl_x (ltj hb)).trans (x_fR b hb)
  have x1_c : x1.2.2.1 = x.2.2.1 + 1 ∧ x1.2.2.2 = x.2.2.2 + 13 := by rw [ex1]; exact cA x_c
  obtain ⟨I1, eI1⟩ : ∃ z, z = va_up I (a + 1) (fun _ => 0) := ⟨_, rfl⟩
  rw [← eI1]
  have fI1 : ∀ b, b ≤ a → I1 b = I b := fun b hb => (show I1 b = I b by rw [eI1]; exact vu_ne (nle hb (by decide))).trans (fI b hb)
  obtain ⟨J1, eJ1⟩ : ∃ z, z = va_up J (a + 1) (fun _ => 0) := ⟨_, rfl⟩
  rw [← eJ1]
  have fJ1 : ∀ b, b ≤ a → J1 b = J b := fun b hb => (show J1 b = J b by rw [eJ1]; exact vu_ne (nle hb (by decide))).trans (fJ b hb)
  show wp S (d + 3) 13 8 [some (.ref a)] [.ref (a + 1), .ref a] (wv x1 I1 J1) _
  refine wp_seg (C := gC13) (pc1 := 9) (Lo1 := [some (.ref a)]) (st1' := [.ref (a + 1), .ref (a + 1), .ref a]) (w1 := (wv x1 I1 J1)) rfl 1 rfl ?_
  refine wp_ci (mj := 20) (nn := 0) (a := (a + 1)) (as := []) (r := [.ref (a + 1), .ref a]) rfl rfl rfl ⟨rfl, by decide, Nat.le_of_ble_eq_true rfl, Nat.le_of_ble_eq_true rfl⟩ ?_
  show wp S (d + 2) 20 0 [some (.ref (a + 1))] [] (wv x1 I1 J1) _
  refine wp_seg (C := gC20) (pc1 := 4) (Lo1 := [some (.ref (a + 1))]) (st1' := []) (w1 := (wv x1 I1 J1)) rfl 2 rfl ?_
  refine wp_seg (C := gC20) (pc1 := 7) (Lo1 := [some (.ref (a + 1))]) (st1' := [.int (64 : Int32), .ref (a + 1)]) (w1 := (wv x1 I1 J1)) rfl 2 rfl ?_
  refine wn_arr (q := 1) (c := 64) rfl ⟨by decide, by decide, by decide⟩ ⟨rfl, by decide⟩ (by rw [hl_x1]; exact lmj hm (by decide)) ?_
  rw [hl_x1]
  obtain ⟨x2, ex2⟩ : ∃ z, z = xA x1 (1, 64) 64 := ⟨_, rfl⟩
  rw [← ex2]
  have hl_x2 : 68 + x2.1.length = a + 3 := by rw [ex2]; exact xA_len hl_x1
  have x2_s0 : sh x2 a = some (0, 2) := by rw [ex2]; exact (xA_old hl_x1 (al0 (by decide))).trans x1_s0
  have x2_s1 : sh x2 (a + 1) = some (0, 3) := by rw [ex2]; exact (xA_old hl_x1 (al (by decide))).trans x1_s1
  have x2_s2 : sh x2 (a + 2) = some (1, 64) := by rw [ex2]; exact xA_new hl_x1
  have x2_fS : ∀ b, b ≤ a → sh x2 b = sh x b := fun b hb => by rw [ex2]; exact (xA_old hl_x1 (lej hb (by decide))).trans (x1_fS b hb)
  have x2_fR : ∀ b, b < a → x2.2.1 b = x.2.1 b := fun b hb => by rw [ex2]; exact (xA_kf hl_x1 (ltj hb)).trans (x1_fR b hb)
  have x2_c : x2.2.2.1 = x.2.2.1 + 2 ∧ x2.2.2.2 = x.2.2.2 + 77 := by rw [ex2]; exact cA x1_c
  obtain ⟨I2, eI2⟩ : ∃ z, z = va_up I1 (a + 2) (fun _ => 0) := ⟨_, rfl⟩
  rw [← eI2]
  have fI2 : ∀ b, b ≤ a → I2 b = I b := fun b hb => (show I2 b = I1 b by rw [eI2]; exact vu_ne (nle hb (by decide))).trans (fI1 b hb)
  obtain ⟨J2, eJ2⟩ : ∃ z, z = va_up J1 (a + 2) (fun _ => 0) := ⟨_, rfl⟩
  rw [← eJ2]
  have fJ2 : ∀ b, b ≤ a → J2 b = J b := fun b hb => (show J2 b = J1 b by rw [eJ2]; exact vu_ne (nle hb (by decide))).trans (fJ1 b hb)
  show wp S (d + 2) 20 9 [some (.ref (a + 1))] [.ref (a + 2), .ref (a + 1)] (wv x2 I2 J2) _
  refine wp_putr (ci := 3) (k := 6) rfl rfl x2_s1 ⟨rfl, rfl, rfl, rfl⟩ (aj h68) ?_
  obtain ⟨x3, ex3⟩ : ∃ z, z = xR x2 (a + 1) 6 (a + 2) := ⟨_, rfl⟩
  rw [← ex3]
  have hl_x3 : 68 + x3.1.length = a + 3 := by rw [ex3]; exact hl_x2
  have x3_s0 : sh x3 a = some (0, 2) := by rw [ex3]; exact x2_s0
  have x3_s1 : sh x3 (a + 1) = some (0, 3) := by rw [ex3]; exact x2_s1
  have x3_s2 : sh x3 (a + 2) = some (1, 64) := by rw [ex3]; exact x2_s2
  have x3_r1_6 : rf x3 (a + 1) 6 = some (a + 2) := by rw [ex3]; exact xR_at (aj h68)
  have x3_fS : ∀ b, b ≤ a → sh x3 b = sh x b := fun b hb => by rw [ex3]; exact x2_fS b hb
  have x3_fR : ∀ b, b < a → x3.2.1 b = x.2.1 b := fun b hb => by rw [ex3]; exact (xR_kf (nltj hb)).trans (x2_fR b hb)
  have x3_c : x3.2.2.1 = x.2.2.1 + 2 ∧ x3.2.2.2 = x.2.2.2 + 77 := by rw [ex3]; exact x2_c
  show wp S (d + 2) 20 12 [some (.ref (a + 1))] [] (wv x3 I2 J2) _
  refine wp_seg (C := gC20) (pc1 := 15) (Lo1 := [some (.ref (a + 1))]) (st1' := [.int (6 : Int32), .ref (a + 1)]) (w1 := (wv x3 I2 J2)) rfl 2 rfl ?_
  refine wn_arr (q := 4) (c := 6) rfl ⟨by decide, by decide, by decide⟩ ⟨rfl, by decide⟩ (by rw [hl_x3]; exact lmj hm (by decide)) ?_
  rw [hl_x3]
  obtain ⟨x4, ex4⟩ : ∃ z, z = xA x3 (4, 6) 6 := ⟨_, rfl⟩
  rw [← ex4]
  have hl_x4 : 68 + x4.1.length = a + 4 := by rw [ex4]; exact xA_len hl_x3
  have x4_s0 : sh x4 a = some (0, 2) := by rw [ex4]; exact (xA_old hl_x3 (al0 (by decide))).trans x3_s0
  have x4_s1 : sh x4 (a + 1) = some (0, 3) := by rw [ex4]; exact (xA_old hl_x3 (al (by decide))).trans x3_s1
  have x4_s2 : sh x4 (a + 2) = some (1, 64) := by rw [ex4]; exact (xA_old hl_x3 (al (by decide))).trans x3_s2
  have x4_s3 : sh x4 (a + 3) = some (4, 6) := by rw [ex4]; exact xA_new hl_x3
  have x4_r1_6 : rf x4 (a + 1) 6 = some (a + 2) := by rw [ex4]; exact (xA_rf hl_x3 (al (by decide))).trans x3_r1_6
  have x4_fS : ∀ b, b ≤ a → sh x4 b = sh x b := fun b hb => by rw [ex4]; exact (xA_old hl_x3 (lej hb (by decide))).trans (x3_fS b hb)
  have x4_fR : ∀ b, b < a → x4.2.1 b = x.2.1 b := fun b hb => by rw [ex4]; exact (xA_kf hl_x3 (ltj hb)).trans (x3_fR b hb)
  have x4_c : x4.2.2.1 = x.2.2.1 + 3 ∧ x4.2.2.2 = x.2.2.2 + 83 := by rw [ex4]; exact cA x3_c
  obtain ⟨I3, eI3⟩ : ∃ z, z = va_up I2 (a + 3) (fun _ => 0) := ⟨_, rfl⟩
  rw [← eI3]
  have fI3 : ∀ b, b ≤ a → I3 b = I b := fun b hb => (show I3 b = I2 b by rw [eI3]; exact vu_ne (nle hb (by decide))).trans (fI2 b hb)
  obtain ⟨J3, eJ3⟩ : ∃ z, z = va_up J2 (a + 3) (fun _ => 0) := ⟨_, rfl⟩
  rw [← eJ3]
  have fJ3 : ∀ b, b ≤ a → J3 b = J b := fun b hb => (show J3 b = J2 b by rw [eJ3]; exact vu_ne (nle hb (by decide))).trans (fJ2 b hb)
  show wp S (d + 2) 20 17 [some (.ref (a + 1))] [.ref (a + 3), .ref (a + 1)] (wv x4 I3 J3) _
  refine wp_putr (ci := 3) (k := 7) rfl rfl x4_s1 ⟨rfl, rfl, rfl, rfl⟩ (aj h68) ?_
  obtain ⟨x5, ex5⟩ : ∃ z, z = xR x4 (a + 1) 7 (a + 3) := ⟨_, rfl⟩
  rw [← ex5]
  have hl_x5 : 68 + x5.1.length = a + 4 := by rw [ex5]; exact hl_x4
  have x5_s0 : sh x5 a = some (0, 2) := by rw [ex5]; exact x4_s0
  have x5_s1 : sh x5 (a + 1) = some (0, 3) := by rw [ex5]; exact x4_s1
  have x5_s2 : sh x5 (a + 2) = some (1, 64) := by rw [ex5]; exact x4_s2
  have x5_s3 : sh x5 (a + 3) = some (4, 6) := by rw [ex5]; exact x4_s3
  have x5_r1_6 : rf x5 (a + 1) 6 = some (a + 2) := by rw [ex5]; exact (xR_ne (fun z => absurd z.2 (by decide)) (b68 (aj h68))).trans x4_r1_6
  have x5_r1_7 : rf x5 (a + 1) 7 = some (a + 3) := by rw [ex5]; exact xR_at (aj h68)
  have x5_fS : ∀ b, b ≤ a → sh x5 b = sh x b := fun b hb => by rw [ex5]; exact x4_fS b hb
  have x5_fR : ∀ b, b < a → x5.2.1 b = x.2.1 b := fun b hb => by rw [ex5]; exact (xR_kf (nltj hb)).trans (x4_fR b hb)
  have x5_c : x5.2.2.1 = x.2.2.1 + 3 ∧ x5.2.2.2 = x.2.2.2 + 83 := by rw [ex5]; exact x4_c
  show wp S (d + 2) 20 20 [some (.ref (a + 1))] [] (wv x5 I3 J3) _
  refine wp_seg (C := gC20) (pc1 := 23) (Lo1 := [some (.ref (a + 1))]) (st1' := [.int (8 : Int32), .ref (a + 1)]) (w1 := (wv x5 I3 J3)) rfl 2 rfl ?_
  refine wn_arr (q := 1) (c := 8) rfl ⟨by decide, by decide, by decide⟩ ⟨rfl, by decide⟩ (by rw [hl_x5]; exact lmj hm (by decide)) ?_
  rw [hl_x5]
  obtain ⟨x6, ex6⟩ : ∃ z, z = xA x5 (1, 8) 8 := ⟨_, rfl⟩
  rw [← ex6]
  have hl_x6 : 68 + x6.1.length = a + 5 := by rw [ex6]; exact xA_len hl_x5
  have x6_s0 : sh x6 a = some (0, 2) := by rw [ex6]; exact (xA_old hl_x5 (al0 (by decide))).trans x5_s0
  have x6_s1 : sh x6 (a + 1) = some (0, 3) := by rw [ex6]; exact (xA_old hl_x5 (al (by decide))).trans x5_s1
  have x6_s2 : sh x6 (a + 2) = some (1, 64) := by rw [ex6]; exact (xA_old hl_x5 (al (by decide))).trans x5_s2
  have x6_s3 : sh x6 (a + 3) = some (4, 6) := by rw [ex6]; exact (xA_old hl_x5 (al (by decide))).trans x5_s3
  have x6_s4 : sh x6 (a + 4) = some (1, 8) := by rw [ex6]; exact xA_new hl_x5
  have x6_r1_6 : rf x6 (a + 1) 6 = some (a + 2) := by rw [ex6]; exact (xA_rf hl_x5 (al (by decide))).trans x5_r1_6
  have x6_r1_7 : rf x6 (a + 1) 7 = some (a + 3) := by rw [ex6]; exact (xA_rf hl_x5 (al (by decide))).trans x5_r1_7
  have x6_fS : ∀ b, b ≤ a → sh x6 b = sh x b := fun b hb => by rw [ex6]; exact (xA_old hl_x5 (lej hb (by decide))).trans (x5_fS b hb)
  have x6_fR : ∀ b, b < a → x6.2.1 b = x.2.1 b := fun b hb => by rw [ex6]; exact (xA_kf hl_x5 (ltj hb)).trans (x5_fR b hb)
  have x6_c : x6.2.2.1 = x.2.2.1 + 4 ∧ x6.2.2.2 = x.2.2.2 + 91 := by rw [ex6]; exact cA x5_c
  obtain ⟨I4, eI4⟩ : ∃ z, z = va_up I3 (a + 4) (fun _ => 0) := ⟨_, rfl⟩
  rw [← eI4]
  have fI4 : ∀ b, b ≤ a → I4 b = I b := fun b hb => (show I4 b = I3 b by rw [eI4]; exact vu_ne (nle hb (by decide))).trans (fI3 b hb)
  obtain ⟨J4, eJ4⟩ : ∃ z, z = va_up J3 (a + 4) (fun _ => 0) := ⟨_, rfl⟩
  rw [← eJ4]
  have fJ4 : ∀ b, b ≤ a → J4 b = J b := fun b hb => (show J4 b = J3 b by rw [eJ4]; exact vu_ne (nle hb (by decide))).trans (fJ3 b hb)
  show wp S (d + 2) 20 25 [some (.ref (a + 1))] [.ref (a + 4), .ref (a + 1)] (wv x6 I4 J4) _
  refine wp_putr (ci := 3) (k := 8) rfl rfl x6_s1 ⟨rfl, rfl, rfl, rfl⟩ (aj h68) ?_
  obtain ⟨x7, ex7⟩ : ∃ z, z = xR x6 (a + 1) 8 (a + 4) := ⟨_, rfl⟩
  rw [← ex7]
  have hl_x7 : 68 + x7.1.length = a + 5 := by rw [ex7]; exact hl_x6
  have x7_s0 : sh x7 a = some (0, 2) := by rw [ex7]; exact x6_s0
  have x7_s1 : sh x7 (a + 1) = some (0, 3) := by rw [ex7]; exact x6_s1
  have x7_s2 : sh x7 (a + 2) = some (1, 64) := by rw [ex7]; exact x6_s2
  have x7_s3 : sh x7 (a + 3) = some (4, 6) := by rw [ex7]; exact x6_s3
  have x7_s4 : sh x7 (a + 4) = some (1, 8) := by rw [ex7]; exact x6_s4
  have x7_r1_6 : rf x7 (a + 1) 6 = some (a + 2) := by rw [ex7]; exact (xR_ne (fun z => absurd z.2 (by decide)) (b68 (aj h68))).trans x6_r1_6
  have x7_r1_7 : rf x7 (a + 1) 7 = some (a + 3) := by rw [ex7]; exact (xR_ne (fun z => absurd z.2 (by decide)) (b68 (aj h68))).trans x6_r1_7
  have x7_r1_8 : rf x7 (a + 1) 8 = some (a + 4) := by rw [ex7]; exact xR_at (aj h68)
  have x7_fS : ∀ b, b ≤ a → sh x7 b = sh x b := fun b hb => by rw [ex7]; exact x6_fS b hb
  have x7_fR : ∀ b, b < a → x7.2.1 b = x.2.1 b := fun b hb => by rw [ex7]; exact (xR_kf (nltj hb)).trans (x6_fR b hb)
  have x7_c : x7.2.2.1 = x.2.2.1 + 4 ∧ x7.2.2.2 = x.2.2.2 + 91 := by rw [ex7]; exact x6_c
  show wp S (d + 2) 20 28 [some (.ref (a + 1))] [] (wv x7 I4 J4) _
  refine wp_seg (C := gC20) (pc1 := 31) (Lo1 := [some (.ref (a + 1))]) (st1' := [.int (8 : Int32), .ref (a + 1)]) (w1 := (wv x7 I4 J4)) rfl 2 rfl ?_
  refine wn_arr (q := 1) (c := 8) rfl ⟨by decide, by decide, by decide⟩ ⟨rfl, by decide⟩ (by rw [hl_x7]; exact lmj hm (by decide)) ?_
  rw [hl_x7]
  obtain ⟨x8, ex8⟩ : ∃ z, z = xA x7 (1, 8) 8 := ⟨_, rfl⟩
  rw [← ex8]
  have hl_x8 : 68 + x8.1.length = a + 6 := by rw [ex8]; exact xA_len hl_x7
  have x8_s0 : sh x8 a = some (0, 2) := by rw [ex8]; exact (xA_old hl_x7 (al0 (by decide))).trans x7_s0
  have x8_s1 : sh x8 (a + 1) = some (0, 3) := by rw [ex8]; exact (xA_old hl_x7 (al (by decide))).trans x7_s1
  have x8_s2 : sh x8 (a + 2) = some (1, 64) := by rw [ex8]; exact (xA_old hl_x7 (al (by decide))).trans x7_s2
  have x8_s3 : sh x8 (a + 3) = some (4, 6) := by rw [ex8]; exact (xA_old hl_x7 (al (by decide))).trans x7_s3
  have x8_s4 : sh x8 (a + 4) = some (1, 8) := by rw [ex8]; exact (xA_old hl_x7 (al (by decide))).trans x7_s4
  have x8_s5 : sh x8 (a + 5) = some (1, 8) := by rw [ex8]; exact xA_new hl_x7
  have x8_r1_6 : rf x8 (a + 1) 6 = some (a + 2) := by rw [ex8]; exact (xA_rf hl_x7 (al (by decide))).trans x7_r1_6
  have x8_r1_7 : rf x8 (a + 1) 7 = some (a + 3) := by rw [ex8]; exact (xA_rf hl_x7 (al (by decide))).trans x7_r1_7
  have x8_r1_8 : rf x8 (a + 1) 8 = some (a + 4) := by rw [ex8]; exact (xA_rf hl_x7 (al (by decide))).trans x7_r1_8
  have x8_fS : ∀ b, b ≤ a → sh x8 b = sh x b := fun b hb => by rw [ex8]; exact (xA_old hl_x7 (lej hb (by decide))).trans (x7_fS b hb)
  have x8_fR : ∀ b, b < a → x8.2.1 b = x.2.1 b := fun b hb => by rw [ex8]; exact (xA_kf hl_x7 (ltj hb)).trans (x7_fR b hb)
  have x8_c : x8.2.2.1 = x.2.2.1 + 5 ∧ x8.2.2.2 = x.2.2.2 + 99 := by rw [ex8]; exact cA x7_c
  obtain ⟨I5, eI5⟩ : ∃ z, z = va_up I4 (a + 5) (fun _ => 0) := ⟨_, rfl⟩
  rw [← eI5]
  have fI5 : ∀ b, b ≤ a → I5 b = I b := fun b hb => (show I5 b = I4 b by rw [eI5]; exact vu_ne (nle hb (by decide))).trans (fI4 b hb)
  obtain ⟨J5, eJ5⟩ : ∃ z, z = va_up J4 (a + 5) (fun _ => 0) := ⟨_, rfl⟩
  rw [← eJ5]
  have fJ5 : ∀ b, b ≤ a → J5 b = J b := fun b hb => (show J5 b = J4 b by rw [eJ5]; exact vu_ne (nle hb (by decide))).trans (fJ4 b hb)
  show wp S (d + 2) 20 33 [some (.ref (a + 1))] [.ref (a + 5), .ref (a + 1)] (wv x8 I5 J5) _
  refine wp_putr (ci := 3) (k := 9) rfl rfl x8_s1 ⟨rfl, rfl, rfl, rfl⟩ (aj h68) ?_
  obtain ⟨x9, ex9⟩ : ∃ z, z = xR x8 (a + 1) 9 (a + 5) := ⟨_, rfl⟩
  rw [← ex9]
  have hl_x9 : 68 + x9.1.length = a + 6 := by rw [ex9]; exact hl_x8
  have x9_s0 : sh x9 a = some (0, 2) := by rw [ex9]; exact x8_s0
  have x9_s1 : sh x9 (a + 1) = some (0, 3) := by rw [ex9]; exact x8_s1
  have x9_s2 : sh x9 (a + 2) = some (1, 64) := by rw [ex9]; exact x8_s2
  have x9_s3 : sh x9 (a + 3) = some (4, 6) := by rw [ex9]; exact x8_s3
  have x9_s4 : sh x9 (a + 4) = some (1, 8) := by rw [ex9]; exact x8_s4
  have x9_s5 : sh x9 (a + 5) = some (1, 8) := by rw [ex9]; exact x8_s5
  have x9_r1_6 : rf x9 (a + 1) 6 = some (a + 2) := by rw [ex9]; exact (xR_ne (fun z => absurd z.2 (by decide)) (b68 (aj h68))).trans x8_r1_6
  have x9_r1_7 : rf x9 (a + 1) 7 = some (a + 3) := by rw [ex9]; exact (xR_ne (fun z => absurd z.2 (by decide)) (b68 (aj h68))).trans x8_r1_7
  have x9_r1_8 : rf x9 (a + 1) 8 = some (a + 4) := by rw [ex9]; exact (xR_ne (fun z => absurd z.2 (by decide)) (b68 (aj h68))).trans x8_r1_8
  have x9_r1_9 : rf x9 (a + 1) 9 = some (a + 5) := by rw [ex9]; exact xR_at (aj h68)
  have x9_fS : ∀ b, b ≤ a → sh x9 b = sh x b := fun b hb => by rw [ex9]; exact x8_fS b hb
  have x9_fR : ∀ b, b < a → x9.2.1 b = x.2.1 b := fun b hb => by rw [ex9]; exact (xR_kf (nltj hb)).trans (x8_fR b hb)
  have x9_c : x9.2.2.1 = x.2.2.1 + 5 ∧ x9.2.2.2 = x.2.2.2 + 99 := by rw [ex9]; exact x8_c
  show wp S (d + 2) 20 36 [some (.ref (a + 1))] [] (wv x9 I5 J5) _
  refine wp_seg (C := gC20) (pc1 := 39) (Lo1 := [some (.ref (a + 1))]) (st1' := [.int (12 : Int32), .ref (a + 1)]) (w1 := (wv x9 I5 J5)) rfl 2 rfl ?_
  refine wn_arr (q := 1) (c := 12) rfl ⟨by decide, by decide, by decide⟩ ⟨rfl, by decide⟩ (by rw [hl_x9]; exact lmj hm (by decide)) ?_
  rw [hl_x9]
  obtain ⟨x10, ex10⟩ : ∃ z, z = xA x9 (1, 12) 12 := ⟨_, rfl⟩
  rw [← ex10]
  have hl_x10 : 68 + x10.1.length = a + 7 := by rw [ex10]; exact xA_len hl_x9
  have x10_s0 : sh x10 a = some (0, 2) := by rw [ex10]; exact (xA_old hl_x9 (al0 (by decide))).trans x9_s0
  have x10_s1 : sh x10 (a + 1) = some (0, 3) := by rw [ex10]; exact (xA_old hl_x9 (al (by decide))).trans x9_s1
  have x10_s2 : sh x10 (a + 2) = some (1, 64) := by rw [ex10]; exact (xA_old hl_x9 (al (by decide))).trans x9_s2
  have x10_s3 : sh x10 (a + 3) = some (4, 6) := by rw [ex10]; exact (xA_old hl_x9 (al (by decide))).trans x9_s3
  have x10_s4 : sh x10 (a + 4) = some (1, 8) := by rw [ex10]; exact (xA_old hl_x9 (al (by decide))).trans x9_s4
  have x10_s5 : sh x10 (a + 5) = some (1, 8) := by rw [ex10]; exact (xA_old hl_x9 (al (by decide))).trans x9_s5
  have x10_s6 : sh x10 (a + 6) = some (1, 12) := by rw [ex10]; exact xA_new hl_x9
  have x10_r1_6 : rf x10 (a + 1) 6 = some (a + 2) := by rw [ex10]; exact (xA_rf hl_x9 (al (by decide))).trans x9_r1_6
  have x10_r1_7 : rf x10 (a + 1) 7 = some (a + 3) := by rw [ex10]; exact (xA_rf hl_x9 (al (by decide))).trans x9_r1_7
  have x10_r1_8 : rf x10 (a + 1) 8 = some (a + 4) := by rw [ex10]; exact (xA_rf hl_x9 (al (by decide))).trans x9_r1_8
  have x10_r1_9 : rf x10 (a + 1) 9 = some (a + 5) := by rw [ex10]; exact (xA_rf hl_x9 (al (by decide))).trans x9_r1_9
  have x10_fS : ∀ b, b ≤ a → sh x10 b = sh x b := fun b hb => by rw [ex10]; exact (xA_old hl_x9 (lej hb (by decide))).trans (x9_fS b hb)
  have x10_fR : ∀ b, b < a → x10.2.1 b = x.2.1 b := fun b hb => by rw [ex10]; exact (xA_kf hl_x9 (ltj hb)).trans (x9_fR b hb)
  have x10_c : x10.2.2.1 = x.2.2.1 + 6 ∧ x10.2.2.2 = x.2.2.2 + 111 := by rw [ex10]; exact cA x9_c
  obtain ⟨I6, eI6⟩ : ∃ z, z = va_up I5 (a + 6) (fun _ => 0) := ⟨_, rfl⟩
  rw [← eI6]
  have fI6 : ∀ b, b ≤ a → I6 b = I b := fun b hb => (show I6 b = I5 b by rw [eI6]; exact vu_ne (nle hb (by decide))).trans (fI5 b hb)
  obtain ⟨J6, eJ6⟩ : ∃ z, z = va_up J5 (a + 6) (fun _ => 0) := ⟨_, rfl⟩
  rw [← eJ6]
  have fJ6 : ∀ b, b ≤ a → J6 b = J b := fun b hb => (show J6 b = J5 b by rw [eJ6]; exact vu_ne (nle hb (by decide))).trans (fJ5 b hb)
  show wp S (d + 2) 20 41 [some (.ref (a + 1))] [.ref (a + 6), .ref (a + 1)] (wv x10 I6 J6) _
  refine wp_putr (ci := 3) (k := 10) rfl rfl x10_s1 ⟨rfl, rfl, rfl, rfl⟩ (aj h68) ?_
  obtain ⟨x11, ex11⟩ : ∃ z, z = xR x10 (a + 1) 10 (a + 6) := ⟨_, rfl⟩
  rw [← ex11]
  have hl_x11 : 68 + x11.1.length = a + 7 := by rw [ex11]; exact hl_x10
  have x11_s0 : sh x11 a = some (0, 2) := by rw [ex11]; exact x10_s0
  have x11_s1 : sh x11 (a + 1) = some (0, 3) := by rw [ex11]; exact x10_s1
  have x11_s2 : sh x11 (a + 2) = some (1, 64) := by rw [ex11]; exact x10_s2
  have x11_s3 : sh x11 (a + 3) = some (4, 6) := by rw [ex11]; exact x10_s3
  have x11_s4 : sh x11 (a + 4) = some (1, 8) := by rw [ex11]; exact x10_s4
  have x11_s5 : sh x11 (a + 5) = some (1, 8) := by rw [ex11]; exact x10_s5
  have x11_s6 : sh x11 (a + 6) = some (1, 12) := by rw [ex11]; exact x10_s6
  have x11_r1_6 : rf x11 (a + 1) 6 = some (a + 2) := by rw [ex11]; exact (xR_ne (fun z => absurd z.2 (by decide)) (b68 (aj h68))).trans x10_r1_6
  have x11_r1_7 : rf x11 (a + 1) 7 = some (a + 3) := by rw [ex11]; exact (xR_ne (fun z => absurd z.2 (by decide)) (b68 (aj h68))).trans x10_r1_7
  have x11_r1_8 : rf x11 (a + 1) 8 = some (a + 4) := by rw [ex11]; exact (xR_ne (fun z => absurd z.2 (by decide)) (b68 (aj h68))).trans x10_r1_8
  have x11_r1_9 : rf x11 (a + 1) 9 = some (a + 5) := by rw [ex11]; exact (xR_ne (fun z => absurd z.2 (by decide)) (b68 (aj h68))).trans x10_r1_9
  have x11_r1_10 : rf x11 (a + 1) 10 = some (a + 6) := by rw [ex11]; exact xR_at (aj h68)
  have x11_fS : ∀ b, b ≤ a → sh x11 b = sh x b := fun b hb => by rw [ex11]; exact x10_fS b hb
  have x11_fR : ∀ b, b < a → x11.2.1 b = x.2.1 b := fun b hb => by rw [ex11]; exact (xR_kf (nltj hb)).trans (x10_fR b hb)
  have x11_c : x11.2.2.1 = x.2.2.1 + 6 ∧ x11.2.2.2 = x.2.2.2 + 111 := by rw [ex11]; exact x10_c
  show wp S (d + 2) 20 44 [some (.ref (a + 1))] [] (wv x11 I6 J6) _
  refine wp_seg (C := gC20) (pc1 := 48) (Lo1 := [some (.ref (a + 1))]) (st1' := [.int (240 : Int32), .ref (a + 1)]) (w1 := (wv x11 I6 J6)) rfl 2 rfl ?_
  refine wn_arr (q := 1) (c := 240) rfl ⟨by decide, by decide, by decide⟩ ⟨rfl, by decide⟩ (by rw [hl_x11]; exact lmj hm (by decide)) ?_
  rw [hl_x11]
  obtain ⟨x12, ex12⟩ : ∃ z, z = xA x11 (1, 240) 240 := ⟨_, rfl⟩
  rw [← ex12]
  have hl_x12 : 68 + x12.1.length = a + 8 := by rw [ex12]; exact xA_len hl_x11
  have x12_s0 : sh x12 a = some (0, 2) := by rw [ex12]; exact (xA_old hl_x11 (al0 (by decide))).trans x11_s0
  have x12_s1 : sh x12 (a + 1) = some (0, 3) := by rw [ex12]; exact (xA_old hl_x11 (al (by decide))).trans x11_s1
  have x12_s2 : sh x12 (a + 2) = some (1, 64) := by rw [ex12]; exact (xA_old hl_x11 (al (by decide))).trans x11_s2
  have x12_s3 : sh x12 (a + 3) = some (4, 6) := by rw [ex12]; exact (xA_old hl_x11 (al (by decide))).trans x11_s3
  have x12_s4 : sh x12 (a + 4) = some (1, 8) := by rw [ex12]; exact (xA_old hl_x11 (al (by decide))).trans x11_s4
  have x12_s5 : sh x12 (a + 5) = some (1, 8) := by rw [ex12]; exact (xA_old hl_x11 (al (by decide))).trans x11_s5
  have x12_s6 : sh x12 (a + 6) = some (1, 12) := by rw [ex12]; exact (xA_old hl_x11 (al (by decide))).trans x11_s6
  have x12_s7 : sh x12 (a + 7) = some (1, 240) := by rw [ex12]; exact xA_new hl_x11
  have x12_r1_6 : rf x12 (a + 1) 6 = some (a + 2) := by rw [ex12]; exact (xA_rf hl_x11 (al (by decide))).trans x11_r1_6
  have x12_r1_7 : rf x12 (a + 1) 7 = some (a + 3) := by rw [ex12]; exact (xA_rf hl_x11 (al (by decide))).trans x11_r1_7
  have x12_r1_8 : rf x12 (a + 1) 8 = some (a + 4) := by rw [ex12]; exact (xA_rf hl_x11 (al (by decide))).trans x11_r1_8
  have x12_r1_9 : rf x12 (a + 1) 9 = some (a + 5) := by rw [ex12]; exact (xA_rf hl_x11 (al (by decide))).trans x11_r1_9
  have x12_r1_10 : rf x12 (a + 1) 10 = some (a + 6) := by rw [ex12]; exact (xA_rf hl_x11 (al (by decide))).trans x11_r1_10
  have x12_fS : ∀ b, b ≤ a → sh x12 b = sh x b := fun b hb => by rw [ex12]; exact (xA_old hl_x11 (lej hb (by decide))).trans (x11_fS b hb)
  have x12_fR : ∀ b, b < a → x12.2.1 b = x.2.1 b := fun b hb => by rw [ex12]; exact (xA_kf hl_x11 (ltj hb)).trans (x11_fR b hb)
  have x12_c : x12.2.2.1 = x.2.2.1 + 7 ∧ x12.2.2.2 = x.2.2.2 + 351 := by rw [ex12]; exact cA x11_c
  obtain ⟨I7, eI7⟩ : ∃ z, z = va_up I6 (a + 7) (fun _ => 0) := ⟨_, rfl⟩
  rw [← eI7]
  have fI7 : ∀ b, b ≤ a → I7 b = I b := fun b hb => (show I7 b = I6 b by rw [eI7]; exact vu_ne (nle hb (by decide))).trans (fI6 b hb)
  obtain ⟨J7, eJ7⟩ : ∃ z, z = va_up J6 (a + 7) (fun _ => 0) := ⟨_, rfl⟩
  rw [← eJ7]
  have fJ7 : ∀ b, b ≤ a → J7 b = J b := fun b hb => (show J7 b = J6 b by rw [eJ7]; exact vu_ne (nle hb (by decide))).trans (fJ6 b hb)
  show wp S (d + 2) 20 50 [some (.ref (a + 1))] [.ref (a + 7), .ref (a + 1)] (wv x12 I7 J7) _
  refine wp_putr (ci := 3) (k := 11) rfl rfl x12_s1 ⟨rfl, rfl, rfl, rfl⟩ (aj h68) ?_
  obtain ⟨x13, ex13⟩ : ∃ z, z = xR x12 (a + 1) 11 (a + 7) := ⟨_, rfl⟩
  rw [← ex13]
  have hl_x13 : 68 + x13.1.length = a + 8 := by rw [ex13]; exact hl_x12
  have x13_s0 : sh x13 a = some (0, 2) := by rw [ex13]; exact x12_s0
  have x13_s1 : sh x13 (a + 1) = some (0, 3) := by rw [ex13]; exact x12_s1
  have x13_s2 : sh x13 (a + 2) = some (1, 64) := by rw [ex13]; exact x12_s2
  have x13_s3 : sh x13 (a + 3) = some (4, 6) := by rw [ex13]; exact x12_s3
  have x13_s4 : sh x13 (a + 4) = some (1, 8) := by rw [ex13]; exact x12_s4
  have x13_s5 : sh x13 (a + 5) = some (1, 8) := by rw [ex13]; exact x12_s5
  have x13_s6 : sh x13 (a + 6) = some (1, 12) := by rw [ex13]; exact x12_s6
  have x13_s7 : sh x13 (a + 7) = some (1, 240) := by rw [ex13]; exact x12_s7
  have x13_r1_6 : rf x13 (a + 1) 6 = some (a + 2) := by rw [ex13]; exact (xR_ne (fun z => absurd z.2 (by decide)) (b68 (aj h68))).trans x12_r1_6
  have x13_r1_7 : rf x13 (a + 1) 7 = some (a + 3) := by rw [ex13]; exact (xR_ne (fun z => absurd z.2 (by decide)) (b68 (aj h68))).trans x12_r1_7
  have x13_r1_8 : rf x13 (a + 1) 8 = some (a + 4) := by rw [ex13]; exact (xR_ne (fun z => absurd z.2 (by decide)) (b68 (aj h68))).trans x12_r1_8
  have x13_r1_9 : rf x13 (a + 1) 9 = some (a + 5) := by rw [ex13]; exact (xR_ne (fun z => absurd z.2 (by decide)) (b68 (aj h68))).trans x12_r1_9
  have x13_r1_10 : rf x13 (a + 1) 10 = some (a + 6) := by rw [ex13]; exact (xR_ne (fun z => absurd z.2 (by decide)) (b68 (aj h68))).trans x12_r1_10
  have x13_r1_11 : rf x13 (a + 1) 11 = some (a + 7) := by rw [ex13]; exact xR_at (aj h68)
  have x13_fS : ∀ b, b ≤ a → sh x13 b = sh x b := fun b hb => by rw [ex13]; exact x12_fS b hb
  have x13_fR : ∀ b, b < a → x13.2.1 b = x.2.1 b := fun b hb => by rw [ex13]; exact (xR_kf (nltj hb)).trans (x12_fR b hb)
  have x13_c : x13.2.2.1 = x.2.2.1 + 7 ∧ x13.2.2.2 = x.2.2.2 + 351 := by rw [ex13]; exact x12_c
  show wp S (d + 2) 20 53 [some (.ref (a + 1))] [] (wv x13 I7 J7) _
  refine wp_seg (C := gC20) (pc1 := 57) (Lo1 := [some (.ref (a + 1))]) (st1' := [.int (384 : Int32), .ref (a + 1)]) (w1 := (wv x13 I7 J7)) rfl 2 rfl ?_
  refine wn_arr (q := 4) (c := 384) rfl ⟨by decide, by decide, by decide⟩ ⟨rfl, by decide⟩ (by rw [hl_x13]; exact lmj hm (by decide)) ?_
  rw [hl_x13]
  obtain ⟨x14, ex14⟩ : ∃ z, z = xA x13 (4, 384) 384 := ⟨_, rfl⟩
  rw [← ex14]
  have hl_x14 : 68 + x14.1.length = a + 9 := by rw [ex14]; exact xA_len hl_x13
  have x14_s0 : sh x14 a = some (0, 2) := by rw [ex14]; exact (xA_old hl_x13 (al0 (by decide))).trans x13_s0
  have x14_s1 : sh x14 (a + 1) = some (0, 3) := by rw [ex14]; exact (xA_old hl_x13 (al (by decide))).trans x13_s1
  have x14_s2 : sh x14 (a + 2) = some (1, 64) := by rw [ex14]; exact (xA_old hl_x13 (al (by decide))).trans x13_s2
  have x14_s3 : sh x14 (a + 3) = some (4, 6) := by rw [ex14]; exact (xA_old hl_x13 (al (by decide))).trans x13_s3
  have x14_s4 : sh x14 (a + 4) = some (1, 8) := by rw [ex14]; exact (xA_old hl_x13 (al (by decide))).trans x13_s4
  have x14_s5 : sh x14 (a + 5) = some (1, 8) := by rw [ex14]; exact (xA_old hl_x13 (al (by decide))).trans x13_s5
  have x14_s6 : sh x14 (a + 6) = some (1, 12) := by rw [ex14]; exact (xA_old hl_x13 (al (by decide))).trans x13_s6
  have x14_s7 : sh x14 (a + 7) = some (1, 240) := by rw [ex14]; exact (xA_old hl_x13 (al (by decide))).trans x13_s7
  have x14_s8 : sh x14 (a + 8) = some (4, 384) := by rw [ex14]; exact xA_new hl_x13
  have x14_r1_6 : rf x14 (a + 1) 6 = some (a + 2) := by rw [ex14]; exact (xA_rf hl_x13 (al (by decide))).trans x13_r1_6
  have x14_r1_7 : rf x14 (a + 1) 7 = some (a + 3) := by rw [ex14]; exact (xA_rf hl_x13 (al (by decide))).trans x13_r1_7
  have x14_r1_8 : rf x14 (a + 1) 8 = some (a + 4) := by rw [ex14]; exact (xA_rf hl_x13 (al (by decide))).trans x13_r1_8
  have x14_r1_9 : rf x14 (a + 1) 9 = some (a + 5) := by rw [ex14]; exact (xA_rf hl_x13 (al (by decide))).trans x13_r1_9
  have x14_r1_10 : rf x14 (a + 1) 10 = some (a + 6) := by rw [ex14]; exact (xA_rf hl_x13 (al (by decide))).trans x13_r1_10
  have x14_r1_11 : rf x14 (a + 1) 11 = some (a + 7) := by rw [ex14]; exact (xA_rf hl_x13 (al (by decide))).trans x13_r1_11
  have x14_fS : ∀ b, b ≤ a → sh x14 b = sh x b := fun b hb => by rw [ex14]; exact (xA_old hl_x13 (lej hb (by decide))).trans (x13_fS b hb)
  have x14_fR : ∀ b, b < a → x14.2.1 b = x.2.1 b := fun b hb => by rw [ex14]; exact (xA_kf hl_x13 (ltj hb)).trans (x13_fR b hb)
  have x14_c : x14.2.2.1 = x.2.2.1 + 8 ∧ x14.2.2.2 = x.2.2.2 + 735 := by rw [ex14]; exact cA x13_c
  obtain ⟨I8, eI8⟩ : ∃ z, z = va_up I7 (a + 8) (fun _ => 0) := ⟨_, rfl⟩
  rw [← eI8]
  have fI8 : ∀ b, b ≤ a → I8 b = I b := fun b hb => (show I8 b = I7 b by rw [eI8]; exact vu_ne (nle hb (by decide))).trans (fI7 b hb)
  obtain ⟨J8, eJ8⟩ : ∃ z, z = va_up J7 (a + 8) (fun _ => 0) := ⟨_, rfl⟩
  rw [← eJ8]
  have fJ8 : ∀ b, b ≤ a → J8 b = J b := fun b hb => (show J8 b = J7 b by rw [eJ8]; exact vu_ne (nle hb (by decide))).trans (fJ7 b hb)
  show wp S (d + 2) 20 59 [some (.ref (a + 1))] [.ref (a + 8), .ref (a + 1)] (wv x14 I8 J8) _
  refine wp_putr (ci := 3) (k := 12) rfl rfl x14_s1 ⟨rfl, rfl, rfl, rfl⟩ (aj h68) ?_
  obtain ⟨x15, ex15⟩ : ∃ z, z = xR x14 (a + 1) 12 (a + 8) := ⟨_, rfl⟩
  rw [← ex15]
  have hl_x15 : 68 + x15.1.length = a + 9 := by rw [ex15]; exact hl_x14
  have x15_s0 : sh x15 a = some (0, 2) := by rw [ex15]; exact x14_s0
  have x15_s1 : sh x15 (a + 1) = some (0, 3) := by rw [ex15]; exact x14_s1
  have x15_s2 : sh x15 (a + 2) = some (1, 64) := by rw [ex15]; exact x14_s2
  have x15_s3 : sh x15 (a + 3) = some (4, 6) := by rw [ex15]; exact x14_s3
  have x15_s4 : sh x15 (a + 4) = some (1, 8) := by rw [ex15]; exact x14_s4
  have x15_s5 : sh x15 (a + 5) = some (1, 8) := by rw [ex15]; exact x14_s5
  have x15_s6 : sh x15 (a + 6) = some (1, 12) := by rw [ex15]; exact x14_s6
  have x15_s7 : sh x15 (a + 7) = some (1, 240) := by rw [ex15]; exact x14_s7
  have x15_s8 : sh x15 (a + 8) = some (4, 384) := by rw [ex15]; exact x14_s8
  have x15_r1_6 : rf x15 (a + 1) 6 = some (a + 2) := by rw [ex15]; exact (xR_ne (fun z => absurd z.2 (by decide)) (b68 (aj h68))).trans x14_r1_6
  have x15_r1_7 : rf x15 (a + 1) 7 = some (a + 3) := by rw [ex15]; exact (xR_ne (fun z => absurd z.2 (by decide)) (b68 (aj h68))).trans x14_r1_7
  have x15_r1_8 : rf x15 (a + 1) 8 = some (a + 4) := by rw [ex15]; exact (xR_ne (fun z => absurd z.2 (by decide)) (b68 (aj h68))).trans x14_r1_8
  have x15_r1_9 : rf x15 (a + 1) 9 = some (a + 5) := by rw [ex15]; exact (xR_ne (fun z => absurd z.2 (by decide)) (b68 (aj h68))).trans x14_r1_9
  have x15_r1_10 : rf x15 (a + 1) 10 = some (a + 6) := by rw [ex15]; exact (xR_ne (fun z => absurd z.2 (by decide)) (b68 (aj h68))).trans x14_r1_10
  have x15_r1_11 : rf x15 (a + 1) 11 = some (a + 7) := by rw [ex15]; exact (xR_ne (fun z => absurd z.2 (by decide)) (b68 (aj h68))).trans x14_r1_11
  have x15_r1_12 : rf x15 (a + 1) 12 = some (a + 8) := by rw [ex15]; exact xR_at (aj h68)
  have x15_fS : ∀ b, b ≤ a → sh x15 b = sh x b := fun b hb => by rw [ex15]; exact x14_fS b hb
  have x15_fR : ∀ b, b < a → x15.2.1 b = x.2.1 b := fun b hb => by rw [ex15]; exact (xR_kf (nltj hb)).trans (x14_fR b hb)
  have x15_c : x15.2.2.1 = x.2.2.1 + 8 ∧ x15.2.2.2 = x.2.2.2 + 735 := by rw [ex15]; exact x14_c
  show wp S (d + 2) 20 62 [some (.ref (a + 1))] [] (wv x15 I8 J8) _
  refine wp_seg (C := gC20) (pc1 := 63) (Lo1 := [some (.ref (a + 1))]) (st1' := [.ref (a + 1)]) (w1 := (wv x15 I8 J8)) rfl 1 rfl ?_
  refine wp_cv (mj := 21) (a := (a + 1)) (as := []) (r := []) rfl rfl rfl ⟨rfl, by decide, Nat.le_of_ble_eq_true rfl, Nat.le_of_ble_eq_true rfl⟩ x15_s1 ?_
  show wp S (d + 1) 21 0 [some (.ref (a + 1))] [] (wv x15 I8 J8) _
  refine wp_seg (C := gC21) (pc1 := 2) (Lo1 := [some (.ref (a + 1))]) (st1' := [.int (0 : Int32), .ref (a + 1)]) (w1 := (wv x15 I8 J8)) rfl 2 rfl ?_
  refine wp_puti (ci := 3) (k := 0) rfl rfl x15_s1 ⟨rfl, rfl⟩ ?_
  obtain ⟨I9, eI9⟩ : ∃ z, z = mSet I8 (a + 1) 0 (0 : Int32) := ⟨_, rfl⟩
  rw [← eI9]
  have fI9 : ∀ b, b ≤ a → I9 b = I b := fun b hb => (show I9 b = I8 b by rw [eI9]; exact mSet_ne (nle hb (by decide))).trans (fI8 b hb)
  show wp S (d + 1) 21 5 [some (.ref (a + 1))] [] (wv x15 I9 J8) _
  refine wp_seg (C := gC21) (pc1 := 7) (Lo1 := [some (.ref (a + 1))]) (st1' := [.int (0 : Int32), .ref (a + 1)]) (w1 := (wv x15 I9 J8)) rfl 2 rfl ?_
  refine wp_puti (ci := 3) (k := 1) rfl rfl x15_s1 ⟨rfl, rfl⟩ ?_
  obtain ⟨I10, eI10⟩ : ∃ z, z = mSet I9 (a + 1) 1 (0 : Int32) := ⟨_, rfl⟩
  rw [← eI10]
  have fI10 : ∀ b, b ≤ a → I10 b = I b := fun b hb => (show I10 b = I9 b by rw [eI10]; exact mSet_ne (nle hb (by decide))).trans (fI9 b hb)
  show wp S (d + 1) 21 10 [some (.ref (a + 1))] [] (wv x15 I10 J8) _
  refine wp_seg (C := gC21) (pc1 := 12) (Lo1 := [some (.ref (a + 1))]) (st1' := [.int (1 : Int32), .ref (a + 1)]) (w1 := (wv x15 I10 J8)) rfl 2 rfl ?_
  refine wp_puti (ci := 3) (k := 2) rfl rfl x15_s1 ⟨rfl, rfl⟩ ?_
  obtain ⟨I11, eI11⟩ : ∃ z, z = mSet I10 (a + 1) 2 (1 : Int32) := ⟨_, rfl⟩
  rw [← eI11]
  have fI11 : ∀ b, b ≤ a → I11 b = I b := fun b hb => (show I11 b = I10 b by rw [eI11]; exact mSet_ne (nle hb (by decide))).trans (fI10 b hb)
  show wp S (d + 1) 21 15 [some (.ref (a + 1))] [] (wv x15 I11 J8) _
  refine wp_seg (C := gC21) (pc1 := 19) (Lo1 := [some (.ref (a + 1))]) (st1' := [.int (600 : Int32), .ref (a + 1)]) (w1 := (wv x15 I11 J8)) rfl 2 rfl ?_
  refine wp_puti (ci := 3) (k := 3) rfl rfl x15_s1 ⟨rfl, rfl⟩ ?_
  obtain ⟨I12, eI12⟩ : ∃ z, z = mSet I11 (a + 1) 3 (600 : Int32) := ⟨_, rfl⟩
  rw [← eI12]
  have fI12 : ∀ b, b ≤ a → I12 b = I b := fun b hb => (show I12 b = I11 b by rw [eI12]; exact mSet_ne (nle hb (by decide))).trans (fI11 b hb)
  show wp S (d + 1) 21 22 [some (.ref (a + 1))] [] (wv x15 I12 J8) _
  refine wp_seg (C := gC21) (pc1 := 24) (Lo1 := [some (.ref (a + 1))]) (st1' := [.int (0 : Int32), .ref (a + 1)]) (w1 := (wv x15 I12 J8)) rfl 2 rfl ?_
  refine wz_put (ci := 3) (k := 4) rfl rfl x15_s1 ⟨rfl, rfl⟩ (Or.inl rfl) ?_
  obtain ⟨I13, eI13⟩ : ∃ z, z = mSet I12 (a + 1) 4 (0 : Int32) := ⟨_, rfl⟩
  rw [← eI13]
  have fI13 : ∀ b, b ≤ a → I13 b = I b := fun b hb => (show I13 b = I12 b by rw [eI13]; exact mSet_ne (nle hb (by decide))).trans (fI12 b hb)
  show wp S (d + 1) 21 27 [some (.ref (a + 1))] [] (wv x15 I13 J8) _
  refine wp_seg (C := gC21) (pc1 := 29) (Lo1 := [some (.ref (a + 1))]) (st1' := [.long (0 : Int64), .ref (a + 1)]) (w1 := (wv x15 I13 J8)) rfl 2 rfl ?_
  refine wp_putj (ci := 3) (k := 5) rfl rfl x15_s1 ⟨rfl, rfl⟩ ?_
  obtain ⟨J9, eJ9⟩ : ∃ z, z = mSet J8 (a + 1) 5 (0 : Int64) := ⟨_, rfl⟩
  rw [← eJ9]
  have fJ9 : ∀ b, b ≤ a → J9 b = J b := fun b hb => (show J9 b = J8 b by rw [eJ9]; exact mSet_ne (nle hb (by decide))).trans (fJ8 b hb)
  show wp S (d + 1) 21 32 [some (.ref (a + 1))] [] (wv x15 I13 J9) _
  refine wp_seg (C := gC21) (pc1 := 33) (Lo1 := [some (.ref (a + 1))]) (st1' := [.ref (a + 1)]) (w1 := (wv x15 I13 J9)) rfl 1 rfl ?_
  refine wg_r (ci := 3) (k := 7) rfl rfl rfl x15_s1 x15_r1_7 ?_
  show wp S (d + 1) 21 36 [some (.ref (a + 1))] [.ref (a + 3)] (wv x15 I13 J9) _
  refine wp_seg (C := gC21) (pc1 := 37) (Lo1 := [some (.ref (a + 1))]) (st1' := [.long (0 : Int64), .ref (a + 3)]) (w1 := (wv x15 I13 J9)) rfl 1 rfl ?_
  refine cs_V (mj := 251) (nn := 0) (as := [.ref (a + 3), .long (0 : Int64)]) (r := []) rfl rfl rfl ⟨rfl, by decide, Nat.le_of_ble_eq_true rfl, Nat.le_of_ble_eq_true rfl⟩ (by decide) (fillJ_v (n := 6) x15_s3 (by decide) ?_)
  obtain ⟨J10, eJ10⟩ : ∃ z, z = va_up J9 (a + 3) (fun j => if j < 6 then (0 : Int64) else J9 (a + 3) j) := ⟨_, rfl⟩
  rw [← eJ10]
  have fJ10 : ∀ b, b ≤ a → J10 b = J b := fun b hb => (show J10 b = J9 b by rw [eJ10]; exact vu_ne (nle hb (by decide))).trans (fJ9 b hb)
  show wp S (d + 1) 21 40 [some (.ref (a + 1))] [] (wv x15 I13 J10) _
  refine wp_seg (C := gC21) (pc1 := 41) (Lo1 := [some (.ref (a + 1))]) (st1' := [.ref (a + 1)]) (w1 := (wv x15 I13 J10)) rfl 1 rfl ?_
  refine wg_r (ci := 3) (k := 8) rfl rfl rfl x15_s1 x15_r1_8 ?_
  show wp S (d + 1) 21 44 [some (.ref (a + 1))] [.ref (a + 4)] (wv x15 I13 J10) _
  refine wp_seg (C := gC21) (pc1 := 46) (Lo1 := [some (.ref (a + 1))]) (st1' := [.int (10 : Int32), .ref (a + 4)]) (w1 := (wv x15 I13 J10)) rfl 1 rfl ?_
  refine cs_V (mj := 252) (nn := 0) (as := [.ref (a + 4), .int (10 : Int32)]) (r := []) rfl rfl rfl ⟨rfl, by decide, Nat.le_of_ble_eq_true rfl, Nat.le_of_ble_eq_true rfl⟩ (by decide) (fillI_v (n := 8) x15_s4 (by decide) ?_)
  obtain ⟨I14, eI14⟩ : ∃ z, z = va_up I13 (a + 4) (fun j => if j < 8 then (10 : Int32) else I13 (a + 4) j) := ⟨_, rfl⟩
  rw [← eI14]
  have fI14 : ∀ b, b ≤ a → I14 b = I b := fun b hb => (show I14 b = I13 b by rw [eI14]; exact vu_ne (nle hb (by decide))).trans (fI13 b hb)
  show wp S (d + 1) 21 49 [some (.ref (a + 1))] [] (wv x15 I14 J10) _
  refine wp_seg (C := gC21) (pc1 := 50) (Lo1 := [some (.ref (a + 1))]) (st1' := [.ref (a + 1)]) (w1 := (wv x15 I14 J10)) rfl 1 rfl ?_
  refine wg_r (ci := 3) (k := 9) rfl rfl rfl x15_s1 x15_r1_9 ?_
  show wp S (d + 1) 21 53 [some (.ref (a + 1))] [.ref (a + 5)] (wv x15 I14 J10) _
  refine wp_seg (C := gC21) (pc1 := 54) (Lo1 := [some (.ref (a + 1))]) (st1' := [.int (-1 : Int32), .ref (a + 5)]) (w1 := (wv x15 I14 J10)) rfl 1 rfl ?_
  refine cs_V (mj := 252) (nn := 0) (as := [.ref (a + 5), .int (-1 : Int32)]) (r := []) rfl rfl rfl ⟨rfl, by decide, Nat.le_of_ble_eq_true rfl, Nat.le_of_ble_eq_true rfl⟩ (by decide) (fillI_v (n := 8) x15_s5 (by decide) ?_)
  obtain ⟨I15, eI15⟩ : ∃ z, z = va_up I14 (a + 5) (fun j => if j < 8 then (-1 : Int32) else I14 (a + 5) j) := ⟨_, rfl⟩
  rw [← eI15]
  have fI15 : ∀ b, b ≤ a → I15 b = I b := fun b hb => (show I15 b = I14 b by rw [eI15]; exact vu_ne (nle hb (by decide))).trans (fI14 b hb)
  show wp S (d + 1) 21 57 [some (.ref (a + 1))] [] (wv x15 I15 J10) _
  refine wp_seg (C := gC21) (pc1 := 58) (Lo1 := [some (.ref (a + 1))]) (st1' := [.ref (a + 1)]) (w1 := (wv x15 I15 J10)) rfl 1 rfl ?_
  refine wg_r (ci := 3) (k := 10) rfl rfl rfl x15_s1 x15_r1_10 ?_
  show wp S (d + 1) 21 61 [some (.ref (a + 1))] [.ref (a + 6)] (wv x15 I15 J10) _
  refine wp_seg (C := gC21) (pc1 := 62) (Lo1 := [some (.ref (a + 1))]) (st1' := [.int (-1 : Int32), .ref (a + 6)]) (w1 := (wv x15 I15 J10)) rfl 1 rfl ?_
  refine cs_V (mj := 252) (nn := 0) (as := [.ref (a + 6), .int (-1 : Int32)]) (r := []) rfl rfl rfl ⟨rfl, by decide, Nat.le_of_ble_eq_true rfl, Nat.le_of_ble_eq_true rfl⟩ (by decide) (fillI_v (n := 12) x15_s6 (by decide) ?_)
  obtain ⟨I16, eI16⟩ : ∃ z, z = va_up I15 (a + 6) (fun j => if j < 12 then (-1 : Int32) else I15 (a + 6) j) := ⟨_, rfl⟩
  rw [← eI16]
  have fI16 : ∀ b, b ≤ a → I16 b = I b := fun b hb => (show I16 b = I15 b by rw [eI16]; exact vu_ne (nle hb (by decide))).trans (fI15 b hb)
  show wp S (d + 1) 21 65 [some (.ref (a + 1))] [] (wv x15 I16 J10) _
  refine wp_vret (mi := 21) (pc := 65) rfl rfl ?_
  refine ⟨none, rfl, ?_⟩
  show wp S (d + 2) 20 66 [some (.ref (a + 1))] [] (wv x15 I16 J10) _
  refine wp_vret (mi := 20) (pc := 66) rfl rfl ?_
  refine ⟨rfl, ?_⟩
  show wp S (d + 3) 13 12 [some (.ref a)] [.ref (a + 1), .ref a] (wv x15 I16 J10) _
  refine wp_putr (ci := 2) (k := 0) rfl rfl x15_s0 ⟨rfl, rfl, rfl, rfl⟩ h68 ?_
  obtain ⟨x16, ex16⟩ : ∃ z, z = xR x15 a 0 (a + 1) := ⟨_, rfl⟩
  rw [← ex16]
  have hl_x16 : 68 + x16.1.length = a + 9 := by rw [ex16]; exact hl_x15
  have x16_s0 : sh x16 a = some (0, 2) := by rw [ex16]; exact x15_s0
  have x16_s1 : sh x16 (a + 1) = some (0, 3) := by rw [ex16]; exact x15_s1
  have x16_s2 : sh x16 (a + 2) = some (1, 64) := by rw [ex16]; exact x15_s2
  have x16_s3 : sh x16 (a + 3) = some (4, 6) := by rw [ex16]; exact x15_s3
  have x16_s4 : sh x16 (a + 4) = some (1, 8) := by rw [ex16]; exact x15_s4
  have x16_s5 : sh x16 (a + 5) = some (1, 8) := by rw [ex16]; exact x15_s5
  have x16_s6 : sh x16 (a + 6) = some (1, 12) := by rw [ex16]; exact x15_s6
  have x16_s7 : sh x16 (a + 7) = some (1, 240) := by rw [ex16]; exact x15_s7
  have x16_s8 : sh x16 (a + 8) = some (4, 384) := by rw [ex16]; exact x15_s8
  have x16_r1_6 : rf x16 (a + 1) 6 = some (a + 2) := by rw [ex16]; exact (xR_ne (fun z => nj0 (by decide) z.1) (b68 h68)).trans x15_r1_6
  have x16_r1_7 : rf x16 (a + 1) 7 = some (a + 3) := by rw [ex16]; exact (xR_ne (fun z => nj0 (by decide) z.1) (b68 h68)).trans x15_r1_7
  have x16_r1_8 : rf x16 (a + 1) 8 = some (a + 4) := by rw [ex16]; exact (xR_ne (fun z => nj0 (by decide) z.1) (b68 h68)).trans x15_r1_8
  have x16_r1_9 : rf x16 (a + 1) 9 = some (a + 5) := by rw [ex16]; exact (xR_ne (fun z => nj0 (by decide) z.1) (b68 h68)).trans x15_r1_9
  have x16_r1_10 : rf x16 (a + 1) 10 = some (a + 6) := by rw [ex16]; exact (xR_ne (fun z => nj0 (by decide) z.1) (b68 h68)).trans x15_r1_10
  have x16_r1_11 : rf x16 (a + 1) 11 = some (a + 7) := by rw [ex16]; exact (xR_ne (fun z => nj0 (by decide) z.1) (b68 h68)).trans x15_r1_11
  have x16_r1_12 : rf x16 (a + 1) 12 = some (a + 8) := by rw [ex16]; exact (xR_ne (fun z => nj0 (by decide) z.1) (b68 h68)).trans x15_r1_12
  have x16_r0_0 : rf x16 a 0 = some (a + 1) := by rw [ex16]; exact xR_at h68
  have x16_fS : ∀ b, b ≤ a → sh x16 b = sh x b := fun b hb => by rw [ex16]; exact x15_fS b hb
  have x16_fR : ∀ b, b < a → x16.2.1 b = x.2.1 b := fun b hb => by rw [ex16]; exact (xR_kf (nlt0 hb)).trans (x15_fR b hb)
  have x16_c : x16.2.2.1 = x.2.2.1 + 8 ∧ x16.2.2.2 = x.2.2.2 + 735 := by rw [ex16]; exact x15_c
  show wp S (d + 3) 13 15 [some (.ref a)] [] (wv x16 I16 J10) _
  refine wp_seg (C := gC13) (pc1 := 18) (Lo1 := [some (.ref a)]) (st1' := [.int (30 : Int32), .ref a]) (w1 := (wv x16 I16 J10)) rfl 2 rfl ?_
  refine wn_arr (q := 1) (c := 30) rfl ⟨by decide, by decide, by decide⟩ ⟨rfl, by decide⟩ (by rw [hl_x16]; exact lmj hm (by decide)) ?_
  rw [hl_x16]
  obtain ⟨x17, ex17⟩ : ∃ z, z = xA x16 (1, 30) 30 := ⟨_, rfl⟩
  rw [← ex17]
  have hl_x17 : 68 + x17.1.length = a + 10 := by rw [ex17]; exact xA_len hl_x16
  have x17_s0 : sh x17 a = some (0, 2) := by rw [ex17]; exact (xA_old hl_x16 (al0 (by decide))).trans x16_s0
  have x17_s1 : sh x17 (a + 1) = some (0, 3) := by rw [ex17]; exact (xA_old hl_x16 (al (by decide))).trans x16_s1
  have x17_s2 : sh x17 (a + 2) = some (1, 64) := by rw [ex17]; exact (xA_old hl_x16 (al (by decide))).trans x16_s2
  have x17_s3 : sh x17 (a + 3) = some (4, 6) := by rw [ex17]; exact (xA_old hl_x16 (al (by decide))).trans x16_s3
  have x17_s4 : sh x17 (a + 4) = some (1, 8) := by rw [ex17]; exact (xA_old hl_x16 (al (by decide))).trans x16_s4
  have x17_s5 : sh x17 (a + 5) = some (1, 8) := by rw [ex17]; exact (xA_old hl_x16 (al (by decide))).trans x16_s5
  have x17_s6 : sh x17 (a + 6) = some (1, 12) := by rw [ex17]; exact (xA_old hl_x16 (al (by decide))).trans x16_s6
  have x17_s7 : sh x17 (a + 7) = some (1, 240) := by rw [ex17]; exact (xA_old hl_x16 (al (by decide))).trans x16_s7
  have x17_s8 : sh x17 (a + 8) = some (4, 384) := by rw [ex17]; exact (xA_old hl_x16 (al (by decide))).trans x16_s8
  have x17_s9 : sh x17 (a + 9) = some (1, 30) := by rw [ex17]; exact xA_new hl_x16
  have x17_r1_6 : rf x17 (a + 1) 6 = some (a + 2) := by rw [ex17]; exact (xA_rf hl_x16 (al (by decide))).trans x16_r1_6
  have x17_r1_7 : rf x17 (a + 1) 7 = some (a + 3) := by rw [ex17]; exact (xA_rf hl_x16 (al (by decide))).trans x16_r1_7
  have x17_r1_8 : rf x17 (a + 1) 8 = some (a + 4) := by rw [ex17]; exact (xA_rf hl_x16 (al (by decide))).trans x16_r1_8
  have x17_r1_9 : rf x17 (a + 1) 9 = some (a + 5) := by rw [ex17]; exact (xA_rf hl_x16 (al (by decide))).trans x16_r1_9
  have x17_r1_10 : rf x17 (a + 1) 10 = some (a + 6) := by rw [ex17]; exact (xA_rf hl_x16 (al (by decide))).trans x16_r1_10
  have x17_r1_11 : rf x17 (a + 1) 11 = some (a + 7) := by rw [ex17]; exact (xA_rf hl_x16 (al (by decide))).trans x16_r1_11
  have x17_r1_12 : rf x17 (a + 1) 12 = some (a + 8) := by rw [ex17]; exact (xA_rf hl_x16 (al (by decide))).trans x16_r1_12
  have x17_r0_0 : rf x17 a 0 = some (a + 1) := by rw [ex17]; exact (xA_rf hl_x16 (al0 (by decide))).trans x16_r0_0
  have x17_fS : ∀ b, b ≤ a → sh x17 b = sh x b := fun b hb => by rw [ex17]; exact (xA_old hl_x16 (lej hb (by decide))).trans (x16_fS b hb)
  have x17_fR : ∀ b, b < a → x17.2.1 b = x.2.1 b := fun b hb => by rw [ex17]; exact (xA_kf hl_x16 (ltj hb)).trans (x16_fR b hb)
  have x17_c : x17.2.2.1 = x.2.2.1 + 9 ∧ x17.2.2.2 = x.2.2.2 + 765 := by rw [ex17]; exact cA x16_c
  obtain ⟨I17, eI17⟩ : ∃ z, z = va_up I16 (a + 9) (fun _ => 0) := ⟨_, rfl⟩
  rw [← eI17]
  have fI17 : ∀ b, b ≤ a → I17 b = I b := fun b hb => (show I17 b = I16 b by rw [eI17]; exact vu_ne (nle hb (by decide))).trans (fI16 b hb)
  obtain ⟨J11, eJ11⟩ : ∃ z, z = va_up J10 (a + 9) (fun _ => 0) := ⟨_, rfl⟩
  rw [← eJ11]
  have fJ11 : ∀ b, b ≤ a → J11 b = J b := fun b hb => (show J11 b = J10 b by rw [eJ11]; exact vu_ne (nle hb (by decide))).trans (fJ10 b hb)
  show wp S (d + 3) 13 20 [some (.ref a)] [.ref (a + 9), .ref a] (wv x17 I17 J11) _
  refine wp_putr (ci := 2) (k := 1) rfl rfl x17_s0 ⟨rfl, rfl, rfl, rfl⟩ h68 ?_
  obtain ⟨x18, ex18⟩ : ∃ z, z = xR x17 a 1 (a + 9) := ⟨_, rfl⟩
  rw [← ex18]
  have hl_x18 : 68 + x18.1.length = a + 10 := by rw [ex18]; exact hl_x17
  have x18_s0 : sh x18 a = some (0, 2) := by rw [ex18]; exact x17_s0
  have x18_s1 : sh x18 (a + 1) = some (0, 3) := by rw [ex18]; exact x17_s1
  have x18_s2 : sh x18 (a + 2) = some (1, 64) := by rw [ex18]; exact x17_s2
  have x18_s3 : sh x18 (a + 3) = some (4, 6) := by rw [ex18]; exact x17_s3
  have x18_s4 : sh x18 (a + 4) = some (1, 8) := by rw [ex18]; exact x17_s4
  have x18_s5 : sh x18 (a + 5) = some (1, 8) := by rw [ex18]; exact x17_s5
  have x18_s6 : sh x18 (a + 6) = some (1, 12) := by rw [ex18]; exact x17_s6
  have x18_s7 : sh x18 (a + 7) = some (1, 240) := by rw [ex18]; exact x17_s7
  have x18_s8 : sh x18 (a + 8) = some (4, 384) := by rw [ex18]; exact x17_s8
  have x18_s9 : sh x18 (a + 9) = some (1, 30) := by rw [ex18]; exact x17_s9
  have x18_r1_6 : rf x18 (a + 1) 6 = some (a + 2) := by rw [ex18]; exact (xR_ne (fun z => nj0 (by decide) z.1) (b68 h68)).trans x17_r1_6
  have x18_r1_7 : rf x18 (a + 1) 7 = some (a + 3) := by rw [ex18]; exact (xR_ne (fun z => nj0 (by decide) z.1) (b68 h68)).trans x17_r1_7
  have x18_r1_8 : rf x18 (a + 1) 8 = some (a + 4) := by rw [ex18]; exact (xR_ne (fun z => nj0 (by decide) z.1) (b68 h68)).trans x17_r1_8
  have x18_r1_9 : rf x18 (a + 1) 9 = some (a + 5) := by rw [ex18]; exact (xR_ne (fun z => nj0 (by decide) z.1) (b68 h68)).trans x17_r1_9
  have x18_r1_10 : rf x18 (a + 1) 10 = some (a + 6) := by rw [ex18]; exact (xR_ne (fun z => nj0 (by decide) z.1) (b68 h68)).trans x17_r1_10
  have x18_r1_11 : rf x18 (a + 1) 11 = some (a + 7) := by rw [ex18]; exact (xR_ne (fun z => nj0 (by decide) z.1) (b68 h68)).trans x17_r1_11
  have x18_r1_12 : rf x18 (a + 1) 12 = some (a + 8) := by rw [ex18]; exact (xR_ne (fun z => nj0 (by decide) z.1) (b68 h68)).trans x17_r1_12
  have x18_r0_0 : rf x18 a 0 = some (a + 1) := by rw [ex18]; exact (xR_ne (fun z => absurd z.2 (by decide)) (b68 h68)).trans x17_r0_0
  have x18_r0_1 : rf x18 a 1 = some (a + 9) := by rw [ex18]; exact xR_at h68
  have x18_fS : ∀ b, b ≤ a → sh x18 b = sh x b := fun b hb => by rw [ex18]; exact x17_fS b hb
  have x18_fR : ∀ b, b < a → x18.2.1 b = x.2.1 b := fun b hb => by rw [ex18]; exact (xR_kf (nlt0 hb)).trans (x17_fR b hb)
  have x18_c : x18.2.2.1 = x.2.2.1 + 9 ∧ x18.2.2.2 = x.2.2.2 + 765 := by rw [ex18]; exact x17_c
  show wp S (d + 3) 13 23 [some (.ref a)] [] (wv x18 I17 J11) _
  refine wp_seg (C := gC13) (pc1 := 26) (Lo1 := [some (.ref a)]) (st1' := [.int (30 : Int32), .ref a]) (w1 := (wv x18 I17 J11)) rfl 2 rfl ?_
  refine wn_arr (q := 1) (c := 30) rfl ⟨by decide, by decide, by decide⟩ ⟨rfl, by decide⟩ (by rw [hl_x18]; exact lmj hm (by decide)) ?_
  rw [hl_x18]
  obtain ⟨x19, ex19⟩ : ∃ z, z = xA x18 (1, 30) 30 := ⟨_, rfl⟩
  rw [← ex19]
  have hl_x19 : 68 + x19.1.length = a + 11 := by rw [ex19]; exact xA_len hl_x18
  have x19_s0 : sh x19 a = some (0, 2) := by rw [ex19]; exact (xA_old hl_x18 (al0 (by decide))).trans x18_s0
  have x19_s1 : sh x19 (a + 1) = some (0, 3) := by rw [ex19]; exact (xA_old hl_x18 (al (by decide))).trans x18_s1
  have x19_s2 : sh x19 (a + 2) = some (1, 64) := by rw [ex19]; exact (xA_old hl_x18 (al (by decide))).trans x18_s2
  have x19_s3 : sh x19 (a + 3) = some (4, 6) := by rw [ex19]; exact (xA_old hl_x18 (al (by decide))).trans x18_s3
  have x19_s4 : sh x19 (a + 4) = some (1, 8) := by rw [ex19]; exact (xA_old hl_x18 (al (by decide))).trans x18_s4
  have x19_s5 : sh x19 (a + 5) = some (1, 8) := by rw [ex19]; exact (xA_old hl_x18 (al (by decide))).trans x18_s5
  have x19_s6 : sh x19 (a + 6) = some (1, 12) := by rw [ex19]; exact (xA_old hl_x18 (al (by decide))).trans x18_s6
  have x19_s7 : sh x19 (a + 7) = some (1, 240) := by rw [ex19]; exact (xA_old hl_x18 (al (by decide))).trans x18_s7
  have x19_s8 : sh x19 (a + 8) = some (4, 384) := by rw [ex19]; exact (xA_old hl_x18 (al (by decide))).trans x18_s8
  have x19_s9 : sh x19 (a + 9) = some (1, 30) := by rw [ex19]; exact (xA_old hl_x18 (al (by decide))).trans x18_s9
  have x19_s10 : sh x19 (a + 10) = some (1, 30) := by rw [ex19]; exact xA_new hl_x18
  have x19_r1_6 : rf x19 (a + 1) 6 = some (a + 2) := by rw [ex19]; exact (xA_rf hl_x18 (al (by decide))).trans x18_r1_6
  have x19_r1_7 : rf x19 (a + 1) 7 = some (a + 3) := by rw [ex19]; exact (xA_rf hl_x18 (al (by decide))).trans x18_r1_7
  have x19_r1_8 : rf x19 (a + 1) 8 = some (a + 4) := by rw [ex19]; exact (xA_rf hl_x18 (al (by decide))).trans x18_r1_8
  have x19_r1_9 : rf x19 (a + 1) 9 = some (a + 5) := by rw [ex19]; exact (xA_rf hl_x18 (al (by decide))).trans x18_r1_9
  have x19_r1_10 : rf x19 (a + 1) 10 = some (a + 6) := by rw [ex19]; exact (xA_rf hl_x18 (al (by decide))).trans x18_r1_10
  have x19_r1_11 : rf x19 (a + 1) 11 = some (a + 7) := by rw [ex19]; exact (xA_rf hl_x18 (al (by decide))).trans x18_r1_11
  have x19_r1_12 : rf x19 (a + 1) 12 = some (a + 8) := by rw [ex19]; exact (xA_rf hl_x18 (al (by decide))).trans x18_r1_12
  have x19_r0_0 : rf x19 a 0 = some (a + 1) := by rw [ex19]; exact (xA_rf hl_x18 (al0 (by decide))).trans x18_r0_0
  have x19_r0_1 : rf x19 a 1 = some (a + 9) := by rw [ex19]; exact (xA_rf hl_x18 (al0 (by decide))).trans x18_r0_1
  have x19_fS : ∀ b, b ≤ a → sh x19 b = sh x b := fun b hb => by rw [ex19]; exact (xA_old hl_x18 (lej hb (by decide))).trans (x18_fS b hb)
  have x19_fR : ∀ b, b < a → x19.2.1 b = x.2.1 b := fun b hb => by rw [ex19]; exact (xA_kf hl_x18 (ltj hb)).trans (x18_fR b hb)
  have x19_c : x19.2.2.1 = x.2.2.1 + 10 ∧ x19.2.2.2 = x.2.2.2 + 795 := by rw [ex19]; exact cA x18_c
  obtain ⟨I18, eI18⟩ : ∃ z, z = va_up I17 (a + 10) (fun _ => 0) := ⟨_, rfl⟩
  rw [← eI18]
  have fI18 : ∀ b, b ≤ a → I18 b = I b := fun b hb => (show I18 b = I17 b by rw [eI18]; exact vu_ne (nle hb (by decide))).trans (fI17 b hb)
  obtain ⟨J12, eJ12⟩ : ∃ z, z = va_up J11 (a + 10) (fun _ => 0) := ⟨_, rfl⟩
  rw [← eJ12]
  have fJ12 : ∀ b, b ≤ a → J12 b = J b := fun b hb => (show J12 b = J11 b by rw [eJ12]; exact vu_ne (nle hb (by decide))).trans (fJ11 b hb)
  show wp S (d + 3) 13 28 [some (.ref a)] [.ref (a + 10), .ref a] (wv x19 I18 J12) _
  refine wp_putr (ci := 2) (k := 2) rfl rfl x19_s0 ⟨rfl, rfl, rfl, rfl⟩ h68 ?_
  obtain ⟨x20, ex20⟩ : ∃ z, z = xR x19 a 2 (a + 10) := ⟨_, rfl⟩
  rw [← ex20]
  have hl_x20 : 68 + x20.1.length = a + 11 := by rw [ex20]; exact hl_x19
  have x20_s0 : sh x20 a = some (0, 2) := by rw [ex20]; exact x19_s0
  have x20_s1 : sh x20 (a + 1) = some (0, 3) := by rw [ex20]; exact x19_s1
  have x20_s2 : sh x20 (a + 2) = some (1, 64) := by rw [ex20]; exact x19_s2
  have x20_s3 : sh x20 (a + 3) = some (4, 6) := by rw [ex20]; exact x19_s3
  have x20_s4 : sh x20 (a + 4) = some (1, 8) := by rw [ex20]; exact x19_s4
  have x20_s5 : sh x20 (a + 5) = some (1, 8) := by rw [ex20]; exact x19_s5
  have x20_s6 : sh x20 (a + 6) = some (1, 12) := by rw [ex20]; exact x19_s6
  have x20_s7 : sh x20 (a + 7) = some (1, 240) := by rw [ex20]; exact x19_s7
  have x20_s8 : sh x20 (a + 8) = some (4, 384) := by rw [ex20]; exact x19_s8
  have x20_s9 : sh x20 (a + 9) = some (1, 30) := by rw [ex20]; exact x19_s9
  have x20_s10 : sh x20 (a + 10) = some (1, 30) := by rw [ex20]; exact x19_s10
  have x20_r1_6 : rf x20 (a + 1) 6 = some (a + 2) := by rw [ex20]; exact (xR_ne (fun z => nj0 (by decide) z.1) (b68 h68)).trans x19_r1_6
  have x20_r1_7 : rf x20 (a + 1) 7 = some (a + 3) := by rw [ex20]; exact (xR_ne (fun z => nj0 (by decide) z.1) (b68 h68)).trans x19_r1_7
  have x20_r1_8 : rf x20 (a + 1) 8 = some (a + 4) := by rw [ex20]; exact (xR_ne (fun z => nj0 (by decide) z.1) (b68 h68)).trans x19_r1_8
  have x20_r1_9 : rf x20 (a + 1) 9 = some (a + 5) := by rw [ex20]; exact (xR_ne (fun z => nj0 (by decide) z.1) (b68 h68)).trans x19_r1_9
  have x20_r1_10 : rf x20 (a + 1) 10 = some (a + 6) := by rw [ex20]; exact (xR_ne (fun z => nj0 (by decide) z.1) (b68 h68)).trans x19_r1_10
  have x20_r1_11 : rf x20 (a + 1) 11 = some (a + 7) := by rw [ex20]; exact (xR_ne (fun z => nj0 (by decide) z.1) (b68 h68)).trans x19_r1_11
  have x20_r1_12 : rf x20 (a + 1) 12 = some (a + 8) := by rw [ex20]; exact (xR_ne (fun z => nj0 (by decide) z.1) (b68 h68)).trans x19_r1_12
  have x20_r0_0 : rf x20 a 0 = some (a + 1) := by rw [ex20]; exact (xR_ne (fun z => absurd z.2 (by decide)) (b68 h68)).trans x19_r0_0
  have x20_r0_1 : rf x20 a 1 = some (a + 9) := by rw [ex20]; exact (xR_ne (fun z => absurd z.2 (by decide)) (b68 h68)).trans x19_r0_1
  have x20_r0_2 : rf x20 a 2 = some (a + 10) := by rw [ex20]; exact xR_at h68
  have x20_fS : ∀ b, b ≤ a → sh x20 b = sh x b := fun b hb => by rw [ex20]; exact x19_fS b hb
  have x20_fR : ∀ b, b < a → x20.2.1 b = x.2.1 b := fun b hb => by rw [ex20]; exact (xR_kf (nlt0 hb)).trans (x19_fR b hb)
  have x20_c : x20.2.2.1 = x.2.2.1 + 10 ∧ x20.2.2.2 = x.2.2.2 + 795 := by rw [ex20]; exact x19_c
  show wp S (d + 3) 13 31 [some (.ref a)] [] (wv x20 I18 J12) _
  refine wp_seg (C := gC13) (pc1 := 34) (Lo1 := [some (.ref a)]) (st1' := [.int (30 : Int32), .ref a]) (w1 := (wv x20 I18 J12)) rfl 2 rfl ?_
  refine wn_arr (q := 1) (c := 30) rfl ⟨by decide, by decide, by decide⟩ ⟨rfl, by decide⟩ (by rw [hl_x20]; exact lmj hm (by decide)) ?_
  rw [hl_x20]
  obtain ⟨x21, ex21⟩ : ∃ z, z = xA x20 (1, 30) 30 := ⟨_, rfl⟩
  rw [← ex21]
  have hl_x21 : 68 + x21.1.length = a + 12 := by rw [ex21]; exact xA_len hl_x20
  have x21_s0 : sh x21 a = some (0, 2) := by rw [ex21]; exact (xA_old hl_x20 (al0 (by decide))).trans x20_s0
  have x21_s1 : sh x21 (a + 1) = some (0, 3) := by rw [ex21]; exact (xA_old hl_x20 (al (by decide))).trans x20_s1
  have x21_s2 : sh x21 (a + 2) = some (1, 64) := by rw [ex21]; exact (xA_old hl_x20 (al (by decide))).trans x20_s2
  have x21_s3 : sh x21 (a + 3) = some (4, 6) := by rw [ex21]; exact (xA_old hl_x20 (al (by decide))).trans x20_s3
  have x21_s4 : sh x21 (a + 4) = some (1, 8) := by rw [ex21]; exact (xA_old hl_x20 (al (by decide))).trans x20_s4
  have x21_s5 : sh x21 (a + 5) = some (1, 8) := by rw [ex21]; exact (xA_old hl_x20 (al (by decide))).trans x20_s5
  have x21_s6 : sh x21 (a + 6) = some (1, 12) := by rw [ex21]; exact (xA_old hl_x20 (al (by decide))).trans x20_s6
  have x21_s7 : sh x21 (a + 7) = some (1, 240) := by rw [ex21]; exact (xA_old hl_x20 (al (by decide))).trans x20_s7
  have x21_s8 : sh x21 (a + 8) = some (4, 384) := by rw [ex21]; exact (xA_old hl_x20 (al (by decide))).trans x20_s8
  have x21_s9 : sh x21 (a + 9) = some (1, 30) := by rw [ex21]; exact (xA_old hl_x20 (al (by decide))).trans x20_s9
  have x21_s10 : sh x21 (a + 10) = some (1, 30) := by rw [ex21]; exact (xA_old hl_x20 (al (by decide))).trans x20_s10
  have x21_s11 : sh x21 (a + 11) = some (1, 30) := by rw [ex21]; exact xA_new hl_x20
  have x21_r1_6 : rf x21 (a + 1) 6 = some (a + 2) := by rw [ex21]; exact (xA_rf hl_x20 (al (by decide))).trans x20_r1_6
  have x21_r1_7 : rf x21 (a + 1) 7 = some (a + 3) := by rw [ex21]; exact (xA_rf hl_x20 (al (by decide))).trans x20_r1_7
  have x21_r1_8 : rf x21 (a + 1) 8 = some (a + 4) := by rw [ex21]; exact (xA_rf hl_x20 (al (by decide))).trans x20_r1_8
  have x21_r1_9 : rf x21 (a + 1) 9 = some (a + 5) := by rw [ex21]; exact (xA_rf hl_x20 (al (by decide))).trans x20_r1_9
  have x21_r1_10 : rf x21 (a + 1) 10 = some (a + 6) := by rw [ex21]; exact (xA_rf hl_x20 (al (by decide))).trans x20_r1_10
  have x21_r1_11 : rf x21 (a + 1) 11 = some (a + 7) := by rw [ex21]; exact (xA_rf hl_x20 (al (by decide))).trans x20_r1_11
  have x21_r1_12 : rf x21 (a + 1) 12 = some (a + 8) := by rw [ex21]; exact (xA_rf hl_x20 (al (by decide))).trans x20_r1_12
  have x21_r0_0 : rf x21 a 0 = some (a + 1) := by rw [ex21]; exact (xA_rf hl_x20 (al0 (by decide))).trans x20_r0_0
  have x21_r0_1 : rf x21 a 1 = some (a + 9) := by rw [ex21]; exact (xA_rf hl_x20 (al0 (by decide))).trans x20_r0_1
  have x21_r0_2 : rf x21 a 2 = some (a + 10) := by rw [ex21]; exact (xA_rf hl_x20 (al0 (by decide))).trans x20_r0_2
  have x21_fS : ∀ b, b ≤ a → sh x21 b = sh x b := fun b hb => by rw [ex21]; exact (xA_old hl_x20 (lej hb (by decide))).trans (x20_fS b hb)
  have x21_fR : ∀ b, b < a → x21.2.1 b = x.2.1 b := fun b hb => by rw [ex21]; exact (xA_kf hl_x20 (ltj hb)).trans (x20_fR b hb)
  have x21_c : x21.2.2.1 = x.2.2.1 + 11 ∧ x21.2.2.2 = x.2.2.2 + 825 := by rw [ex21]; exact cA x20_c
  obtain ⟨I19, eI19⟩ : ∃ z, z = va_up I18 (a + 11) (fun _ => 0) := ⟨_, rfl⟩
  rw [← eI19]
  have fI19 : ∀ b, b ≤ a → I19 b = I b := fun b hb => (show I19 b = I18 b by rw [eI19]; exact vu_ne (nle hb (by decide))).trans (fI18 b hb)
  obtain ⟨J13, eJ13⟩ : ∃ z, z = va_up J12 (a + 11) (fun _ => 0) := ⟨_, rfl⟩
  rw [← eJ13]
  have fJ13 : ∀ b, b ≤ a → J13 b = J b := fun b hb => (show J13 b = J12 b by rw [eJ13]; exact vu_ne (nle hb (by decide))).trans (fJ12 b hb)
  show wp S (d + 3) 13 36 [some (.ref a)] [.ref (a + 11), .ref a] (wv x21 I19 J13) _
  refine wp_putr (ci := 2) (k := 3) rfl rfl x21_s0 ⟨rfl, rfl, rfl, rfl⟩ h68 ?_
  obtain ⟨x22, ex22⟩ : ∃ z, z = xR x21 a 3 (a + 11) := ⟨_, rfl⟩
  rw [← ex22]
  have hl_x22 : 68 + x22.1.length = a + 12 := by rw [ex22]; exact hl_x21
  have x22_s0 : sh x22 a = some (0, 2) := by rw [ex22]; exact x21_s0
  have x22_s1 : sh x22 (a + 1) = some (0, 3) := by rw [ex22]; exact x21_s1
  have x22_s2 : sh x22 (a + 2) = some (1, 64) := by rw [ex22]; exact x21_s2
  have x22_s3 : sh x22 (a + 3) = some (4, 6) := by rw [ex22]; exact x21_s3
  have x22_s4 : sh x22 (a + 4) = some (1, 8) := by rw [ex22]; exact x21_s4
  have x22_s5 : sh x22 (a + 5) = some (1, 8) := by rw [ex22]; exact x21_s5
  have x22_s6 : sh x22 (a + 6) = some (1, 12) := by rw [ex22]; exact x21_s6
  have x22_s7 : sh x22 (a + 7) = some (1, 240) := by rw [ex22]; exact x21_s7
  have x22_s8 : sh x22 (a + 8) = some (4, 384) := by rw [ex22]; exact x21_s8
  have x22_s9 : sh x22 (a + 9) = some (1, 30) := by rw [ex22]; exact x21_s9
  have x22_s10 : sh x22 (a + 10) = some (1, 30) := by rw [ex22]; exact x21_s10
  have x22_s11 : sh x22 (a + 11) = some (1, 30) := by rw [ex22]; exact x21_s11
  have x22_r1_6 : rf x22 (a + 1) 6 = some (a + 2) := by rw [ex22]; exact (xR_ne (fun z => nj0 (by decide) z.1) (b68 h68)).trans x21_r1_6
  have x22_r1_7 : rf x22 (a + 1) 7 = some (a + 3) := by rw [ex22]; exact (xR_ne (fun z => nj0 (by decide) z.1) (b68 h68)).trans x21_r1_7
  have x22_r1_8 : rf x22 (a + 1) 8 = some (a + 4) := by rw [ex22]; exact (xR_ne (fun z => nj0 (by decide) z.1) (b68 h68)).trans x21_r1_8
  have x22_r1_9 : rf x22 (a + 1) 9 = some (a + 5) := by rw [ex22]; exact (xR_ne (fun z => nj0 (by decide) z.1) (b68 h68)).trans x21_r1_9
  have x22_r1_10 : rf x22 (a + 1) 10 = some (a + 6) := by rw [ex22]; exact (xR_ne (fun z => nj0 (by decide) z.1) (b68 h68)).trans x21_r1_10
  have x22_r1_11 : rf x22 (a + 1) 11 = some (a + 7) := by rw [ex22]; exact (xR_ne (fun z => nj0 (by decide) z.1) (b68 h68)).trans x21_r1_11
  have x22_r1_12 : rf x22 (a + 1) 12 = some (a + 8) := by rw [ex22]; exact (xR_ne (fun z => nj0 (by decide) z.1) (b68 h68)).trans x21_r1_12
  have x22_r0_0 : rf x22 a 0 = some (a + 1) := by rw [ex22]; exact (xR_ne (fun z => absurd z.2 (by decide)) (b68 h68)).trans x21_r0_0
  have x22_r0_1 : rf x22 a 1 = some (a + 9) := by rw [ex22]; exact (xR_ne (fun z => absurd z.2 (by decide)) (b68 h68)).trans x21_r0_1
  have x22_r0_2 : rf x22 a 2 = some (a + 10) := by rw [ex22]; exact (xR_ne (fun z => absurd z.2 (by decide)) (b68 h68)).trans x21_r0_2
  have x22_r0_3 : rf x22 a 3 = some (a + 11) := by rw [ex22]; exact xR_at h68
  have x22_fS : ∀ b, b ≤ a → sh x22 b = sh x b := fun b hb => by rw [ex22]; exact x21_fS b hb
  have x22_fR : ∀ b, b < a → x22.2.1 b = x.2.1 b := fun b hb => by rw [ex22]; exact (xR_kf (nlt0 hb)).trans (x21_fR b hb)
  have x22_c : x22.2.2.1 = x.2.2.1 + 11 ∧ x22.2.2.2 = x.2.2.2 + 825 := by rw [ex22]; exact x21_c
  show wp S (d + 3) 13 39 [some (.ref a)] [] (wv x22 I19 J13) _
  refine wp_vret (mi := 13) (pc := 39) rfl rfl ?_
  exact k x22 I19 J13 ⟨⟨x22_s0, x22_s1, x22_s2, x22_s3, x22_s4, x22_s5, x22_s6, x22_s7, x22_s8, x22_s9, x22_s10, x22_s11⟩, ⟨x22_r0_0, x22_r0_1, x22_r0_2, x22_r0_3⟩, x22_r1_6, x22_r1_7, x22_r1_8, x22_r1_9, x22_r1_10, x22_r1_11, x22_r1_12⟩ (lenE ha hl_x22) x22_fS x22_fR fI19 fJ13 ⟨x22_c.1, Nat.le_trans (Nat.le_of_eq x22_c.2) (Nat.add_le_add_left (by decide) _)⟩
end GU1
