section
/-! EACH CALL ON A NEW OBJECT: the class and the reference answer alike -/
section OPC
variable {S : Nat × (Nat → Int32)} {d : Nat} {x : mX} {I : rI0} {J : rJ0}
theorem vu_ne {α : Type} {f : Nat → α} {n a : Nat} {g : α} (h : a ≠ n) : va_up f n g a = f a := by
  unfold va_up
  rw [if_neg h]
/-- the class as it is made -/
def CI (I : rI0) (J : rJ0) : Prop := DZ I J ∧ I 1 1 = 0 ∧ I 0 9 = 0 ∧ I 0 10 = 0 ∧ (∀ k, k < 12 → I 9 k = -1) ∧ I 37 7 = 0 ∧ I 37 8 = -1 ∧ I 37 9 = -1 ∧ I 37 10 = -1 ∧ I 37 11 = -1 ∧ I 37 12 = -1 ∧ I 37 13 = -1
/-- the reference as it is made -/
def MI (I : rI0) (J : rJ0) : Prop := MB I J ∧ I 43 2 = 0 ∧ I 43 13 = 0 ∧ I 43 48 = -1 ∧ I 43 52 = 0 ∧ I 43 55 = 0 ∧ I 43 59 = -1 ∧ I 43 60 = -1 ∧ I 43 63 = 0 ∧ (∀ k, k < 2 → I 66 k = 0) ∧ (∀ i, i < 12 → I 45 (86 + 42 * i) = 0)
theorem MI.mv (h : MI I J) {I' : rI0} {J' : rJ0} (hi : ∀ a, 43 ≤ a → a ≤ 66 → I' a = I a) (hj : ∀ a, 43 ≤ a → a ≤ 66 → J' a = J a) : MI I' J' := by
  unfold MI MB at h ⊢
  rw [hi 43 (by omega) (by omega), hi 45 (by omega) (by omega), hi 66 (by omega) (by omega), hj 43 (by omega) (by omega), hj 52 (by omega) (by omega), hj 53 (by omega) (by omega), hj 54 (by omega) (by omega), hj 55 (by omega) (by omega)]
  exact h
theorem MI.dd (h : MI I J) {I' : rI0} {J' : rJ0} (o : OffD I J I' J') : MI I' J' := h.mv (fun a ha _ => o.1 a (by omega)) (fun a ha _ => o.2 a (by omega))
theorem MI.t (h : MI I J) {n : Nat} (hn : 68 ≤ n) : MI (va_up I n (fun _ => 0)) (va_up J n (fun _ => 0)) := h.mv (fun a _ h2 => vu_ne (by omega)) (fun a _ h2 => vu_ne (by omega))
theorem eqok {r : Int32} {A B : Prop} (h : A) : (r = r → A) ∧ (¬ r = r → B) := ⟨fun _ => h, fun n => absurd rfl n⟩
theorem eqok2 {r s : Int32} {A B : Prop} (e : r = s) (h : A) : (r = s → A) ∧ (¬ r = s → B) := ⟨fun _ => h, fun n => absurd e n⟩
/-! feed -/
theorem put_1 {l1 l2 : Int32} {n : Nat} {Q : rI0 → rJ0 → Prop} (hl : ¬ l2 < 0) (hn : I 1 1 = nI n) (h : n < 940) (k : ∀ I', I' 1 1 = nI (n + 1) → (∀ a, a ≠ 1 → a ≠ 2 → I' a = I a) → wp S d 66 3 [some (.ref 1), some (.int l1), some (.int (l2 + -8))] [] (wv x I' J) (rV x Q)) : wp S d 66 3 [some (.ref 1), some (.int l1), some (.int l2)] [] (wv x I J) (rV x Q) := by
  refine v66_1_3 ⟨fun q => absurd q hl, fun _ => ⟨fun _ => ⟨by rw [hn]; exact nI_in h (by omega), k _ ?_ ?_⟩, fun q => absurd (by rw [hn]; exact nI_lt (b := 940) h (by omega)) q⟩⟩
  · show I 1 1 + 1 = _
    rw [hn, nI_succ]
  · intro a h1 h2
    rw [mSet_ne h1, mSet_ne h2]
theorem put0 {p : Int32} {n : Nat} {Q : rI0 → rJ0 → Prop} (hn : I 1 1 = nI n) (h : n + 4 ≤ 940) (k : ∀ I', I' 1 1 = nI (n + 4) → (∀ a, a ≠ 1 → a ≠ 2 → I' a = I a) → Q I' J) : wcV S d 66 [.ref 1, .int p] x I J Q := by
  refine c66_1 (put_1 (n := n) (by decide) hn (by omega) (fun I1 h1 o1 => put_1 (n := n + 1) (by decide) h1 (by omega) (fun I2 h2 o2 => put_1 (n := n + 2) (by decide) h2 (by omega) (fun I3 h3 o3 => put_1 (n := n + 3) (by decide) h3 (by omega) (fun I4 h4 o4 => v66_1_3 ⟨fun _ => k I4 h4 ?_, fun q => absurd (by decide) q⟩)))))
  intro a ha hb
  rw [o4 a ha hb, o3 a ha hb, o2 a ha hb, o1 a ha hb]
theorem feedC {p1 p2 p3 p4 p5 : Int32} {Q : Int32 → rI0 → rJ0 → Prop} (h : I 1 1 = nI 0) (k : ∀ I', (∀ a, a ≠ 1 → a ≠ 2 → I' a = I a) → Q (nI 20) I' J) : wcI S (d + 1) 99 [.ref 0, .int p1, .int p2, .int p3, .int p4, .int p5] x I J Q := by
  refine c99_0 ⟨fun q => absurd q (by rw [h]; decide), fun _ => put0 h (by omega) (fun I1 h1 o1 => put0 h1 (by omega) (fun I2 h2 o2 => put0 h2 (by omega) (fun I3 h3 o3 => put0 h3 (by omega) (fun I4 h4 o4 => put0 h4 (by omega) (fun I5 h5 o5 => ?_)))))⟩
  rw [h5]
  refine k I5 (fun a ha hb => ?_)
  rw [o5 a ha hb, o4 a ha hb, o3 a ha hb, o2 a ha hb, o1 a ha hb]
theorem four_1 {l1 l2 : Int32} {n : Nat} {Q : rI0 → rJ0 → Prop} (hl : ¬ l2 < 0) (hn : I 43 2 = nI n) (h : n < 940) (k : ∀ I', I' 43 2 = nI (n + 1) → wp S d 148 3 [some (.ref 43), some (.int l1), some (.int (l2 + -8))] [] (wv x I' J) (rV x Q)) : wp S d 148 3 [some (.ref 43), some (.int l1), some (.int l2)] [] (wv x I J) (rV x Q) := by
  refine v148_43_3 ⟨fun q => absurd q hl, fun _ => ⟨by rw [hn]; exact nI_in h (by omega), k _ ?_⟩⟩
  show I 43 2 + 1 = _
  rw [hn, nI_succ]
theorem four0 {p : Int32} {n : Nat} {Q : rI0 → rJ0 → Prop} (hn : I 43 2 = nI n) (h : n + 4 ≤ 940) (k : ∀ I', I' 43 2 = nI (n + 4) → Q I' J) : wcV S d 148 [.ref 43, .int p] x I J Q :=
  c148_43 (four_1 (n := n) (by decide) hn (by omega) (fun I1 h1 => four_1 (n := n + 1) (by decide) h1 (by omega) (fun I2 h2 => four_1 (n := n + 2) (by decide) h2 (by omega) (fun I3 h3 => four_1 (n := n + 3) (by decide) h3 (by omega) (fun I4 h4 => v148_43_3 ⟨fun _ => k I4 h4, fun q => absurd (by decide) q⟩)))))
theorem feedM {p1 p2 p3 p4 p5 : Int32} {Q : Int32 → rI0 → rJ0 → Prop} (h : I 43 2 = nI 0) (k : ∀ I', Q (nI 20) I' J) : wcI S (d + 1) 147 [.ref 43, .int p1, .int p2, .int p3, .int p4, .int p5] x I J Q := by
  refine c147_43 ⟨fun q => absurd q (by rw [h]; decide), fun _ => four0 (n := 0) h (by omega) (fun I1 h1 => four0 h1 (by omega) (fun I2 h2 => four0 h2 (by omega) (fun I3 h3 => four0 h3 (by omega) (fun I4 h4 => four0 h4 (by omega) (fun I5 h5 => ?_)))))⟩
  rw [h5]
  exact k I5
/-! house and cues on an empty tape -/
def Up43 (I : rI0) (J : rJ0) (I' : rI0) (J' : rJ0) : Prop := (∀ a, 43 ≤ a → a ≤ 66 → I' a = I a) ∧ ∀ a, 43 ≤ a → a ≤ 66 → J' a = J a
theorem fillI_v {b n : Nat} {v : Int32} {Q : rI0 → rJ0 → Prop} (hs : (SHL ++ x.1)[b]? = some (1, n)) (hn : n < 2 ^ 31) (k : Q (va_up I b (fun j => if j < n then v else I b j)) J) : wcV S d 252 [.ref b, .int v] x I J Q := fillI (w := wv x I J) hs hn ⟨_, J, rfl, rfl, k⟩
theorem fillJ_v {b n : Nat} {v : Int64} {Q : rI0 → rJ0 → Prop} (hs : (SHL ++ x.1)[b]? = some (4, n)) (hn : n < 2 ^ 31) (k : Q I (va_up J b (fun j => if j < n then v else J b j))) : wcV S d 251 [.ref b, .long v] x I J Q := fillJ (w := wv x I J) hs hn ⟨I, _, rfl, rfl, k⟩
theorem clear16 {Q : rI0 → rJ0 → Prop} (k : ∀ I' J', Up43 I J I' J' → I' 16 0 = 0 → I' 16 1 = 0 → I' 16 4 = 0 → J' 16 5 = 0 → I' 1 = I 1 → Q I' J') : wcV S (d + 1) 21 [.ref 16] x I J Q := by
  refine c21_16 (fillJ_v rfl (by decide) (fillI_v rfl (by decide) (fillI_v rfl (by decide) (fillI_v rfl (by decide) ?_))))
  refine k _ _ ⟨fun a h1 h2 => ?_, fun a h1 h2 => ?_⟩ rfl rfl rfl rfl rfl
  · rw [vu_ne (by omega), vu_ne (by omega), vu_ne (by omega), mSet_ne (by omega), mSet_ne (by omega), mSet_ne (by omega), mSet_ne (by omega), mSet_ne (by omega)]
  · rw [vu_ne (by omega), mSet_ne (by omega)]
theorem read0 {Q : rI0 → rJ0 → Prop} (h1 : I 28 1 = 0) (h2 : I 28 2 = 0) (h5 : I 28 5 = 0) (k : Q (mSet (mSet I 28 4 0) 28 3 1) J) : wcV S d 70 [.ref 28] x I J Q := by
  refine c70_28 ⟨fun q => absurd q (by rw [h1, h5]; decide), fun _ => v70_28_52 ⟨fun q => absurd q (by rw [h2, h5]; decide), fun _ => ⟨fun q => absurd q (by rw [h1, h2]; decide), fun _ => ?_⟩⟩⟩
  rw [h2]
  exact k
theorem open0 {p q : Int32} {Q : rI0 → rJ0 → Prop} (hp : p = 0) (hq : ¬ q < 0) (k : ∀ I', (∀ a, a ≠ 28 → I' a = I a) → I' 28 3 = 1 → I' 28 8 = 0 → Q I' J) : wcV S (d + 1) 69 [.ref 28, .int p, .int q] x I J Q := by
  subst hp
  have e1 : (if (940 : Int32) < 0 then (940 : Int32) else 0) = 0 := by decide
  refine c69_28 ?_
  rw [e1, if_neg hq]
  refine read0 rfl rfl rfl (k _ (fun a ha => ?_) rfl rfl)
  rw [mSet_ne ha, mSet_ne ha, mSet_ne ha, mSet_ne ha, mSet_ne ha, mSet_ne ha]
theorem surv_lp {Q : rI0 → rJ0 → Prop} (hj : J 16 5 = 0) (k : Q I J) : ∀ m c : Nat, c + m = 64 → wp S (d + 1) 32 66 [some (.ref 16), some (.int (nI c))] [] (wv x I J) (rV x Q) := by
  intro m
  induction m with
  | zero =>
    intro c hc
    have hc : c = 64 := by omega
    subst hc
    exact v32_16_66 ⟨fun h => absurd h (by decide), fun _ => k⟩
  | succ m ih =>
    intro c hc
    have h := ih (c + 1) (by omega)
    rw [nI_succ] at h
    exact v32_16_66 ⟨fun _ => isSeat16 hj (eqok h), fun h1 => absurd (nI_lt (by omega) (by omega) : nI c < nI 64) h1⟩
theorem survey0 {Q : rI0 → rJ0 → Prop} (h0 : I 16 0 = 0) (h1 : I 16 1 = 0) (k : Q I (mSet J 16 5 0)) : wcV S (d + 1) 32 [.ref 16] x I J Q := by
  refine c32_16 (v32_16_7 (c23_16 ⟨fun q => absurd q (by rw [h0, h1]; decide), fun _ => surv_lp rfl k 64 0 rfl⟩))
theorem cp30 : (¬ (0 : Int32) < 0 ∧ ¬ (0 : Int32) < 0 ∧ ¬ (30 : Int32) < 0 ∧ (0 : Int32).toNatClampNeg + (30 : Int32).toNatClampNeg ≤ 30 ∧ (0 : Int32).toNatClampNeg + (30 : Int32).toNatClampNeg ≤ 30) := by decide
theorem takeCues0 {Q : rI0 → rJ0 → Prop} (k : ∀ I', (∀ a, a ≠ 3 → a ≠ 12 → a ≠ 13 → a ≠ 14 → I' a = I a) → I' 3 4 = I 15 4 → Q I' J) : wcV S (d + 1) 16 [.ref 3, .ref 15] x I J Q := by
  refine c16_3_15 ⟨cp30, fun I1 e1 => ⟨cp30, fun I2 e2 => ⟨cp30, fun I3 e3 => k I3 (fun a h1 h2 h3 h4 => ?_) ?_⟩⟩⟩
  · rw [e3, vu_ne h4, e2, vu_ne h3, e1, vu_ne h2, mSet_ne h1]
  · rw [e3, e2, e1]
    rfl
theorem takeHouse0 {Q : rI0 → rJ0 → Prop} (h4 : I 16 4 = 0 ∨ I 16 4 = 1) (k : ∀ I' J', (∀ a, ¬ (4 ≤ a ∧ a ≤ 11) → I' a = I a) → (∀ a, ¬ (4 ≤ a ∧ a ≤ 11) → J' a = J a) → Q I' J') : wcV S (d + 1) 22 [.ref 4, .ref 16] x I J Q := by
  refine c22_4_16 ⟨h4, by decide, fun I1 e1 => ⟨by decide, fun J2 e2 => ⟨by decide, fun I3 e3 => ⟨by decide, fun I4 e4 => ⟨by decide, fun I5 e5 => ⟨by decide, fun I6 e6 => ⟨by decide, fun J7 e7 => k I6 J7 (fun a ha => ?_) (fun a ha => ?_)⟩⟩⟩⟩⟩⟩⟩
  · rw [e6, vu_ne (by omega), e5, vu_ne (by omega), e4, vu_ne (by omega), e3, vu_ne (by omega), e1, vu_ne (by omega), mSet_ne (by omega), mSet_ne (by omega), mSet_ne (by omega), mSet_ne (by omega), mSet_ne (by omega)]
  · rw [e7, vu_ne (by omega), e2, vu_ne (by omega), mSet_ne (by omega)]
theorem houseC {Q : Int32 → rI0 → rJ0 → Prop} (h : I 1 1 = 0) (k : ∀ I' J', Up43 I J I' J' → Q 0 I' J') : wcI S (d + 4) 101 [.ref 0] x I J Q := by
  refine c101_0 (c14_15 (clear16 (fun I1 J1 u1 z0 z1 z4 z5 y1 => ?_)))
  refine c67_1 (open0 (by show I1 1 1 = 0; rw [y1]; exact h) (by decide) (fun I2 o2 a3 a8 => ?_))
  refine c36_29 (v101_0_33 ⟨fun _ => ⟨fun _ => v101_0_67 ⟨fun _ => ?_, fun q => absurd a8 q⟩, fun q => absurd a3 q⟩, fun q => absurd (by decide) q⟩)
  have w0 : I2 16 0 = 0 := by rw [o2 16 (by decide)]; exact z0
  have w1 : I2 16 1 = 0 := by rw [o2 16 (by decide)]; exact z1
  have w4 : I2 16 4 = 0 := by rw [o2 16 (by decide)]; exact z4
  refine survey0 w0 w1 (c15_3_15 (takeHouse0 (Or.inl w4) (fun I3 J3 oi oj => takeCues0 (fun I4 oc e4 => c6_31 ?_))))
  refine k _ _ ⟨fun a h1 h2 => ?_, fun a h1 h2 => ?_⟩
  · rw [mSet_ne (by omega), oc a (by omega) (by omega) (by omega) (by omega), oi a (by omega), mSet_ne (by omega), mSet_ne (by omega), mSet_ne (by omega), mSet_ne (by omega), o2 a (by omega), mSet_ne (by omega), mSet_ne (by omega)]
    exact u1.1 a h1 h2
  · rw [mSet_ne (by omega), mSet_ne (by omega), oj a (by omega), mSet_ne (by omega), mSet_ne (by omega), mSet_ne (by omega)]
    exact u1.2 a h1 h2
theorem cuesC {Q : Int32 → rI0 → rJ0 → Prop} (h : I 1 1 = 0) (k : ∀ I' J', Up43 I J I' J' → Q 0 I' J') : wcI S (d + 4) 107 [.ref 0] x I J Q := by
  refine c107_0 (c67_1 (open0 h (by decide) (fun I2 o2 a3 a8 => ?_)))
  refine c2_30 (v2_30_10 ⟨fun _ => ⟨fun _ => ⟨fun _ => takeCues0 (fun I4 oc e4 => c6_31 ?_), fun q => absurd a8 q⟩, fun q => absurd a3 q⟩, fun q => absurd (by decide) q⟩)
  have e5 : mSet I4 31 6 0 3 4 = 0 := e4
  rw [e5]
  refine k _ _ ⟨fun a h1 h2 => ?_, fun a h1 h2 => rfl⟩
  rw [mSet_ne (by omega), oc a (by omega) (by omega) (by omega) (by omega), mSet_ne (by omega), mSet_ne (by omega), o2 a (by omega), mSet_ne (by omega)]
theorem peek0 {Q : Int32 → rI0 → rJ0 → Prop} (h : I 43 3 = 0) (h4 : I 43 4 = 0) (k : Q (-1) I J) : wcI S d 158 [.ref 43] x I J Q := c158_43 ⟨fun q => absurd q (by rw [h, h4]; decide), fun _ => k⟩
theorem next0 {Q : rI0 → rJ0 → Prop} (h : I 43 3 = 0) (h4 : I 43 4 = 0) (h5 : ¬ I 43 5 < 0) (k : Q (mSet (mSet (mSet I 43 10 (I 43 4)) 43 11 0) 43 9 0) J) : wcV S (d + 1) 161 [.ref 43] x I J Q := by
  refine c161_43 (peek0 h h4 ⟨fun q => absurd q (by decide), fun _ => peek0 h h4 ⟨fun q => absurd q (by decide), fun _ => ⟨fun q => absurd q (by rw [h]; exact h5), fun _ => ?_⟩⟩⟩)
  exact v161_43_80 (peek0 h h4 ⟨fun _ => k, fun q => absurd (by decide) q⟩)
end OPC
end
section
/-! THE CLASS'S NIGHTS, OVER ANY STATE WITHIN ITS BOUNDS -/
section CN
variable {S : Nat × (Nat → Int32)} {d : Nat} {x : mX} {I : rI0} {J : rJ0}
def RB (v : Int32) (n : Nat) : Prop := ∃ k, k ≤ n ∧ v = nI k
theorem RB.mo {v : Int32} {n m : Nat} (h : RB v n) (hn : n < m) (hm : m < 2 ^ 31) : ¬ mOut v m := by
  obtain ⟨k, hk, rfl⟩ := h
  exact nI_in (by omega) hm
theorem RB.le {v : Int32} {n m : Nat} (h : RB v n) (hn : n ≤ m) : RB v m := by
  obtain ⟨k, hk, rfl⟩ := h
  exact ⟨k, by omega, rfl⟩
theorem RB.lt {v : Int32} {n m : Nat} (h : RB v n) (hn : n < 2 ^ 31) (hm : m < 2 ^ 31) (hl : v < nI m) : ∃ k, k < m ∧ v = nI k := by
  obtain ⟨k, hk, rfl⟩ := h
  rcases Nat.lt_or_ge k m with z | z
  · exact ⟨k, z, rfl⟩
  · exact absurd hl (nI_nlt z (by omega))
theorem nI_bv {v : Int32} {k : Nat} (h : v.toBitVec.toNat = k) : v = nI k := by
  rw [← Int32.toBitVec_inj]
  apply BitVec.eq_of_toNat_eq
  rw [h]
  have hk : k < 2 ^ 32 := h ▸ v.toBitVec.isLt
  show k = (BitVec.ofNat 32 k).toNat
  rw [BitVec.toNat_ofNat, Nat.mod_eq_of_lt hk]
theorem rb_and (v : Int32) {m : Int32} (k n : Nat) (hm : m.toBitVec.toNat = 2 ^ k - 1) (hn : 2 ^ k - 1 ≤ n) : RB (v &&& m) n := by
  obtain ⟨j, hj, e⟩ := pk_andE v k hm
  exact ⟨j, by omega, e⟩
theorem rb_us (v s : Int32) (k n : Nat) (hs : ((s.toUInt32 &&& Int32.toUInt32 31).toBitVec % 32).toNat = k) (hn : 2 ^ 32 / 2 ^ k ≤ n) : RB ((v.toUInt32 >>> (s.toUInt32 &&& Int32.toUInt32 31)).toInt32) n := by
  refine ⟨_, ?_, nI_bv (pk_ushr v s k hs)⟩
  have h1 : v.toBitVec.toNat < 2 ^ 32 := v.toBitVec.isLt
  exact Nat.le_trans (Nat.div_le_div_right (Nat.le_of_lt h1)) hn
theorem nI_mu (p q : Nat) : nI p * nI q = nI (p * q) := (Int32.ofNat_mul p q).symm
theorem Off.rf {n : Nat} : Off n I J I J := ⟨fun _ _ => rfl, fun _ _ => rfl⟩
theorem Off.tr {n : Nat} {I1 I2 : rI0} {J1 J2 : rJ0} (h : Off n I J I1 J1) (h2 : Off n I1 J1 I2 J2) : Off n I J I2 J2 := ⟨fun b hb => (h2.1 b hb).trans (h.1 b hb), fun b hb => (h2.2 b hb).trans (h.2 b hb)⟩
theorem Off.si {n k : Nat} {v : Int32} : Off n I J (mSet I n k v) J := ⟨fun b hb => mSet_ne hb, fun _ _ => rfl⟩
theorem Off.sj {n k : Nat} {v : Int64} : Off n I J I (mSet J n k v) := ⟨fun _ _ => rfl, fun b hb => mSet_ne hb⟩
theorem bcA {p : Int64} {Q : Int32 → rI0 → rJ0 → Prop} (k : ∀ v, Q v I J) : wcI S d 250 [.long p] x I J Q := c250 (k _)
theorem wbA {p : Int64} {s q : Int32} {Q : Int64 → rI0 → rJ0 → Prop} (k : ∀ v, Q v I J) : wcJ S d 143 [.long p, .int s, .int q] x I J Q := c143 (k _)
theorem rsA {p : Int32} {Q : Int64 → rI0 → rJ0 → Prop} (k : ∀ v, Q v I J) : wcJ S d 28 [.ref 4, .int p] x I J Q := c28_4 (k _)

theorem doCues_lp_36 {Q : Int32 → rI0 → rJ0 → Prop} : ∀ (m c : Nat) (I : rI0) (J : rJ0) (l1 : Int32), c + m = 30 → I 36 3 = nI c → (l1 = 0 ∨ l1 = 1) → (∀ r I' J', (r = 0 ∨ r = 1) → Off 36 I J I' J' → RB (I' 36 3) 30 → Q r I' J') → wp S (d + 1) 56 2 [some (.ref 36), some (.int l1), none, none] [] (wv x I J) (rI x Q) := by
  intro m
  induction m with
  | zero =>
    intro c I J l1 hc h hl k
    have e : (l1 = 0 ∨ l1 = 1) ∧ Q l1 I J := ⟨hl, k l1 I J hl Off.rf ⟨c, by omega, h⟩⟩
    exact v56_36_2 ⟨fun _ => ⟨fun q => absurd q (by rw [h]; exact nI_nlt (b := 30) (by omega) (by omega)), fun _ => e⟩, fun _ => e⟩
  | succ m ih =>
    intro c I J l1 hc h hl k
    have e : (l1 = 0 ∨ l1 = 1) ∧ Q l1 I J := ⟨hl, k l1 I J hl Off.rf ⟨c, by omega, h⟩⟩
    have hin : ¬ mOut (I 36 3) 30 := by rw [h]; exact nI_in (by omega) (by omega)
    have go : ∀ (l2 l3 s2 s3 : Int32) (s1 : Int64), wp S (d + 1) 56 95 [some (.ref 36), some (.int l1), some (.int l2), some (.int l3)] [.int s3, .int s2, .long s1, .ref 36] (wv x I J) (rI x Q) := by
      intro l2 l3 s2 s3 s1
      refine v56_36_95 (wbA (fun r1 => ⟨fun _ => wbA (fun r2 => ?_), fun _ => wbA (fun r2 => ?_)⟩))
      · exact ih (c + 1) _ _ l1 (by omega) (by show I 36 3 + 1 = _; rw [h, nI_succ]) hl (fun r I' J' h1 h2 h3 => k r I' J' h1 ((Off.sj.tr Off.sj).tr (Off.si.tr h2)) h3)
      · exact ih (c + 1) _ _ l1 (by omega) (by show I 36 3 + 1 = _; rw [h, nI_succ]) hl (fun r I' J' h1 h2 h3 => k r I' J' h1 ((Off.sj.tr Off.sj).tr (Off.si.tr h2)) h3)
    refine v56_36_2 ⟨fun _ => ⟨fun _ => ⟨hin, fun _ => e, fun _ => ⟨hin, fun _ => ?_, fun _ => ⟨hin, fun _ => go _ _ _ _ _, fun _ => go _ _ _ _ _⟩⟩⟩, fun _ => e⟩, fun _ => e⟩
    exact ih (c + 1) _ _ 1 (by omega) (by show I 36 3 + 1 = _; rw [h, nI_succ]) (Or.inr rfl) (fun r I' J' h1 h2 h3 => k r I' J' h1 (Off.si.tr h2) h3)
theorem doCuesA_36 {Q : Int32 → rI0 → rJ0 → Prop} (h : RB (I 36 3) 30) (k : ∀ r I' J', (r = 0 ∨ r = 1) → Off 36 I J I' J' → RB (I' 36 3) 30 → Q r I' J') : wcI S (d + 1) 56 [.ref 36] x I J Q := by
  obtain ⟨c, hc, e⟩ := h
  exact c56_36 (doCues_lp_36 (30 - c) c I J 0 (by omega) e (Or.inl rfl) k)
theorem seeRows_lp_36 {R : Nat} {Q : rI0 → rJ0 → Prop} (hR : R ≤ 8) (h4 : I 4 0 = nI R) : ∀ (m c : Nat) (J : rJ0), c + m = R → (∀ J', Off 36 I J I J' → Q I J') → wp S (d + 1) 57 2 [some (.ref 36), some (.int (nI c))] [] (wv x I J) (rV x Q) := by
  intro m
  induction m with
  | zero =>
    intro c J hc k
    exact v57_36_2 ⟨fun q => absurd q (by rw [h4]; exact nI_nlt (by omega) (by omega)), fun _ => k J Off.rf⟩
  | succ m ih =>
    intro c J hc k
    refine v57_36_2 ⟨fun _ => ⟨nI_in (by omega) (by omega), fun _ => rsA (fun v => ?_), fun _ => ?_⟩, fun q => absurd (by rw [h4]; exact nI_lt (by omega) (by omega)) q⟩
    · rw [← nI_succ]
      exact ih (c + 1) _ (by omega) (fun J' o => k J' (Off.sj.tr o))
    · rw [← nI_succ]
      exact ih (c + 1) _ (by omega) k
theorem seeRowsA_36 {Q : rI0 → rJ0 → Prop} (h : RB (I 4 0) 8) (k : ∀ J', Off 36 I J I J' → Q I J') : wcV S (d + 1) 57 [.ref 36] x I J Q := by
  obtain ⟨R, hR, e⟩ := h
  exact c57_36 (seeRows_lp_36 hR e R 0 J (by omega) k)
theorem standingA_36 {Q : Int64 → rI0 → rJ0 → Prop} (k : ∀ v, Q v I J) : wcJ S d 58 [.ref 36] x I J Q := c58_36 ⟨fun _ => k _, fun _ => k _⟩
theorem levelA_36 {p q : Int32} {Q : Int64 → rI0 → rJ0 → Prop} (k : ∀ v, Q v I J) : wcJ S d 63 [.ref 36, .int p, .int q] x I J Q := by
  have h3 : ∀ (l3 s0 s1 : Int64), wp S d 63 49 [some (.ref 36), some (.int p), some (.int q), some (.long l3), none] [.long s1, .long s0] (wv x I J) (rJ x Q) := fun l3 s0 s1 => v63_36_49 ⟨fun _ => k _, fun _ => ⟨fun _ => k _, fun _ => k _⟩⟩
  have h2 : ∀ (s0 : Int64), wp S d 63 20 [some (.ref 36), some (.int p), some (.int q), none, none] [.long s0] (wv x I J) (rJ x Q) := fun s0 => v63_36_20 ⟨fun _ => h3 _ _ _, fun _ => ⟨fun _ => h3 _ _ _, fun _ => h3 _ _ _⟩⟩
  exact c63_36 ⟨fun _ => h2 _, fun _ => ⟨fun _ => h2 _, fun _ => h2 _⟩⟩
theorem heldA_36 {p q : Int32} {Q : Int64 → rI0 → rJ0 → Prop} (k : ∀ v, Q v I J) : wcJ S d 64 [.ref 36, .int p, .int q] x I J Q := by
  have h4 : ∀ (l3 s0 s1 : Int64), wp S d 64 88 [some (.ref 36), some (.int p), some (.int q), some (.long l3), none] [.long s1, .long s0] (wv x I J) (rJ x Q) := fun l3 s0 s1 => v64_36_88 ⟨fun _ => k _, fun _ => ⟨fun _ => k _, fun _ => k _⟩⟩
  have h3 : ∀ (l3 s0 s1 : Int64), wp S d 64 58 [some (.ref 36), some (.int p), some (.int q), some (.long l3), none] [.long s1, .long s0] (wv x I J) (rJ x Q) := fun l3 s0 s1 => v64_36_58 ⟨fun _ => h4 _ _ _, fun _ => ⟨fun _ => h4 _ _ _, fun _ => h4 _ _ _⟩⟩
  have h2 : ∀ (s0 : Int64), wp S d 64 29 [some (.ref 36), some (.int p), some (.int q), none, none] [.long s0] (wv x I J) (rJ x Q) := fun s0 => v64_36_29 ⟨fun _ => h3 _ _ _, fun _ => ⟨fun _ => h3 _ _ _, fun _ => h3 _ _ _⟩⟩
  exact c64_36 ⟨fun _ => h2 _, fun _ => ⟨fun _ => h2 _, fun _ => h2 _⟩⟩
theorem area_lp_36 {l1 l4 l5 l6 l7 l8 l9 l10 : Int32} {l2 l11 : Int64} {Q : Int64 → rI0 → rJ0 → Prop} (h6 : RB l6 15) (k : ∀ v, Q v I J) : ∀ (m c : Nat) (l13 l15 : Int64), c + m = 64 → wp S (d + 1) 62 237 [some (.ref 36), some (.int l1), some (.long l2), none, some (.int l4), some (.int l5), some (.int l6), some (.int l7), some (.int l8), some (.int l9), some (.int l10), some (.long l11), none, some (.long l13), none, some (.long l15), none, some (.int (nI c)), none] [] (wv x I J) (rJ x Q) := by
  intro m
  induction m with
  | zero =>
    intro c l13 l15 hc
    have hc : c = 64 := by omega
    subst hc
    exact v62_36_237 ⟨fun q => absurd q (by decide), fun _ => k _⟩
  | succ m ih =>
    intro c l13 l15 hc
    have z : ∀ u v, wp S (d + 1) 62 237 [some (.ref 36), some (.int l1), some (.long l2), none, some (.int l4), some (.int l5), some (.int l6), some (.int l7), some (.int l8), some (.int l9), some (.int l10), some (.long l11), none, some (.long u), none, some (.long v), none, some (.int (nI c + 1)), none] [] (wv x I J) (rJ x Q) := fun u v => by
      rw [← nI_succ]
      exact ih (c + 1) u v (by omega)
    refine v62_36_237 ⟨fun _ => ⟨fun q6 => ⟨fun _ => k _, fun _ => ⟨fun _ => z _ _, fun _ => ⟨?_, bcA (fun r => ⟨fun _ => z _ _, fun _ => ⟨fun _ => z _ _, fun _ => z _ _⟩⟩)⟩⟩⟩, fun _ => k _⟩, fun q => absurd (nI_lt (by omega) (by omega) : nI c < nI 64) q⟩
    obtain ⟨u, hu, e⟩ := h6.lt (m := 6) (by omega) (by omega) q6
    rw [e]
    show ¬ mOut (nI u * nI 64 + nI c) 384
    rw [nI_mu, nI_add]
    exact nI_in (by omega) (by omega)
theorem hold166_36 {l1 l4 l5 l6 l7 l8 l9 s0 : Int32} {l2 : Int64} {Q : Int64 → rI0 → rJ0 → Prop} (h6 : RB l6 15) (k : ∀ v, Q v I J) : wp S (d + 1) 62 166 [some (.ref 36), some (.int l1), some (.long l2), none, some (.int l4), some (.int l5), some (.int l6), some (.int l7), some (.int l8), some (.int l9), none, none, none, none, none, none, none, none, none] [.int s0] (wv x I J) (rJ x Q) :=
  v62_36_166 ⟨fun _ => levelA_36 (fun v => k _), fun _ => ⟨fun _ => heldA_36 (fun v => k _), fun _ => ⟨fun _ => area_lp_36 h6 k 64 0 _ _ rfl, fun _ => area_lp_36 h6 k 64 0 _ _ rfl⟩⟩⟩
theorem join_lp_36 {l1 l2 l5 : Int32} {l3 : Int64} {Q : Int64 → rI0 → rJ0 → Prop} (h62 : ∀ (p1 : Int32) (p2 : Int64) {Q' : Int64 → rI0 → rJ0 → Prop}, (∀ v, Q' v I J) → wcJ S d 62 [.ref 36, .int p1, .long p2, .int l5] x I J Q') (k : ∀ v, Q v I J) : ∀ (m c : Nat) (l6 l8 : Int64) (l10 : Int32), c + m = 20 → RB l10 100000 → wp S (d + 1) 61 31 [some (.ref 36), some (.int l1), some (.int l2), some (.long l3), none, some (.int l5), some (.long l6), none, some (.long l8), none, some (.int l10), some (.int (nI c))] [] (wv x I J) (rJ x Q) := by
  intro m
  induction m with
  | zero =>
    intro c l6 l8 l10 hc h
    have hc : c = 20 := by omega
    subst hc
    exact v61_36_31 ⟨fun q => absurd q (by decide), fun _ => k _⟩
  | succ m ih =>
    intro c l6 l8 l10 hc h
    have go : l10 < 240 → ∀ (l6 l8 : Int64), wp S (d + 1) 61 94 [some (.ref 36), some (.int l1), some (.int l2), some (.long l3), none, some (.int l5), some (.long l6), none, some (.long l8), none, some (.int l10), some (.int (nI c))] [] (wv x I J) (rJ x Q) := by
      intro hl l6 l8
      obtain ⟨u, hu, rfl⟩ := h.lt (m := 240) (by omega) (by omega) hl
      refine v61_36_94 (h62 _ _ (fun v => ⟨nI_in (by omega) (by omega), ?_⟩))
      obtain ⟨w, hw, ew⟩ := rb_us (I 10 (nI u).toNatClampNeg) 19 19 8192 (by decide) (by decide)
      rw [ew, nI_add, ← nI_succ]
      exact ih (c + 1) _ _ _ (by omega) ⟨u + w, by omega, rfl⟩
    exact v61_36_31 ⟨fun _ => ⟨fun _ => ⟨fun hl => ⟨by obtain ⟨u, hu, rfl⟩ := h.lt (m := 240) (by omega) (by omega) hl; exact nI_in (by omega) (by omega), fun _ => go hl _ _, fun _ => go hl _ _⟩, fun _ => k _⟩, fun _ => k _⟩, fun q => absurd (nI_lt (by omega) (by omega) : nI c < nI 20) q⟩
theorem joinA_36 {t : Nat} {p1 p2 : Int32} {p3 : Int64} {Q : Int64 → rI0 → rJ0 → Prop} (h62 : ∀ (p1 : Int32) (p2 : Int64) {Q' : Int64 → rI0 → rJ0 → Prop}, (∀ v, Q' v I J) → wcJ S d 62 [.ref 36, .int p1, .long p2, .int (nI t)] x I J Q') (h1 : RB p1 100000) (k : ∀ v, Q v I J) : wcJ S (d + 1) 61 [.ref 36, .int p1, .int p2, .long p3, .int (nI t)] x I J Q :=
  c61_36 ⟨fun _ => k _, fun _ => ⟨fun _ => ⟨fun _ => k _, fun _ => join_lp_36 h62 k 20 0 _ _ _ rfl h1⟩, fun _ => k _⟩⟩
theorem holdA_36 : ∀ (m d t : Nat), t + m = 9 → ∀ (p1 : Int32) (p2 : Int64) {Q : Int64 → rI0 → rJ0 → Prop}, (∀ v, Q v I J) → wcJ S (d + 2 * m + 1) 62 [.ref 36, .int p1, .long p2, .int (nI t)] x I J Q := by
  intro m
  induction m with
  | zero =>
    intro d t ht p1 p2 Q k
    have ht : t = 9 := by omega
    subst ht
    exact c62_36 ⟨fun _ => k _, fun _ => ⟨fun _ => k _, fun q => absurd (by decide) q⟩⟩
  | succ m ih =>
    intro d t ht p1 p2 Q k
    show wcJ S ((d + 2 * (m + 1)) + 1) 62 _ x I J Q
    refine c62_36 ⟨fun _ => k _, fun _ => ⟨fun _ => k _, fun _ => ⟨fun _ => k _, fun h0 => ⟨fun hl => ?_, fun _ => k _⟩⟩⟩⟩
    obtain ⟨u, hu, e⟩ := i_nat (n := 239) (by omega) h0 (fun z => absurd hl (fun q => by
      rw [Int32.lt_iff_toInt_lt] at q z
      have e1 : (nI 239).toInt = 239 := by decide
      have e2 : (240 : Int32).toInt = 240 := by decide
      omega))
    have h15 : RB ((((I 10 p1.toNatClampNeg).toUInt32 >>> ((14 : Int32).toUInt32 &&& Int32.toUInt32 31)).toInt32) &&& (15 : Int32)) 15 := rb_and _ 4 15 (by decide) (by decide)
    have hin : ¬ mOut p1 240 := by rw [e]; exact nI_in (by omega) (by omega)
    have r62 : ∀ (q1 : Int32) (q2 : Int64) {Q' : Int64 → rI0 → rJ0 → Prop}, (∀ v, Q' v I J) → wcJ S (d + 2 * m + 1) 62 [.ref 36, .int q1, .long q2, .int (nI (t + 1))] x I J Q' := fun q1 q2 Q' kk => ih d (t + 1) (by omega) q1 q2 kk
    have r62' : ∀ (q1 : Int32) (q2 : Int64) {Q' : Int64 → rI0 → rJ0 → Prop}, (∀ v, Q' v I J) → wcJ S (d + 2 * (m + 1)) 62 [.ref 36, .int q1, .long q2, .int (nI t + 1)] x I J Q' := fun q1 q2 Q' kk => by
      have z := ih (d + 1) (t + 1) (by omega) q1 q2 kk
      rw [nI_succ] at z
      rw [show d + 2 * (m + 1) = d + 1 + 2 * m + 1 by omega]
      exact z
    have r61 : ∀ (q1 q2 : Int32) (q3 : Int64) {Q' : Int64 → rI0 → rJ0 → Prop}, RB q1 100000 → (∀ v, Q' v I J) → wcJ S (d + 2 * (m + 1)) 61 [.ref 36, .int q1, .int q2, .long q3, .int (nI t + 1)] x I J Q' := fun q1 q2 q3 Q' hq kk => by
      have z := joinA_36 (t := t + 1) (p2 := q2) (p3 := q3) r62 hq kk
      rw [nI_succ] at z
      exact z
    refine ⟨hin, fun _ => r62' _ _ (fun v => k _), fun _ => ⟨fun _ => r61 _ _ _ ?_ (fun v => k _), fun _ => ?_⟩⟩
    · rw [e, ← nI_succ]
      exact ⟨u + 1, by omega, rfl⟩
    · have z : ∀ (a7 a8 a9 b0 : Int32), wp S (d + 2 * (m + 1) + 1) 62 166 [some (.ref 36), some (.int p1), some (.long p2), none, some (.int (nI t)), some (.int (I 10 p1.toNatClampNeg)), some (.int ((((I 10 p1.toNatClampNeg).toUInt32 >>> ((14 : Int32).toUInt32 &&& Int32.toUInt32 31)).toInt32) &&& (15 : Int32))), some (.int a7), some (.int a8), some (.int a9), none, none, none, none, none, none, none, none, none] [.int b0] (wv x I J) (rJ x Q) := fun a7 a8 a9 b0 => hold166_36 h15 k
      repeat' first | exact z _ _ _ _ | refine ⟨fun _ => ?_, fun _ => ?_⟩
theorem joinedA_36 {p1 p2 : Int32} {p3 : Int64} {Q : Int64 → rI0 → rJ0 → Prop} (h1 : RB p1 100000) (k : ∀ v, Q v I J) : wcJ S (d + 20) 61 [.ref 36, .int p1, .int p2, .long p3, .int (1 : Int32)] x I J Q :=
  joinA_36 (d := d + 19) (t := 1) (fun q1 q2 Q' kk => by
    have z := holdA_36 (S := S) (x := x) 8 (d + 2) 1 rfl q1 q2 kk
    exact z) h1 k

theorem doCues_lp_41 {Q : Int32 → rI0 → rJ0 → Prop} : ∀ (m c : Nat) (I : rI0) (J : rJ0) (l1 : Int32), c + m = 30 → I 41 3 = nI c → (l1 = 0 ∨ l1 = 1) → (∀ r I' J', (r = 0 ∨ r = 1) → Off 41 I J I' J' → RB (I' 41 3) 30 → Q r I' J') → wp S (d + 1) 56 2 [some (.ref 41), some (.int l1), none, none] [] (wv x I J) (rI x Q) := by
  intro m
  induction m with
  | zero =>
    intro c I J l1 hc h hl k
    have e : (l1 = 0 ∨ l1 = 1) ∧ Q l1 I J := ⟨hl, k l1 I J hl Off.rf ⟨c, by omega, h⟩⟩
    exact v56_41_2 ⟨fun _ => ⟨fun q => absurd q (by rw [h]; exact nI_nlt (b := 30) (by omega) (by omega)), fun _ => e⟩, fun _ => e⟩
  | succ m ih =>
    intro c I J l1 hc h hl k
    have e : (l1 = 0 ∨ l1 = 1) ∧ Q l1 I J := ⟨hl, k l1 I J hl Off.rf ⟨c, by omega, h⟩⟩
    have hin : ¬ mOut (I 41 3) 30 := by rw [h]; exact nI_in (by omega) (by omega)
    have go : ∀ (l2 l3 s2 s3 : Int32) (s1 : Int64), wp S (d + 1) 56 95 [some (.ref 41), some (.int l1), some (.int l2), some (.int l3)] [.int s3, .int s2, .long s1, .ref 41] (wv x I J) (rI x Q) := by
      intro l2 l3 s2 s3 s1
      refine v56_41_95 (wbA (fun r1 => ⟨fun _ => wbA (fun r2 => ?_), fun _ => wbA (fun r2 => ?_)⟩))
      · exact ih (c + 1) _ _ l1 (by omega) (by show I 41 3 + 1 = _; rw [h, nI_succ]) hl (fun r I' J' h1 h2 h3 => k r I' J' h1 ((Off.sj.tr Off.sj).tr (Off.si.tr h2)) h3)
      · exact ih (c + 1) _ _ l1 (by omega) (by show I 41 3 + 1 = _; rw [h, nI_succ]) hl (fun r I' J' h1 h2 h3 => k r I' J' h1 ((Off.sj.tr Off.sj).tr (Off.si.tr h2)) h3)
    refine v56_41_2 ⟨fun _ => ⟨fun _ => ⟨hin, fun _ => e, fun _ => ⟨hin, fun _ => ?_, fun _ => ⟨hin, fun _ => go _ _ _ _ _, fun _ => go _ _ _ _ _⟩⟩⟩, fun _ => e⟩, fun _ => e⟩
    exact ih (c + 1) _ _ 1 (by omega) (by show I 41 3 + 1 = _; rw [h, nI_succ]) (Or.inr rfl) (fun r I' J' h1 h2 h3 => k r I' J' h1 (Off.si.tr h2) h3)
theorem doCuesA_41 {Q : Int32 → rI0 → rJ0 → Prop} (h : RB (I 41 3) 30) (k : ∀ r I' J', (r = 0 ∨ r = 1) → Off 41 I J I' J' → RB (I' 41 3) 30 → Q r I' J') : wcI S (d + 1) 56 [.ref 41] x I J Q := by
  obtain ⟨c, hc, e⟩ := h
  exact c56_41 (doCues_lp_41 (30 - c) c I J 0 (by omega) e (Or.inl rfl) k)
theorem seeRows_lp_41 {R : Nat} {Q : rI0 → rJ0 → Prop} (hR : R ≤ 8) (h4 : I 4 0 = nI R) : ∀ (m c : Nat) (J : rJ0), c + m = R → (∀ J', Off 41 I J I J' → Q I J') → wp S (d + 1) 57 2 [some (.ref 41), some (.int (nI c))] [] (wv x I J) (rV x Q) := by
  intro m
  induction m with
  | zero =>
    intro c J hc k
    exact v57_41_2 ⟨fun q => absurd q (by rw [h4]; exact nI_nlt (by omega) (by omega)), fun _ => k J Off.rf⟩
  | succ m ih =>
    intro c J hc k
    refine v57_41_2 ⟨fun _ => ⟨nI_in (by omega) (by omega), fun _ => rsA (fun v => ?_), fun _ => ?_⟩, fun q => absurd (by rw [h4]; exact nI_lt (by omega) (by omega)) q⟩
    · rw [← nI_succ]
      exact ih (c + 1) _ (by omega) (fun J' o => k J' (Off.sj.tr o))
    · rw [← nI_succ]
      exact ih (c + 1) _ (by omega) k
theorem seeRowsA_41 {Q : rI0 → rJ0 → Prop} (h : RB (I 4 0) 8) (k : ∀ J', Off 41 I J I J' → Q I J') : wcV S (d + 1) 57 [.ref 41] x I J Q := by
  obtain ⟨R, hR, e⟩ := h
  exact c57_41 (seeRows_lp_41 hR e R 0 J (by omega) k)
theorem standingA_41 {Q : Int64 → rI0 → rJ0 → Prop} (k : ∀ v, Q v I J) : wcJ S d 58 [.ref 41] x I J Q := c58_41 ⟨fun _ => k _, fun _ => k _⟩
theorem levelA_41 {p q : Int32} {Q : Int64 → rI0 → rJ0 → Prop} (k : ∀ v, Q v I J) : wcJ S d 63 [.ref 41, .int p, .int q] x I J Q := by
  have h3 : ∀ (l3 s0 s1 : Int64), wp S d 63 49 [some (.ref 41), some (.int p), some (.int q), some (.long l3), none] [.long s1, .long s0] (wv x I J) (rJ x Q) := fun l3 s0 s1 => v63_41_49 ⟨fun _ => k _, fun _ => ⟨fun _ => k _, fun _ => k _⟩⟩
  have h2 : ∀ (s0 : Int64), wp S d 63 20 [some (.ref 41), some (.int p), some (.int q), none, none] [.long s0] (wv x I J) (rJ x Q) := fun s0 => v63_41_20 ⟨fun _ => h3 _ _ _, fun _ => ⟨fun _ => h3 _ _ _, fun _ => h3 _ _ _⟩⟩
  exact c63_41 ⟨fun _ => h2 _, fun _ => ⟨fun _ => h2 _, fun _ => h2 _⟩⟩
theorem heldA_41 {p q : Int32} {Q : Int64 → rI0 → rJ0 → Prop} (k : ∀ v, Q v I J) : wcJ S d 64 [.ref 41, .int p, .int q] x I J Q := by
  have h4 : ∀ (l3 s0 s1 : Int64), wp S d 64 88 [some (.ref 41), some (.int p), some (.int q), some (.long l3), none] [.long s1, .long s0] (wv x I J) (rJ x Q) := fun l3 s0 s1 => v64_41_88 ⟨fun _ => k _, fun _ => ⟨fun _ => k _, fun _ => k _⟩⟩
  have h3 : ∀ (l3 s0 s1 : Int64), wp S d 64 58 [some (.ref 41), some (.int p), some (.int q), some (.long l3), none] [.long s1, .long s0] (wv x I J) (rJ x Q) := fun l3 s0 s1 => v64_41_58 ⟨fun _ => h4 _ _ _, fun _ => ⟨fun _ => h4 _ _ _, fun _ => h4 _ _ _⟩⟩
  have h2 : ∀ (s0 : Int64), wp S d 64 29 [some (.ref 41), some (.int p), some (.int q), none, none] [.long s0] (wv x I J) (rJ x Q) := fun s0 => v64_41_29 ⟨fun _ => h3 _ _ _, fun _ => ⟨fun _ => h3 _ _ _, fun _ => h3 _ _ _⟩⟩
  exact c64_41 ⟨fun _ => h2 _, fun _ => ⟨fun _ => h2 _, fun _ => h2 _⟩⟩
theorem area_lp_41 {l1 l4 l5 l6 l7 l8 l9 l10 : Int32} {l2 l11 : Int64} {Q : Int64 → rI0 → rJ0 → Prop} (h6 : RB l6 15) (k : ∀ v, Q v I J) : ∀ (m c : Nat) (l13 l15 : Int64), c + m = 64 → wp S (d + 1) 62 237 [some (.ref 41), some (.int l1), some (.long l2), none, some (.int l4), some (.int l5), some (.int l6), some (.int l7), some (.int l8), some (.int l9), some (.int l10), some (.long l11), none, some (.long l13), none, some (.long l15), none, some (.int (nI c)), none] [] (wv x I J) (rJ x Q) := by
  intro m
  induction m with
  | zero =>
    intro c l13 l15 hc
    have hc : c = 64 := by omega
    subst hc
    exact v62_41_237 ⟨fun q => absurd q (by decide), fun _ => k _⟩
  | succ m ih =>
    intro c l13 l15 hc
    have z : ∀ u v, wp S (d + 1) 62 237 [some (.ref 41), some (.int l1), some (.long l2), none, some (.int l4), some (.int l5), some (.int l6), some (.int l7), some (.int l8), some (.int l9), some (.int l10), some (.long l11), none, some (.long u), none, some (.long v), none, some (.int (nI c + 1)), none] [] (wv x I J) (rJ x Q) := fun u v => by
      rw [← nI_succ]
      exact ih (c + 1) u v (by omega)
    refine v62_41_237 ⟨fun _ => ⟨fun q6 => ⟨fun _ => k _, fun _ => ⟨fun _ => z _ _, fun _ => ⟨?_, bcA (fun r => ⟨fun _ => z _ _, fun _ => ⟨fun _ => z _ _, fun _ => z _ _⟩⟩)⟩⟩⟩, fun _ => k _⟩, fun q => absurd (nI_lt (by omega) (by omega) : nI c < nI 64) q⟩
    obtain ⟨u, hu, e⟩ := h6.lt (m := 6) (by omega) (by omega) q6
    rw [e]
    show ¬ mOut (nI u * nI 64 + nI c) 384
    rw [nI_mu, nI_add]
    exact nI_in (by omega) (by omega)
theorem hold166_41 {l1 l4 l5 l6 l7 l8 l9 s0 : Int32} {l2 : Int64} {Q : Int64 → rI0 → rJ0 → Prop} (h6 : RB l6 15) (k : ∀ v, Q v I J) : wp S (d + 1) 62 166 [some (.ref 41), some (.int l1), some (.long l2), none, some (.int l4), some (.int l5), some (.int l6), some (.int l7), some (.int l8), some (.int l9), none, none, none, none, none, none, none, none, none] [.int s0] (wv x I J) (rJ x Q) :=
  v62_41_166 ⟨fun _ => levelA_41 (fun v => k _), fun _ => ⟨fun _ => heldA_41 (fun v => k _), fun _ => ⟨fun _ => area_lp_41 h6 k 64 0 _ _ rfl, fun _ => area_lp_41 h6 k 64 0 _ _ rfl⟩⟩⟩
theorem join_lp_41 {l1 l2 l5 : Int32} {l3 : Int64} {Q : Int64 → rI0 → rJ0 → Prop} (h62 : ∀ (p1 : Int32) (p2 : Int64) {Q' : Int64 → rI0 → rJ0 → Prop}, (∀ v, Q' v I J) → wcJ S d 62 [.ref 41, .int p1, .long p2, .int l5] x I J Q') (k : ∀ v, Q v I J) : ∀ (m c : Nat) (l6 l8 : Int64) (l10 : Int32), c + m = 20 → RB l10 100000 → wp S (d + 1) 61 31 [some (.ref 41), some (.int l1), some (.int l2), some (.long l3), none, some (.int l5), some (.long l6), none, some (.long l8), none, some (.int l10), some (.int (nI c))] [] (wv x I J) (rJ x Q) := by
  intro m
  induction m with
  | zero =>
    intro c l6 l8 l10 hc h
    have hc : c = 20 := by omega
    subst hc
    exact v61_41_31 ⟨fun q => absurd q (by decide), fun _ => k _⟩
  | succ m ih =>
    intro c l6 l8 l10 hc h
    have go : l10 < 240 → ∀ (l6 l8 : Int64), wp S (d + 1) 61 94 [some (.ref 41), some (.int l1), some (.int l2), some (.long l3), none, some (.int l5), some (.long l6), none, some (.long l8), none, some (.int l10), some (.int (nI c))] [] (wv x I J) (rJ x Q) := by
      intro hl l6 l8
      obtain ⟨u, hu, rfl⟩ := h.lt (m := 240) (by omega) (by omega) hl
      refine v61_41_94 (h62 _ _ (fun v => ⟨nI_in (by omega) (by omega), ?_⟩))
      obtain ⟨w, hw, ew⟩ := rb_us (I 10 (nI u).toNatClampNeg) 19 19 8192 (by decide) (by decide)
      rw [ew, nI_add, ← nI_succ]
      exact ih (c + 1) _ _ _ (by omega) ⟨u + w, by omega, rfl⟩
    exact v61_41_31 ⟨fun _ => ⟨fun _ => ⟨fun hl => ⟨by obtain ⟨u, hu, rfl⟩ := h.lt (m := 240) (by omega) (by omega) hl; exact nI_in (by omega) (by omega), fun _ => go hl _ _, fun _ => go hl _ _⟩, fun _ => k _⟩, fun _ => k _⟩, fun q => absurd (nI_lt (by omega) (by omega) : nI c < nI 20) q⟩
theorem joinA_41 {t : Nat} {p1 p2 : Int32} {p3 : Int64} {Q : Int64 → rI0 → rJ0 → Prop} (h62 : ∀ (p1 : Int32) (p2 : Int64) {Q' : Int64 → rI0 → rJ0 → Prop}, (∀ v, Q' v I J) → wcJ S d 62 [.ref 41, .int p1, .long p2, .int (nI t)] x I J Q') (h1 : RB p1 100000) (k : ∀ v, Q v I J) : wcJ S (d + 1) 61 [.ref 41, .int p1, .int p2, .long p3, .int (nI t)] x I J Q :=
  c61_41 ⟨fun _ => k _, fun _ => ⟨fun _ => ⟨fun _ => k _, fun _ => join_lp_41 h62 k 20 0 _ _ _ rfl h1⟩, fun _ => k _⟩⟩
theorem holdA_41 : ∀ (m d t : Nat), t + m = 9 → ∀ (p1 : Int32) (p2 : Int64) {Q : Int64 → rI0 → rJ0 → Prop}, (∀ v, Q v I J) → wcJ S (d + 2 * m + 1) 62 [.ref 41, .int p1, .long p2, .int (nI t)] x I J Q := by
  intro m
  induction m with
  | zero =>
    intro d t ht p1 p2 Q k
    have ht : t = 9 := by omega
    subst ht
    exact c62_41 ⟨fun _ => k _, fun _ => ⟨fun _ => k _, fun q => absurd (by decide) q⟩⟩
  | succ m ih =>
    intro d t ht p1 p2 Q k
    show wcJ S ((d + 2 * (m + 1)) + 1) 62 _ x I J Q
    refine c62_41 ⟨fun _ => k _, fun _ => ⟨fun _ => k _, fun _ => ⟨fun _ => k _, fun h0 => ⟨fun hl => ?_, fun _ => k _⟩⟩⟩⟩
    obtain ⟨u, hu, e⟩ := i_nat (n := 239) (by omega) h0 (fun z => absurd hl (fun q => by
      rw [Int32.lt_iff_toInt_lt] at q z
      have e1 : (nI 239).toInt = 239 := by decide
      have e2 : (240 : Int32).toInt = 240 := by decide
      omega))
    have h15 : RB ((((I 10 p1.toNatClampNeg).toUInt32 >>> ((14 : Int32).toUInt32 &&& Int32.toUInt32 31)).toInt32) &&& (15 : Int32)) 15 := rb_and _ 4 15 (by decide) (by decide)
    have hin : ¬ mOut p1 240 := by rw [e]; exact nI_in (by omega) (by omega)
    have r62 : ∀ (q1 : Int32) (q2 : Int64) {Q' : Int64 → rI0 → rJ0 → Prop}, (∀ v, Q' v I J) → wcJ S (d + 2 * m + 1) 62 [.ref 41, .int q1, .long q2, .int (nI (t + 1))] x I J Q' := fun q1 q2 Q' kk => ih d (t + 1) (by omega) q1 q2 kk
    have r62' : ∀ (q1 : Int32) (q2 : Int64) {Q' : Int64 → rI0 → rJ0 → Prop}, (∀ v, Q' v I J) → wcJ S (d + 2 * (m + 1)) 62 [.ref 41, .int q1, .long q2, .int (nI t + 1)] x I J Q' := fun q1 q2 Q' kk => by
      have z := ih (d + 1) (t + 1) (by omega) q1 q2 kk
      rw [nI_succ] at z
      rw [show d + 2 * (m + 1) = d + 1 + 2 * m + 1 by omega]
      exact z
    have r61 : ∀ (q1 q2 : Int32) (q3 : Int64) {Q' : Int64 → rI0 → rJ0 → Prop}, RB q1 100000 → (∀ v, Q' v I J) → wcJ S (d + 2 * (m + 1)) 61 [.ref 41, .int q1, .int q2, .long q3, .int (nI t + 1)] x I J Q' := fun q1 q2 q3 Q' hq kk => by
      have z := joinA_41 (t := t + 1) (p2 := q2) (p3 := q3) r62 hq kk
      rw [nI_succ] at z
      exact z
    refine ⟨hin, fun _ => r62' _ _ (fun v => k _), fun _ => ⟨fun _ => r61 _ _ _ ?_ (fun v => k _), fun _ => ?_⟩⟩
    · rw [e, ← nI_succ]
      exact ⟨u + 1, by omega, rfl⟩
    · have z : ∀ (a7 a8 a9 b0 : Int32), wp S (d + 2 * (m + 1) + 1) 62 166 [some (.ref 41), some (.int p1), some (.long p2), none, some (.int (nI t)), some (.int (I 10 p1.toNatClampNeg)), some (.int ((((I 10 p1.toNatClampNeg).toUInt32 >>> ((14 : Int32).toUInt32 &&& Int32.toUInt32 31)).toInt32) &&& (15 : Int32))), some (.int a7), some (.int a8), some (.int a9), none, none, none, none, none, none, none, none, none] [.int b0] (wv x I J) (rJ x Q) := fun a7 a8 a9 b0 => hold166_41 h15 k
      repeat' first | exact z _ _ _ _ | refine ⟨fun _ => ?_, fun _ => ?_⟩
theorem joinedA_41 {p1 p2 : Int32} {p3 : Int64} {Q : Int64 → rI0 → rJ0 → Prop} (h1 : RB p1 100000) (k : ∀ v, Q v I J) : wcJ S (d + 20) 61 [.ref 41, .int p1, .int p2, .long p3, .int (1 : Int32)] x I J Q :=
  joinA_41 (d := d + 19) (t := 1) (fun q1 q2 Q' kk => by
    have z := holdA_41 (S := S) (x := x) 8 (d + 2) 1 rfl q1 q2 kk
    exact z) h1 k

theorem doCues_lp_42 {Q : Int32 → rI0 → rJ0 → Prop} : ∀ (m c : Nat) (I : rI0) (J : rJ0) (l1 : Int32), c + m = 30 → I 42 3 = nI c → (l1 = 0 ∨ l1 = 1) → (∀ r I' J', (r = 0 ∨ r = 1) → Off 42 I J I' J' → RB (I' 42 3) 30 → Q r I' J') → wp S (d + 1) 56 2 [some (.ref 42), some (.int l1), none, none] [] (wv x I J) (rI x Q) := by
  intro m
  induction m with
  | zero =>
    intro c I J l1 hc h hl k
    have e : (l1 = 0 ∨ l1 = 1) ∧ Q l1 I J := ⟨hl, k l1 I J hl Off.rf ⟨c, by omega, h⟩⟩
    exact v56_42_2 ⟨fun _ => ⟨fun q => absurd q (by rw [h]; exact nI_nlt (b := 30) (by omega) (by omega)), fun _ => e⟩, fun _ => e⟩
  | succ m ih =>
    intro c I J l1 hc h hl k
    have e : (l1 = 0 ∨ l1 = 1) ∧ Q l1 I J := ⟨hl, k l1 I J hl Off.rf ⟨c, by omega, h⟩⟩
    have hin : ¬ mOut (I 42 3) 30 := by rw [h]; exact nI_in (by omega) (by omega)
    have go : ∀ (l2 l3 s2 s3 : Int32) (s1 : Int64), wp S (d + 1) 56 95 [some (.ref 42), some (.int l1), some (.int l2), some (.int l3)] [.int s3, .int s2, .long s1, .ref 42] (wv x I J) (rI x Q) := by
      intro l2 l3 s2 s3 s1
      refine v56_42_95 (wbA (fun r1 => ⟨fun _ => wbA (fun r2 => ?_), fun _ => wbA (fun r2 => ?_)⟩))
      · exact ih (c + 1) _ _ l1 (by omega) (by show I 42 3 + 1 = _; rw [h, nI_succ]) hl (fun r I' J' h1 h2 h3 => k r I' J' h1 ((Off.sj.tr Off.sj).tr (Off.si.tr h2)) h3)
      · exact ih (c + 1) _ _ l1 (by omega) (by show I 42 3 + 1 = _; rw [h, nI_succ]) hl (fun r I' J' h1 h2 h3 => k r I' J' h1 ((Off.sj.tr Off.sj).tr (Off.si.tr h2)) h3)
    refine v56_42_2 ⟨fun _ => ⟨fun _ => ⟨hin, fun _ => e, fun _ => ⟨hin, fun _ => ?_, fun _ => ⟨hin, fun _ => go _ _ _ _ _, fun _ => go _ _ _ _ _⟩⟩⟩, fun _ => e⟩, fun _ => e⟩
    exact ih (c + 1) _ _ 1 (by omega) (by show I 42 3 + 1 = _; rw [h, nI_succ]) (Or.inr rfl) (fun r I' J' h1 h2 h3 => k r I' J' h1 (Off.si.tr h2) h3)
theorem doCuesA_42 {Q : Int32 → rI0 → rJ0 → Prop} (h : RB (I 42 3) 30) (k : ∀ r I' J', (r = 0 ∨ r = 1) → Off 42 I J I' J' → RB (I' 42 3) 30 → Q r I' J') : wcI S (d + 1) 56 [.ref 42] x I J Q := by
  obtain ⟨c, hc, e⟩ := h
  exact c56_42 (doCues_lp_42 (30 - c) c I J 0 (by omega) e (Or.inl rfl) k)
theorem seeRows_lp_42 {R : Nat} {Q : rI0 → rJ0 → Prop} (hR : R ≤ 8) (h4 : I 4 0 = nI R) : ∀ (m c : Nat) (J : rJ0), c + m = R → (∀ J', Off 42 I J I J' → Q I J') → wp S (d + 1) 57 2 [some (.ref 42), some (.int (nI c))] [] (wv x I J) (rV x Q) := by
  intro m
  induction m with
  | zero =>
    intro c J hc k
    exact v57_42_2 ⟨fun q => absurd q (by rw [h4]; exact nI_nlt (by omega) (by omega)), fun _ => k J Off.rf⟩
  | succ m ih =>
    intro c J hc k
    refine v57_42_2 ⟨fun _ => ⟨nI_in (by omega) (by omega), fun _ => rsA (fun v => ?_), fun _ => ?_⟩, fun q => absurd (by rw [h4]; exact nI_lt (by omega) (by omega)) q⟩
    · rw [← nI_succ]
      exact ih (c + 1) _ (by omega) (fun J' o => k J' (Off.sj.tr o))
    · rw [← nI_succ]
      exact ih (c + 1) _ (by omega) k
theorem seeRowsA_42 {Q : rI0 → rJ0 → Prop} (h : RB (I 4 0) 8) (k : ∀ J', Off 42 I J I J' → Q I J') : wcV S (d + 1) 57 [.ref 42] x I J Q := by
  obtain ⟨R, hR, e⟩ := h
  exact c57_42 (seeRows_lp_42 hR e R 0 J (by omega) k)
theorem standingA_42 {Q : Int64 → rI0 → rJ0 → Prop} (k : ∀ v, Q v I J) : wcJ S d 58 [.ref 42] x I J Q := c58_42 ⟨fun _ => k _, fun _ => k _⟩
theorem levelA_42 {p q : Int32} {Q : Int64 → rI0 → rJ0 → Prop} (k : ∀ v, Q v I J) : wcJ S d 63 [.ref 42, .int p, .int q] x I J Q := by
  have h3 : ∀ (l3 s0 s1 : Int64), wp S d 63 49 [some (.ref 42), some (.int p), some (.int q), some (.long l3), none] [.long s1, .long s0] (wv x I J) (rJ x Q) := fun l3 s0 s1 => v63_42_49 ⟨fun _ => k _, fun _ => ⟨fun _ => k _, fun _ => k _⟩⟩
  have h2 : ∀ (s0 : Int64), wp S d 63 20 [some (.ref 42), some (.int p), some (.int q), none, none] [.long s0] (wv x I J) (rJ x Q) := fun s0 => v63_42_20 ⟨fun _ => h3 _ _ _, fun _ => ⟨fun _ => h3 _ _ _, fun _ => h3 _ _ _⟩⟩
  exact c63_42 ⟨fun _ => h2 _, fun _ => ⟨fun _ => h2 _, fun _ => h2 _⟩⟩
theorem heldA_42 {p q : Int32} {Q : Int64 → rI0 → rJ0 → Prop} (k : ∀ v, Q v I J) : wcJ S d 64 [.ref 42, .int p, .int q] x I J Q := by
  have h4 : ∀ (l3 s0 s1 : Int64), wp S d 64 88 [some (.ref 42), some (.int p), some (.int q), some (.long l3), none] [.long s1, .long s0] (wv x I J) (rJ x Q) := fun l3 s0 s1 => v64_42_88 ⟨fun _ => k _, fun _ => ⟨fun _ => k _, fun _ => k _⟩⟩
  have h3 : ∀ (l3 s0 s1 : Int64), wp S d 64 58 [some (.ref 42), some (.int p), some (.int q), some (.long l3), none] [.long s1, .long s0] (wv x I J) (rJ x Q) := fun l3 s0 s1 => v64_42_58 ⟨fun _ => h4 _ _ _, fun _ => ⟨fun _ => h4 _ _ _, fun _ => h4 _ _ _⟩⟩
  have h2 : ∀ (s0 : Int64), wp S d 64 29 [some (.ref 42), some (.int p), some (.int q), none, none] [.long s0] (wv x I J) (rJ x Q) := fun s0 => v64_42_29 ⟨fun _ => h3 _ _ _, fun _ => ⟨fun _ => h3 _ _ _, fun _ => h3 _ _ _⟩⟩
  exact c64_42 ⟨fun _ => h2 _, fun _ => ⟨fun _ => h2 _, fun _ => h2 _⟩⟩
theorem area_lp_42 {l1 l4 l5 l6 l7 l8 l9 l10 : Int32} {l2 l11 : Int64} {Q : Int64 → rI0 → rJ0 → Prop} (h6 : RB l6 15) (k : ∀ v, Q v I J) : ∀ (m c : Nat) (l13 l15 : Int64), c + m = 64 → wp S (d + 1) 62 237 [some (.ref 42), some (.int l1), some (.long l2), none, some (.int l4), some (.int l5), some (.int l6), some (.int l7), some (.int l8), some (.int l9), some (.int l10), some (.long l11), none, some (.long l13), none, some (.long l15), none, some (.int (nI c)), none] [] (wv x I J) (rJ x Q) := by
  intro m
  induction m with
  | zero =>
    intro c l13 l15 hc
    have hc : c = 64 := by omega
    subst hc
    exact v62_42_237 ⟨fun q => absurd q (by decide), fun _ => k _⟩
  | succ m ih =>
    intro c l13 l15 hc
    have z : ∀ u v, wp S (d + 1) 62 237 [some (.ref 42), some (.int l1), some (.long l2), none, some (.int l4), some (.int l5), some (.int l6), some (.int l7), some (.int l8), some (.int l9), some (.int l10), some (.long l11), none, some (.long u), none, some (.long v), none, some (.int (nI c + 1)), none] [] (wv x I J) (rJ x Q) := fun u v => by
      rw [← nI_succ]
      exact ih (c + 1) u v (by omega)
    refine v62_42_237 ⟨fun _ => ⟨fun q6 => ⟨fun _ => k _, fun _ => ⟨fun _ => z _ _, fun _ => ⟨?_, bcA (fun r => ⟨fun _ => z _ _, fun _ => ⟨fun _ => z _ _, fun _ => z _ _⟩⟩)⟩⟩⟩, fun _ => k _⟩, fun q => absurd (nI_lt (by omega) (by omega) : nI c < nI 64) q⟩
    obtain ⟨u, hu, e⟩ := h6.lt (m := 6) (by omega) (by omega) q6
    rw [e]
    show ¬ mOut (nI u * nI 64 + nI c) 384
    rw [nI_mu, nI_add]
    exact nI_in (by omega) (by omega)
theorem hold166_42 {l1 l4 l5 l6 l7 l8 l9 s0 : Int32} {l2 : Int64} {Q : Int64 → rI0 → rJ0 → Prop} (h6 : RB l6 15) (k : ∀ v, Q v I J) : wp S (d + 1) 62 166 [some (.ref 42), some (.int l1), some (.long l2), none, some (.int l4), some (.int l5), some (.int l6), some (.int l7), some (.int l8), some (.int l9), none, none, none, none, none, none, none, none, none] [.int s0] (wv x I J) (rJ x Q) :=
  v62_42_166 ⟨fun _ => levelA_42 (fun v => k _), fun _ => ⟨fun _ => heldA_42 (fun v => k _), fun _ => ⟨fun _ => area_lp_42 h6 k 64 0 _ _ rfl, fun _ => area_lp_42 h6 k 64 0 _ _ rfl⟩⟩⟩
theorem join_lp_42 {l1 l2 l5 : Int32} {l3 : Int64} {Q : Int64 → rI0 → rJ0 → Prop} (h62 : ∀ (p1 : Int32) (p2 : Int64) {Q' : Int64 → rI0 → rJ0 → Prop}, (∀ v, Q' v I J) → wcJ S d 62 [.ref 42, .int p1, .long p2, .int l5] x I J Q') (k : ∀ v, Q v I J) : ∀ (m c : Nat) (l6 l8 : Int64) (l10 : Int32), c + m = 20 → RB l10 100000 → wp S (d + 1) 61 31 [some (.ref 42), some (.int l1), some (.int l2), some (.long l3), none, some (.int l5), some (.long l6), none, some (.long l8), none, some (.int l10), some (.int (nI c))] [] (wv x I J) (rJ x Q) := by
  intro m
  induction m with
  | zero =>
    intro c l6 l8 l10 hc h
    have hc : c = 20 := by omega
    subst hc
    exact v61_42_31 ⟨fun q => absurd q (by decide), fun _ => k _⟩
  | succ m ih =>
    intro c l6 l8 l10 hc h
    have go : l10 < 240 → ∀ (l6 l8 : Int64), wp S (d + 1) 61 94 [some (.ref 42), some (.int l1), some (.int l2), some (.long l3), none, some (.int l5), some (.long l6), none, some (.long l8), none, some (.int l10), some (.int (nI c))] [] (wv x I J) (rJ x Q) := by
      intro hl l6 l8
      obtain ⟨u, hu, rfl⟩ := h.lt (m := 240) (by omega) (by omega) hl
      refine v61_42_94 (h62 _ _ (fun v => ⟨nI_in (by omega) (by omega), ?_⟩))
      obtain ⟨w, hw, ew⟩ := rb_us (I 10 (nI u).toNatClampNeg) 19 19 8192 (by decide) (by decide)
      rw [ew, nI_add, ← nI_succ]
      exact ih (c + 1) _ _ _ (by omega) ⟨u + w, by omega, rfl⟩
    exact v61_42_31 ⟨fun _ => ⟨fun _ => ⟨fun hl => ⟨by obtain ⟨u, hu, rfl⟩ := h.lt (m := 240) (by omega) (by omega) hl; exact nI_in (by omega) (by omega), fun _ => go hl _ _, fun _ => go hl _ _⟩, fun _ => k _⟩, fun _ => k _⟩, fun q => absurd (nI_lt (by omega) (by omega) : nI c < nI 20) q⟩
theorem joinA_42 {t : Nat} {p1 p2 : Int32} {p3 : Int64} {Q : Int64 → rI0 → rJ0 → Prop} (h62 : ∀ (p1 : Int32) (p2 : Int64) {Q' : Int64 → rI0 → rJ0 → Prop}, (∀ v, Q' v I J) → wcJ S d 62 [.ref 42, .int p1, .long p2, .int (nI t)] x I J Q') (h1 : RB p1 100000) (k : ∀ v, Q v I J) : wcJ S (d + 1) 61 [.ref 42, .int p1, .int p2, .long p3, .int (nI t)] x I J Q :=
  c61_42 ⟨fun _ => k _, fun _ => ⟨fun _ => ⟨fun _ => k _, fun _ => join_lp_42 h62 k 20 0 _ _ _ rfl h1⟩, fun _ => k _⟩⟩
theorem holdA_42 : ∀ (m d t : Nat), t + m = 9 → ∀ (p1 : Int32) (p2 : Int64) {Q : Int64 → rI0 → rJ0 → Prop}, (∀ v, Q v I J) → wcJ S (d + 2 * m + 1) 62 [.ref 42, .int p1, .long p2, .int (nI t)] x I J Q := by
  intro m
  induction m with
  | zero =>
    intro d t ht p1 p2 Q k
    have ht : t = 9 := by omega
    subst ht
    exact c62_42 ⟨fun _ => k _, fun _ => ⟨fun _ => k _, fun q => absurd (by decide) q⟩⟩
  | succ m ih =>
    intro d t ht p1 p2 Q k
    show wcJ S ((d + 2 * (m + 1)) + 1) 62 _ x I J Q
    refine c62_42 ⟨fun _ => k _, fun _ => ⟨fun _ => k _, fun _ => ⟨fun _ => k _, fun h0 => ⟨fun hl => ?_, fun _ => k _⟩⟩⟩⟩
    obtain ⟨u, hu, e⟩ := i_nat (n := 239) (by omega) h0 (fun z => absurd hl (fun q => by
      rw [Int32.lt_iff_toInt_lt] at q z
      have e1 : (nI 239).toInt = 239 := by decide
      have e2 : (240 : Int32).toInt = 240 := by decide
      omega))
    have h15 : RB ((((I 10 p1.toNatClampNeg).toUInt32 >>> ((14 : Int32).toUInt32 &&& Int32.toUInt32 31)).toInt32) &&& (15 : Int32)) 15 := rb_and _ 4 15 (by decide) (by decide)
    have hin : ¬ mOut p1 240 := by rw [e]; exact nI_in (by omega) (by omega)
    have r62 : ∀ (q1 : Int32) (q2 : Int64) {Q' : Int64 → rI0 → rJ0 → Prop}, (∀ v, Q' v I J) → wcJ S (d + 2 * m + 1) 62 [.ref 42, .int q1, .long q2, .int (nI (t + 1))] x I J Q' := fun q1 q2 Q' kk => ih d (t + 1) (by omega) q1 q2 kk
    have r62' : ∀ (q1 : Int32) (q2 : Int64) {Q' : Int64 → rI0 → rJ0 → Prop}, (∀ v, Q' v I J) → wcJ S (d + 2 * (m + 1)) 62 [.ref 42, .int q1, .long q2, .int (nI t + 1)] x I J Q' := fun q1 q2 Q' kk => by
      have z := ih (d + 1) (t + 1) (by omega) q1 q2 kk
      rw [nI_succ] at z
      rw [show d + 2 * (m + 1) = d + 1 + 2 * m + 1 by omega]
      exact z
    have r61 : ∀ (q1 q2 : Int32) (q3 : Int64) {Q' : Int64 → rI0 → rJ0 → Prop}, RB q1 100000 → (∀ v, Q' v I J) → wcJ S (d + 2 * (m + 1)) 61 [.ref 42, .int q1, .int q2, .long q3, .int (nI t + 1)] x I J Q' := fun q1 q2 q3 Q' hq kk => by
      have z := joinA_42 (t := t + 1) (p2 := q2) (p3 := q3) r62 hq kk
      rw [nI_succ] at z
      exact z
    refine ⟨hin, fun _ => r62' _ _ (fun v => k _), fun _ => ⟨fun _ => r61 _ _ _ ?_ (fun v => k _), fun _ => ?_⟩⟩
    · rw [e, ← nI_succ]
      exact ⟨u + 1, by omega, rfl⟩
    · have z : ∀ (a7 a8 a9 b0 : Int32), wp S (d + 2 * (m + 1) + 1) 62 166 [some (.ref 42), some (.int p1), some (.long p2), none, some (.int (nI t)), some (.int (I 10 p1.toNatClampNeg)), some (.int ((((I 10 p1.toNatClampNeg).toUInt32 >>> ((14 : Int32).toUInt32 &&& Int32.toUInt32 31)).toInt32) &&& (15 : Int32))), some (.int a7), some (.int a8), some (.int a9), none, none, none, none, none, none, none, none, none] [.int b0] (wv x I J) (rJ x Q) := fun a7 a8 a9 b0 => hold166_42 h15 k
      repeat' first | exact z _ _ _ _ | refine ⟨fun _ => ?_, fun _ => ?_⟩
theorem joinedA_42 {p1 p2 : Int32} {p3 : Int64} {Q : Int64 → rI0 → rJ0 → Prop} (h1 : RB p1 100000) (k : ∀ v, Q v I J) : wcJ S (d + 20) 61 [.ref 42, .int p1, .int p2, .long p3, .int (1 : Int32)] x I J Q :=
  joinA_42 (d := d + 19) (t := 1) (fun q1 q2 Q' kk => by
    have z := holdA_42 (S := S) (x := x) 8 (d + 2) 1 rfl q1 q2 kk
    exact z) h1 k

end CN
end
