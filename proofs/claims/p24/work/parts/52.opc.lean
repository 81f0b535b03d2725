/-! EACH CALL ON A NEW OBJECT: the class and the reference answer alike -/
section OPC
variable {S : Nat × (Nat → Int32)} {d : Nat} {x : mX} {I : rI0} {J : rJ0}
theorem vu_ne {α : Type} {f : Nat → α} {n a : Nat} {g : α} (h : a ≠ n) : va_up f n g a = f a := by
  unfold va_up
  rw [if_neg h]
/-- the class as it is made -/
def CI (I : rI0) (J : rJ0) : Prop := DZ I J ∧ I 1 1 = 0 ∧ I 0 9 = 0 ∧ I 0 10 = 0 ∧ (∀ k, k < 12 → I 9 k = -1) ∧ I 37 7 = 0 ∧ I 37 8 = -1 ∧ I 37 9 = -1 ∧ I 37 10 = -1 ∧ I 37 11 = -1 ∧ I 37 12 = -1 ∧ I 37 13 = -1
/-- the reference as it is made -/
def MI (I : rI0) (J : rJ0) : Prop := MB I J ∧ I 43 2 = 0 ∧ I 43 13 = 0 ∧ I 43 48 = -1 ∧ I 43 52 = 0 ∧ I 43 55 = 0 ∧ I 43 59 = -1 ∧ I 43 60 = -1 ∧ I 43 63 = 0 ∧ (∀ k, k < 2 → I 66 k = 0) ∧ (∀ i, i < 12 → I 45 (86 + 42 * i) = 0)
theorem MI.mv (h : MI I J) {I' : rI0} {J' : rJ0} (hi : ∀ a, 43 ≤ a → a ≤ 66 → I' a = I a) (hj : ∀ a, 43 ≤ a → a ≤ 66 → J' a = J a) : MI I' J' := by
  unfold MI MB at h ⊢
  rw [hi 43 (by omega) (by omega), hi 45 (by omega) (by omega), hi 66 (by omega) (by omega), hj 43 (by omega) (by omega), hj 52 (by omega) (by omega), hj 53 (by omega) (by omega), hj 54 (by omega) (by omega), hj 55 (by omega) (by omega)]
  exact h
theorem MI.dd (h : MI I J) {I' : rI0} {J' : rJ0} (o : OffD I J I' J') : MI I' J' := h.mv (fun a ha _ => o.1 a (by omega)) (fun a ha _ => o.2 a (by omega))
theorem MI.t (h : MI I J) {n : Nat} (hn : 68 ≤ n) : MI (va_up I n (fun _ => 0)) (va_up J n (fun _ => 0)) := h.mv (fun a _ h2 => vu_ne (by omega)) (fun a _ h2 => vu_ne (by omega))
theorem eqok {r : Int32} {A B : Prop} (h : A) : (r = r → A) ∧ (¬ r = r → B) := ⟨fun _ => h, fun n => absurd rfl n⟩
theorem eqok2 {r s : Int32} {A B : Prop} (e : r = s) (h : A) : (r = s → A) ∧ (¬ r = s → B) := ⟨fun _ => h, fun n => absurd e n⟩
/-! feed -/
theorem put_1 {l1 l2 : Int32} {n : Nat} {Q : rI0 → rJ0 → Prop} (hl : ¬ l2 < 0) (hn : I 1 1 = nI n) (h : n < 940) (k : ∀ I', I' 1 1 = nI (n + 1) → (∀ a, a ≠ 1 → a ≠ 2 → I' a = I a) → wp S d 66 3 [some (.ref 1), some (.int l1), some (.int (l2 + -8))] [] (wv x I' J) (rV x Q)) : wp S d 66 3 [some (.ref 1), some (.int l1), some (.int l2)] [] (wv x I J) (rV x Q) := by
  refine v66_1_3 ⟨fun q => absurd q hl, fun _ => ⟨fun _ => ⟨by rw [hn]; exact nI_in h (by omega), k _ ?_ ?_⟩, fun q => absurd (by rw [hn]; exact nI_lt (b := 940) h (by omega)) q⟩⟩
  · show I 1 1 + 1 = _
    rw [hn, nI_succ]
  · intro a h1 h2
    rw [mSet_ne h1, mSet_ne h2]
theorem put0 {p : Int32} {n : Nat} {Q : rI0 → rJ0 → Prop} (hn : I 1 1 = nI n) (h : n + 4 ≤ 940) (k : ∀ I', I' 1 1 = nI (n + 4) → (∀ a, a ≠ 1 → a ≠ 2 → I' a = I a) → Q I' J) : wcV S d 66 [.ref 1, .int p] x I J Q := by
  refine c66_1 (put_1 (n := n) (by decide) hn (by omega) (fun I1 h1 o1 => put_1 (n := n + 1) (by decide) h1 (by omega) (fun I2 h2 o2 => put_1 (n := n + 2) (by decide) h2 (by omega) (fun I3 h3 o3 => put_1 (n := n + 3) (by decide) h3 (by omega) (fun I4 h4 o4 => v66_1_3 ⟨fun _ => k I4 h4 ?_, fun q => absurd (by decide) q⟩)))))
  intro a ha hb
  rw [o4 a ha hb, o3 a ha hb, o2 a ha hb, o1 a ha hb]
theorem feedC {p1 p2 p3 p4 p5 : Int32} {Q : Int32 → rI0 → rJ0 → Prop} (h : I 1 1 = nI 0) (k : ∀ I', (∀ a, a ≠ 1 → a ≠ 2 → I' a = I a) → Q (nI 20) I' J) : wcI S (d + 1) 99 [.ref 0, .int p1, .int p2, .int p3, .int p4, .int p5] x I J Q := by
  refine c99_0 ⟨fun q => absurd q (by rw [h]; decide), fun _ => put0 h (by omega) (fun I1 h1 o1 => put0 h1 (by omega) (fun I2 h2 o2 => put0 h2 (by omega) (fun I3 h3 o3 => put0 h3 (by omega) (fun I4 h4 o4 => put0 h4 (by omega) (fun I5 h5 o5 => ?_)))))⟩
  rw [h5]
  refine k I5 (fun a ha hb => ?_)
  rw [o5 a ha hb, o4 a ha hb, o3 a ha hb, o2 a ha hb, o1 a ha hb]
theorem four_1 {l1 l2 : Int32} {n : Nat} {Q : rI0 → rJ0 → Prop} (hl : ¬ l2 < 0) (hn : I 43 2 = nI n) (h : n < 940) (k : ∀ I', I' 43 2 = nI (n + 1) → wp S d 148 3 [some (.ref 43), some (.int l1), some (.int (l2 + -8))] [] (wv x I' J) (rV x Q)) : wp S d 148 3 [some (.ref 43), some (.int l1), some (.int l2)] [] (wv x I J) (rV x Q) := by
  refine v148_43_3 ⟨fun q => absurd q hl, fun _ => ⟨by rw [hn]; exact nI_in h (by omega), k _ ?_⟩⟩
  show I 43 2 + 1 = _
  rw [hn, nI_succ]
theorem four0 {p : Int32} {n : Nat} {Q : rI0 → rJ0 → Prop} (hn : I 43 2 = nI n) (h : n + 4 ≤ 940) (k : ∀ I', I' 43 2 = nI (n + 4) → Q I' J) : wcV S d 148 [.ref 43, .int p] x I J Q :=
  c148_43 (four_1 (n := n) (by decide) hn (by omega) (fun I1 h1 => four_1 (n := n + 1) (by decide) h1 (by omega) (fun I2 h2 => four_1 (n := n + 2) (by decide) h2 (by omega) (fun I3 h3 => four_1 (n := n + 3) (by decide) h3 (by omega) (fun I4 h4 => v148_43_3 ⟨fun _ => k I4 h4, fun q => absurd (by decide) q⟩)))))
theorem feedM {p1 p2 p3 p4 p5 : Int32} {Q : Int32 → rI0 → rJ0 → Prop} (h : I 43 2 = nI 0) (k : ∀ I', Q (nI 20) I' J) : wcI S (d + 1) 147 [.ref 43, .int p1, .int p2, .int p3, .int p4, .int p5] x I J Q := by
  refine c147_43 ⟨fun q => absurd q (by rw [h]; decide), fun _ => four0 (n := 0) h (by omega) (fun I1 h1 => four0 h1 (by omega) (fun I2 h2 => four0 h2 (by omega) (fun I3 h3 => four0 h3 (by omega) (fun I4 h4 => four0 h4 (by omega) (fun I5 h5 => ?_)))))⟩
  rw [h5]
  exact k I5
/-! house and cues on an empty tape -/
def Up43 (I : rI0) (J : rJ0) (I' : rI0) (J' : rJ0) : Prop := (∀ a, 43 ≤ a → a ≤ 66 → I' a = I a) ∧ ∀ a, 43 ≤ a → a ≤ 66 → J' a = J a
theorem fillI_v {b n : Nat} {v : Int32} {Q : rI0 → rJ0 → Prop} (hs : (SHL ++ x.1)[b]? = some (1, n)) (hn : n < 2 ^ 31) (k : Q (va_up I b (fun j => if j < n then v else I b j)) J) : wcV S d 252 [.ref b, .int v] x I J Q := fillI (w := wv x I J) hs hn ⟨_, J, rfl, rfl, k⟩
theorem fillJ_v {b n : Nat} {v : Int64} {Q : rI0 → rJ0 → Prop} (hs : (SHL ++ x.1)[b]? = some (4, n)) (hn : n < 2 ^ 31) (k : Q I (va_up J b (fun j => if j < n then v else J b j))) : wcV S d 251 [.ref b, .long v] x I J Q := fillJ (w := wv x I J) hs hn ⟨I, _, rfl, rfl, k⟩
theorem clear16 {Q : rI0 → rJ0 → Prop} (k : ∀ I' J', Up43 I J I' J' → I' 16 0 = 0 → I' 16 1 = 0 → I' 16 4 = 0 → J' 16 5 = 0 → I' 1 = I 1 → Q I' J') : wcV S (d + 1) 21 [.ref 16] x I J Q := by
  refine c21_16 (fillJ_v rfl (by decide) (fillI_v rfl (by decide) (fillI_v rfl (by decide) (fillI_v rfl (by decide) ?_))))
  refine k _ _ ⟨fun a h1 h2 => ?_, fun a h1 h2 => ?_⟩ rfl rfl rfl rfl rfl
  · rw [vu_ne (by omega), vu_ne (by omega), vu_ne (by omega), mSet_ne (by omega), mSet_ne (by omega), mSet_ne (by omega), mSet_ne (by omega), mSet_ne (by omega)]
  · rw [vu_ne (by omega), mSet_ne (by omega)]
theorem read0 {Q : rI0 → rJ0 → Prop} (h1 : I 28 1 = 0) (h2 : I 28 2 = 0) (h5 : I 28 5 = 0) (k : Q (mSet (mSet I 28 4 0) 28 3 1) J) : wcV S d 70 [.ref 28] x I J Q := by
  refine c70_28 ⟨fun q => absurd q (by rw [h1, h5]; decide), fun _ => v70_28_52 ⟨fun q => absurd q (by rw [h2, h5]; decide), fun _ => ⟨fun q => absurd q (by rw [h1, h2]; decide), fun _ => ?_⟩⟩⟩
  rw [h2]
  exact k
theorem open0 {p q : Int32} {Q : rI0 → rJ0 → Prop} (hp : p = 0) (hq : ¬ q < 0) (k : ∀ I', (∀ a, a ≠ 28 → I' a = I a) → I' 28 3 = 1 → I' 28 8 = 0 → Q I' J) : wcV S (d + 1) 69 [.ref 28, .int p, .int q] x I J Q := by
  subst hp
  have e1 : (if (940 : Int32) < 0 then (940 : Int32) else 0) = 0 := by decide
  refine c69_28 ?_
  rw [e1, if_neg hq]
  refine read0 rfl rfl rfl (k _ (fun a ha => ?_) rfl rfl)
  rw [mSet_ne ha, mSet_ne ha, mSet_ne ha, mSet_ne ha, mSet_ne ha, mSet_ne ha]
theorem surv_lp {Q : rI0 → rJ0 → Prop} (hj : J 16 5 = 0) (k : Q I J) : ∀ m c : Nat, c + m = 64 → wp S (d + 1) 32 66 [some (.ref 16), some (.int (nI c))] [] (wv x I J) (rV x Q) := by
  intro m
  induction m with
  | zero =>
    intro c hc
    have hc : c = 64 := by omega
    subst hc
    exact v32_16_66 ⟨fun h => absurd h (by decide), fun _ => k⟩
  | succ m ih =>
    intro c hc
    have h := ih (c + 1) (by omega)
    rw [nI_succ] at h
    exact v32_16_66 ⟨fun _ => isSeat16 hj (eqok h), fun h1 => absurd (nI_lt (by omega) (by omega) : nI c < nI 64) h1⟩
theorem survey0 {Q : rI0 → rJ0 → Prop} (h0 : I 16 0 = 0) (h1 : I 16 1 = 0) (k : Q I (mSet J 16 5 0)) : wcV S (d + 1) 32 [.ref 16] x I J Q := by
  refine c32_16 (v32_16_7 (c23_16 ⟨fun q => absurd q (by rw [h0, h1]; decide), fun _ => surv_lp rfl k 64 0 rfl⟩))
theorem cp30 : (¬ (0 : Int32) < 0 ∧ ¬ (0 : Int32) < 0 ∧ ¬ (30 : Int32) < 0 ∧ (0 : Int32).toNatClampNeg + (30 : Int32).toNatClampNeg ≤ 30 ∧ (0 : Int32).toNatClampNeg + (30 : Int32).toNatClampNeg ≤ 30) := by decide
theorem takeCues0 {Q : rI0 → rJ0 → Prop} (k : ∀ I', (∀ a, a ≠ 3 → a ≠ 12 → a ≠ 13 → a ≠ 14 → I' a = I a) → I' 3 4 = I 15 4 → Q I' J) : wcV S (d + 1) 16 [.ref 3, .ref 15] x I J Q := by
  refine c16_3_15 ⟨cp30, fun I1 e1 => ⟨cp30, fun I2 e2 => ⟨cp30, fun I3 e3 => k I3 (fun a h1 h2 h3 h4 => ?_) ?_⟩⟩⟩
  · rw [e3, vu_ne h4, e2, vu_ne h3, e1, vu_ne h2, mSet_ne h1]
  · rw [e3, e2, e1]
    rfl
theorem takeHouse0 {Q : rI0 → rJ0 → Prop} (h4 : I 16 4 = 0 ∨ I 16 4 = 1) (k : ∀ I' J', (∀ a, ¬ (4 ≤ a ∧ a ≤ 11) → I' a = I a) → (∀ a, ¬ (4 ≤ a ∧ a ≤ 11) → J' a = J a) → Q I' J') : wcV S (d + 1) 22 [.ref 4, .ref 16] x I J Q := by
  refine c22_4_16 ⟨h4, by decide, fun I1 e1 => ⟨by decide, fun J2 e2 => ⟨by decide, fun I3 e3 => ⟨by decide, fun I4 e4 => ⟨by decide, fun I5 e5 => ⟨by decide, fun I6 e6 => ⟨by decide, fun J7 e7 => k I6 J7 (fun a ha => ?_) (fun a ha => ?_)⟩⟩⟩⟩⟩⟩⟩
  · rw [e6, vu_ne (by omega), e5, vu_ne (by omega), e4, vu_ne (by omega), e3, vu_ne (by omega), e1, vu_ne (by omega), mSet_ne (by omega), mSet_ne (by omega), mSet_ne (by omega), mSet_ne (by omega), mSet_ne (by omega)]
  · rw [e7, vu_ne (by omega), e2, vu_ne (by omega), mSet_ne (by omega)]
theorem houseC {Q : Int32 → rI0 → rJ0 → Prop} (h : I 1 1 = 0) (k : ∀ I' J', Up43 I J I' J' → Q 0 I' J') : wcI S (d + 4) 101 [.ref 0] x I J Q := by
  refine c101_0 (c14_15 (clear16 (fun I1 J1 u1 z0 z1 z4 z5 y1 => ?_)))
  refine c67_1 (open0 (by show I1 1 1 = 0; rw [y1]; exact h) (by decide) (fun I2 o2 a3 a8 => ?_))
  refine c36_29 (v101_0_33 ⟨fun _ => ⟨fun _ => v101_0_67 ⟨fun _ => ?_, fun q => absurd a8 q⟩, fun q => absurd a3 q⟩, fun q => absurd (by decide) q⟩)
  have w0 : I2 16 0 = 0 := by rw [o2 16 (by decide)]; exact z0
  have w1 : I2 16 1 = 0 := by rw [o2 16 (by decide)]; exact z1
  have w4 : I2 16 4 = 0 := by rw [o2 16 (by decide)]; exact z4
  refine survey0 w0 w1 (c15_3_15 (takeHouse0 (Or.inl w4) (fun I3 J3 oi oj => takeCues0 (fun I4 oc e4 => c6_31 ?_))))
  refine k _ _ ⟨fun a h1 h2 => ?_, fun a h1 h2 => ?_⟩
  · rw [mSet_ne (by omega), oc a (by omega) (by omega) (by omega) (by omega), oi a (by omega), mSet_ne (by omega), mSet_ne (by omega), mSet_ne (by omega), mSet_ne (by omega), o2 a (by omega), mSet_ne (by omega), mSet_ne (by omega)]
    exact u1.1 a h1 h2
  · rw [mSet_ne (by omega), mSet_ne (by omega), oj a (by omega), mSet_ne (by omega), mSet_ne (by omega), mSet_ne (by omega)]
    exact u1.2 a h1 h2
theorem cuesC {Q : Int32 → rI0 → rJ0 → Prop} (h : I 1 1 = 0) (k : ∀ I' J', Up43 I J I' J' → Q 0 I' J') : wcI S (d + 4) 107 [.ref 0] x I J Q := by
  refine c107_0 (c67_1 (open0 h (by decide) (fun I2 o2 a3 a8 => ?_)))
  refine c2_30 (v2_30_10 ⟨fun _ => ⟨fun _ => ⟨fun _ => takeCues0 (fun I4 oc e4 => c6_31 ?_), fun q => absurd a8 q⟩, fun q => absurd a3 q⟩, fun q => absurd (by decide) q⟩)
  have e5 : mSet I4 31 6 0 3 4 = 0 := e4
  rw [e5]
  refine k _ _ ⟨fun a h1 h2 => ?_, fun a h1 h2 => rfl⟩
  rw [mSet_ne (by omega), oc a (by omega) (by omega) (by omega) (by omega), mSet_ne (by omega), mSet_ne (by omega), o2 a (by omega), mSet_ne (by omega)]
theorem peek0 {Q : Int32 → rI0 → rJ0 → Prop} (h : I 43 3 = 0) (h4 : I 43 4 = 0) (k : Q (-1) I J) : wcI S d 158 [.ref 43] x I J Q := c158_43 ⟨fun q => absurd q (by rw [h, h4]; decide), fun _ => k⟩
theorem next0 {Q : rI0 → rJ0 → Prop} (h : I 43 3 = 0) (h4 : I 43 4 = 0) (h5 : ¬ I 43 5 < 0) (k : Q (mSet (mSet (mSet I 43 10 (I 43 4)) 43 11 0) 43 9 0) J) : wcV S (d + 1) 161 [.ref 43] x I J Q := by
  refine c161_43 (peek0 h h4 ⟨fun q => absurd q (by decide), fun _ => peek0 h h4 ⟨fun q => absurd q (by decide), fun _ => ⟨fun q => absurd q (by rw [h]; exact h5), fun _ => ?_⟩⟩⟩)
  exact v161_43_80 (peek0 h h4 ⟨fun _ => k, fun q => absurd (by decide) q⟩)
end OPC
