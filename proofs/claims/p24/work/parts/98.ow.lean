/-! the calls that throw -/
section OW0
variable {S : Nat × (Nat → Int32)} {d n : Nat} {x : mX} {I I' I1 I2 : rI0} {J J' J1 J2 : rJ0} {g : Nat → Int32} {W : Nat → lV} {Q : Int32 → rI0 → rJ0 → Prop}
theorem NTw.xt {x1 : mX} (nt : NTw W x I J) (hx : KX x I J) (hi : ∀ b, b < 68 + x.1.length → I1 b = I b) (hj : ∀ b, b ≠ 67 → b < 68 + x.1.length → J1 b = J b) (hk : ∀ k, x1.2.1 27 k = x.2.1 27 k) : NTw W x1 I1 J1 := by
  obtain ⟨ev, kp, tr, ar, hm, lr, di⟩ := nt
  unfold NTw
  rw [hi 45 (by omega), hi 43 (by omega), hj 43 (by omega) (by omega), hj 3 (by omega) (by omega)]
  refine ⟨ev.mv (hi 5 (by omega)) (fun b hb => hj b (by omega) (by omega)), fun k a h2 e => ?_, tr.mv (fun q _ _ => by rw [hi 37 (by omega)]) (hi 40 (by omega)) (fun q _ => by rw [hi 43 (by omega)]) (hi 60 (by omega)) (hj 59 (by omega) (by omega)) (by rw [hj 43 (by omega) (by omega)]) (by rw [hi 0 (by omega)]), fun z => ?_, hm.m3 (fun b h1 h2 => hi b (by omega)) (fun b h1 h2 => hj b (by omega) (by omega)), lr, di.mv (fun b hb => hi b (by omega)) (fun b hb => hj b (by omega) (by omega))⟩
  · rw [hk k] at e
    have w := kp k a h2 e
    have lb : 68 ≤ a ∧ a + 11 < 68 + x.1.length := by
      rcases hx k h2 with z | ⟨b, hb, eb, evb, -⟩
      · rw [z] at e
        cases e
      · have : b = a := Option.some.inj (eb.symm.trans e)
        subst this
        exact ⟨hb, evb.lt⟩
    rw [hi 63 (by omega), hj 64 (by omega) (by omega), hj 65 (by omega) (by omega)]
    exact w.mv (hi (a + 2) (by omega)) (fun b hb => hj b (by omega) (by omega))
  · have a := ar z
    unfold AR at a ⊢
    rw [hj 51 (by omega) (by omega)]
    exact a
theorem WR.xt {m : Nat} {a : Nat → Int} (h : WR m a I J) (hi : ∀ b, b < 68 → I1 b = I b) (hj : ∀ b, b < 67 → J1 b = J b) : WR m a I1 J1 := by
  unfold WR at *
  rw [hi 37 (by omega), hi 43 (by omega), hi 40 (by omega), hj 59 (by omega), hj 43 (by omega)]
  exact h
/-- behind a throw, and behind the answer's writing down -/
theorem T_t (h : INV n x I J) (rl : RLx x I J) (nt : NTw W x I J) : RLx (xA x (0, 11) 6) (va_up I (68 + x.1.length) (fun _ => 0)) (va_up J (68 + x.1.length) (fun _ => 0)) ∧ NTw W (xA x (0, 11) 6) (va_up I (68 + x.1.length) (fun _ => 0)) (va_up J (68 + x.1.length) (fun _ => 0)) := ⟨rl_t h.2.2.1.1 rfl rl h.t.2.1.mq, nt.xt h.2.2.1.1 (fun b hb => vu_ne (by omega)) (fun b _ hb => vu_ne (by omega)) (fun k => congrFun (xA_kf (n := 68 + x.1.length) rfl (by omega)) k)⟩
theorem T_j {v : Int64} (h : INV n x I J) (rl : RLx x I J) (nt : NTw W x I J) : RLx x I (mSet J 67 0 v) ∧ NTw W x I (mSet J 67 0 v) := ⟨rl_j rl (h.j).2.1.mq, nt.xt h.2.2.1.1 (fun _ _ => rfl) (fun b hb _ => mSet_ne hb) (fun _ => rfl)⟩
theorem T_et (h : INV n x I J) (rl : RLx x I J) (nt : NTw W x I J) {dr mr : Nat} {bs : List Value} (b : wcI S dr mr bs (xA x (0, 11) 6) (va_up I (68 + x.1.length) (fun _ => 0)) (va_up J (68 + x.1.length) (fun _ => 0)) (fun _ I2 J2 => Mz_ (va_up I (68 + x.1.length) (fun _ => 0)) (va_up J (68 + x.1.length) (fun _ => 0)) (va_up I (68 + x.1.length) (fun _ => 0) 43 2, some (va_up I (68 + x.1.length) (fun _ => 0) 43 13)) (va_up I (68 + x.1.length) (fun _ => 0) 45 0).toInt (va_up I (68 + x.1.length) (fun _ => 0) 45 1).toInt I2 J2)) (y : wcI S dr mr bs (xA x (0, 11) 6) (va_up I (68 + x.1.length) (fun _ => 0)) (va_up J (68 + x.1.length) (fun _ => 0)) (fun _ I2 J2 => I2 = mSet (va_up I (68 + x.1.length) (fun _ => 0)) 43 0 1 ∧ J2 = va_up J (68 + x.1.length) (fun _ => 0))) : wcI S dr mr bs (xA x (0, 11) 6) (va_up I (68 + x.1.length) (fun _ => 0)) (va_up J (68 + x.1.length) (fun _ => 0)) (fun _ I2 J2 => I2 43 0 = 1 ∧ INV (n + 1) (xA x (0, 11) 6) I2 J2 ∧ RX (xA x (0, 11) 6) I2 J2) := by
  obtain ⟨r2, n2⟩ := T_t h rl nt
  refine wcI_mono (wcI_and b y) (fun r I2 J2 g => ?_)
  obtain ⟨g1, g2, g3⟩ := g
  refine ⟨by rw [g2, mSet_at], h.t.m g1.f, rl_t h.2.2.1.1 rfl rl g1, W, ?_⟩
  subst g2 g3
  exact n2.z r2
theorem T_ej {v : Int32} (h : INV n x I J) (rl : RLx x I J) (nt : NTw W x I J) {dr mr : Nat} {bs : List Value} (b : wcI S dr mr bs x I (mSet J 67 0 v.toInt64) (fun _ I2 J2 => Mz_ I (mSet J 67 0 v.toInt64) (I 43 2, some (I 43 13)) (I 45 0).toInt (I 45 1).toInt I2 J2)) (y : wcI S dr mr bs x I (mSet J 67 0 v.toInt64) (fun r I2 J2 => r = v ∧ I2 = mSet I 43 0 0 ∧ J2 = mSet J 67 0 v.toInt64)) : wcI S dr mr bs x I (mSet J 67 0 v.toInt64) (fun r2 I2 J2 => I2 43 0 = 0 ∧ J2 67 0 = v.toInt64 ∧ r2 = v ∧ INV (n + 1) x I2 J2 ∧ RX x I2 J2) := by
  obtain ⟨r2, n2⟩ := T_j (v := v.toInt64) h rl nt
  refine wcI_mono (wcI_and b y) (fun r I2 J2 g => ?_)
  obtain ⟨g1, g0, g2, g3⟩ := g
  refine ⟨by rw [g2, mSet_at], by rw [g3, mSet_at], g0, (h.j).m g1.f, rl_j rl g1, W, ?_⟩
  subst g2 g3
  exact n2.z r2
theorem op_4 {p1 p2 : Int32} {T : mX → rI0 → rJ0 → Prop} (h : INV n x I J) (ht : RX x I J) (hn : n ≤ 64) (kt : ∀ x1 I1 J1, wcI S (d + 47) 187 [.ref 43, .int p1, .int p2] x1 I1 J1 (fun _ I2 J2 => I2 43 0 = 1 ∧ INV (n + 1) x1 I2 J2 ∧ RX x1 I2 J2) → T x1 I1 J1) (k : ∀ v, wcI S (d + 47) 187 [.ref 43, .int p1, .int p2] x I (mSet J 67 0 v.toInt64) (fun r2 I2 J2 => I2 43 0 = 0 ∧ J2 67 0 = v.toInt64 ∧ r2 = v ∧ INV (n + 1) x I2 J2 ∧ RX x I2 J2) → Q v I J) : wcT S (d + 46) 103 [.ref 0, .int p1, .int p2] x I J T Q := by
  obtain ⟨rl, W, nt⟩ := ht
  have hC := nt.ce rl
  refine xSeat (d := d + 43) hC nt.kd (fun r hr => (NTw.pr rl r hr).1) (fun z => ⟨by have := h.2.2.2.1; omega, kt _ _ _ (T_et h rl nt (mSeatP (d := d + 45) (h.t.2.1.mq) (fun _ _ _ z => z)) ?_)⟩) (fun s hs e z => k _ (T_ej h rl nt (mSeatP (d := d + 45) ((h.j).2.1.mq) (fun _ _ _ z => z)) ?_))
  · have r := (T_t h rl nt).2.rh (T_t h rl nt).1 h.t.2.1
    rw [vu_ne (show 45 ≠ 68 + x.1.length by omega)] at r
    exact ySeat (d := d + 45) (P := bits5 (J 3 5)) (H := bits5 (J 3 6)) r (fun s hs => by rw [vu_ne (by omega)]; exact nt.e6 s hs) (fun s hs => by rw [vu_ne (by omega)]; exact nt.e7 s hs) (fun _ => ⟨rfl, rfl⟩) (fun _ _ _ y => absurd (z.symm.trans y) (by decide))
  · have r := (T_j (v := (seatV (I 45) (bits5 (J 3 5)) (bits5 (J 3 6)) s p2).toInt64) h rl nt).2.rh (T_j h rl nt).1 (h.j).2.1
    refine ySeat (d := d + 45) (P := bits5 (J 3 5)) (H := bits5 (J 3 6)) r (fun s hs => by rw [mSet_ne (by decide)]; exact nt.e6 s hs) (fun s hs => by rw [mSet_ne (by decide)]; exact nt.e7 s hs) (fun y => absurd (y.symm.trans z) (by decide)) (fun s2 hs2 e2 _ => ⟨?_, rfl, rfl⟩)
    rw [nI_inj (by omega) (by omega) (e.symm.trans e2)]
theorem op_9 {p1 p2 : Int32} {T : mX → rI0 → rJ0 → Prop} (h : INV n x I J) (ht : RX x I J) (hn : n ≤ 64) (kt : ∀ x1 I1 J1, wcI S (d + 47) 194 [.ref 43, .int p1, .int p2] x1 I1 J1 (fun _ I2 J2 => I2 43 0 = 1 ∧ INV (n + 1) x1 I2 J2 ∧ RX x1 I2 J2) → T x1 I1 J1) (k : ∀ v, wcI S (d + 47) 194 [.ref 43, .int p1, .int p2] x I (mSet J 67 0 v.toInt64) (fun r2 I2 J2 => I2 43 0 = 0 ∧ J2 67 0 = v.toInt64 ∧ r2 = v ∧ INV (n + 1) x I2 J2 ∧ RX x I2 J2) → Q v I J) : wcT S (d + 46) 108 [.ref 0, .int p1, .int p2] x I J T Q := by
  obtain ⟨rl, W, nt⟩ := ht
  have hC := nt.ce rl
  obtain ⟨m, hm, e1, e2, m4⟩ := rl.2.1.2
  refine cueX (d := d + 45) (n := m) (g := I 45) hm e1 m4 (fun z => ⟨by have := h.2.2.2.1; omega, kt _ _ _ (T_et h rl nt (mCue (d := d + 46) (h.t.2.1.mq) (fun _ _ _ z => z)) ?_)⟩) (fun z => k _ (T_ej h rl nt (mCue (d := d + 46) ((h.j).2.1.mq) (fun _ _ _ z => z)) ?_))
  · exact cueY (d := d + 46) hm (by rw [vu_ne (by omega)]; exact e2) (fun _ => ⟨rfl, rfl⟩) (fun y => absurd y z)
  · exact cueY (d := d + 46) hm e2 (fun y => absurd z y) (fun _ => ⟨rfl, rfl, rfl⟩)
theorem op_25 {p1 p2 : Int32} {T : mX → rI0 → rJ0 → Prop} (h : INV n x I J) (ht : RX x I J) (hn : n ≤ 64) (kt : ∀ x1 I1 J1, wcI S (d + 47) 225 [.ref 43, .int p1, .int p2] x1 I1 J1 (fun _ I2 J2 => I2 43 0 = 1 ∧ INV (n + 1) x1 I2 J2 ∧ RX x1 I2 J2) → T x1 I1 J1) (k : ∀ v, wcI S (d + 47) 225 [.ref 43, .int p1, .int p2] x I (mSet J 67 0 v.toInt64) (fun r2 I2 J2 => I2 43 0 = 0 ∧ J2 67 0 = v.toInt64 ∧ r2 = v ∧ INV (n + 1) x I2 J2 ∧ RX x I2 J2) → Q v I J) : wcT S (d + 46) 124 [.ref 0, .int p1, .int p2] x I J T Q := by
  obtain ⟨rl, W, nt⟩ := ht
  have hC := nt.ce rl
  obtain ⟨m, a, wr⟩ := nt.2.2.1.2.1
  refine xWof (d := d + 45) wr (fun z => ⟨by have := h.2.2.2.1; omega, kt _ _ _ (T_et h rl nt (mWorthOf (d := d + 46) (h.t.2.1.mq) (fun _ _ _ z => z)) ?_)⟩) (fun i hi e z => k _ (T_ej h rl nt (mWorthOf (d := d + 46) ((h.j).2.1.mq) (fun _ _ _ z => z)) ?_))
  · exact r225x (d := d + 46) (wr.xt (fun b hb => vu_ne (by omega)) (fun b hb => vu_ne (by omega))) (fun _ => ⟨rfl, rfl⟩) (fun _ _ _ y => absurd (z.symm.trans y) (by decide))
  · refine r225x (d := d + 46) (wr.xt (fun _ _ => rfl) (fun b hb => mSet_ne (by omega))) (fun y => absurd (y.symm.trans z) (by decide)) (fun j hj ej _ => ⟨?_, rfl, rfl⟩)
    have := wr.1
    rw [nI_inj (by omega) (by omega) (e.symm.trans ej)]
end OW0
