section
section NC41
variable {S : Nat × (Nat → Int32)} {d : Nat} {x : mX} {I : rI0} {J : rJ0} {g : Nat → Int32} {W : Nat → lV} {N hd : Nat → Nat} {P H L : Nat → Bool}
def F41 (I : rI0) (J : rJ0) (I' : rI0) (J' : rJ0) : Prop := (∀ b, b ≠ 41 → I' b = I b) ∧ ∀ b, b ≠ 41 → J' b = J b
theorem F41.rf : F41 I J I J := ⟨fun _ _ => rfl, fun _ _ => rfl⟩
theorem F41.tr {I1 I2 : rI0} {J1 J2 : rJ0} (h : F41 I J I1 J1) (h2 : F41 I1 J1 I2 J2) : F41 I J I2 J2 := ⟨fun b hb => (h2.1 b hb).trans (h.1 b hb), fun b hb => (h2.2 b hb).trans (h.2 b hb)⟩
theorem HM.n41 {I' : rI0} {J' : rJ0} (h : HM g W I J) (f : F41 I J I' J') : HM g W I' J' := h.mv (fun b hb => f.1 b (by omega)) (fun b hb => f.2 b (by omega))
/-- doCues -/
theorem dc_41 {t : Nat} (hG : GA g) (ht : t ≤ 600) {Q : Int32 → rI0 → rJ0 → Prop} : ∀ (m i : Nat) (I : rI0) (J : rJ0), i + m = cuN g t → prN g t ≤ i → HM g W I J → I 41 2 = nI t → I 41 3 = nI i → (∀ s, s < 64 → bits5 (J 41 5) s = cuP g 0 P i s) → (∀ s, s < 64 → bits5 (J 41 6) s = cuP g 1 H i s) → (∀ I' J', F41 I J I' J' → (∀ q, q ≠ 3 → I' 41 q = I 41 q) → (∀ q, q ≠ 5 → q ≠ 6 → J' 41 q = J 41 q) → I' 41 3 = nI (cuN g t) → (∀ s, s < 64 → bits5 (J' 41 5) s = cuP g 0 P (cuN g t) s) → (∀ s, s < 64 → bits5 (J' 41 6) s = cuP g 1 H (cuN g t) s) → Q (nI (if cuS g t = true then 1 else 0)) I' J') → wp S (d + 1) 56 2 [some (.ref 41), some (.int (nI (if stB g (prN g t) i = true then 1 else 0))), none, none] [] (wv x I J) (rI x Q) := by
  have hl := cuN_l (g := g) (t := t)
  have h30 := hG.2.2.2.2.2.1
  have b01 : ∀ b : Bool, nI (if b = true then 1 else 0) = 0 ∨ nI (if b = true then 1 else 0) = 1 := by decide
  intro m
  induction m with
  | zero =>
    intro i I J hi hp hM h2 h3 h5 h6 k
    have hi : i = cuN g t := by omega
    have fin : Q (nI (if stB g (prN g t) i = true then 1 else 0)) I J := by
      rw [hi, stB_c hG]
      subst hi
      exact k I J F41.rf (fun _ _ => rfl) (fun _ _ _ => rfl) h3 h5 h6
    refine v56_41_2 ⟨fun q => ⟨fun q2 => ?_, fun q2 => ⟨b01 _, fin⟩⟩, fun q => ⟨b01 _, fin⟩⟩
    rw [h3, hM.2.2.2.2.2.2.2.2.2.1] at q
    have q : i < gN g 590 := (nI_ltI (by omega) (by omega)).mp q
    rw [h3, nI_clamp (by omega), h2, (hM.2.2.2.2.2.2.2.2.2.2 i q).1]
    refine ⟨nI_in (by omega) (by omega), fun _ => ⟨b01 _, fin⟩, fun y => ?_⟩
    exfalso
    refine y (nI_lt ?_ (by have := (hG.2.2.2.2.2.2.1 i q).1; omega))
    have := cuN_i hG (t := t) q
    omega
  | succ m ih =>
    intro i I J hi hp hM h2 h3 h5 h6 k
    have q : i < gN g 590 := by omega
    obtain ⟨c1, c2, c3⟩ := hM.2.2.2.2.2.2.2.2.2.2 i q
    obtain ⟨g1, g2, g3⟩ := hG.2.2.2.2.2.2.1 i q
    have hm : gN g (591 + 3 * i) ≤ t := (cuN_i hG q).mpr (by omega)
    refine v56_41_2 ⟨fun _ => ⟨fun _ => ?_, fun y => absurd (by rw [h3]; exact nI_lt (b := 30) (by omega) (by omega)) y⟩, fun y => absurd (by rw [h3, hM.2.2.2.2.2.2.2.2.2.1]; exact nI_lt q (by omega)) y⟩
    rw [h3, nI_clamp (by omega), h2, c1, c2]
    refine ⟨nI_in (by omega) (by omega), fun y => absurd y (nI_nlt hm (by omega)), fun _ => ⟨nI_in (by omega) (by omega), fun y => ?_, fun y => ⟨nI_in (by omega) (by omega), ?_⟩⟩⟩
    · have y : gN g (592 + 3 * i) = 3 := nI_ij (by omega) (by omega) y
      have e1 : (1 : Int32) = nI (if stB g (prN g t) (i + 1) = true then 1 else 0) := by
        rw [stB_s hp, decide_eq_true y, Bool.or_true]
        rfl
      rw [← nI_succ, e1]
      refine ih (i + 1) (mSet I 41 3 (nI (i + 1))) J (by omega) (by omega) (hM.n41 ⟨fun b hb => mSet_ne hb, fun _ _ => rfl⟩) h2 rfl (fun s hs => ?_) (fun s hs => ?_) (fun I' J' f f1 f2 f3 f5 f6 => k I' J' (F41.tr ⟨fun b hb => mSet_ne hb, fun _ _ => rfl⟩ f) (fun q hq => ?_) f2 f3 f5 f6)
      · rw [h5 s hs, cuP_s, if_pos y]
      · rw [h6 s hs, cuP_s, if_pos y]
      · rw [f1 q hq]
        show mSet I 41 3 _ 41 q = _
        unfold mSet va_up
        rw [if_pos rfl, if_neg hq]
    · have y : gN g (592 + 3 * i) ≠ 3 := fun z => y (by rw [z]; rfl)
      have e1 : stB g (prN g t) i = stB g (prN g t) (i + 1) := by
        rw [stB_s hp, decide_eq_false y, Bool.or_false]
      have hs4 := seB_l (g3 y)
      rw [c3 y, e1]
      have go : ∀ (e : Nat) (J1 : rJ0), e = (if gN g (592 + 3 * i) = 0 then 1 else 0) → wp S (d + 1) 56 95 [some (.ref 41), some (.int (nI (if stB g (prN g t) (i + 1) = true then 1 else 0))), some (.int (nI (gN g (592 + 3 * i)))), some (.int (nI (gN g (593 + 3 * i))))] [.int (nI e), .int (nI (gN g (593 + 3 * i))), .long (J 41 5), .ref 41] (wv x I J) (rI x Q) := by
        intro e J1 he
        have e01 : e ≤ 1 := by
          rw [he]
          split <;> omega
        have last : ∀ (e2 : Nat) (r1 r2 : Int64), e2 ≤ 1 → (decide (e2 = 1) = decide (gN g (592 + 3 * i) = 1)) → r1 = ((J 41 5 &&& (((1 : Int64) <<< ((nI (gN g (593 + 3 * i))).toInt64 &&& 63)) ^^^ (-1 : Int64))) ||| ((nI e).toInt64 <<< ((nI (gN g (593 + 3 * i))).toInt64 &&& 63))) → r2 = ((J 41 6 &&& (((1 : Int64) <<< ((nI (gN g (593 + 3 * i))).toInt64 &&& 63)) ^^^ (-1 : Int64))) ||| ((nI e2).toInt64 <<< ((nI (gN g (593 + 3 * i))).toInt64 &&& 63))) → wp S (d + 1) 56 2 [some (.ref 41), some (.int (nI (if stB g (prN g t) (i + 1) = true then 1 else 0))), none, none] [] (wv x (mSet I 41 3 (nI (i + 1))) (mSet (mSet J 41 5 r1) 41 6 r2)) (rI x Q) := by
          intro e2 r1 r2 h2e d2 er1 er2
          refine ih (i + 1) _ _ (by omega) (by omega) (hM.n41 ⟨fun b hb => mSet_ne hb, fun b hb => by rw [mSet_ne hb, mSet_ne hb]⟩) h2 rfl (fun s hs => ?_) (fun s hs => ?_) (fun I' J' f f1 f2 f3 f5 f6 => k I' J' (F41.tr ⟨fun b hb => mSet_ne hb, fun b hb => by rw [mSet_ne hb, mSet_ne hb]⟩ f) (fun q hq => ?_) (fun q hq1 hq2 => ?_) f3 f5 f6)
          · show bits5 r1 s = _
            rw [er1, b5_w hs4 e01 hs, cuP_s, if_neg y, h5 s hs, he]
            split
            · exact decide_eq_decide.mpr (by split <;> omega)
            · rfl
          · show bits5 r2 s = _
            rw [er2, b5_w hs4 h2e hs, cuP_s, if_neg y, h6 s hs, d2]
          · rw [f1 q hq]
            show mSet I 41 3 _ 41 q = _
            unfold mSet va_up
            rw [if_pos rfl, if_neg hq]
          · rw [f2 q hq1 hq2]
            show mSet (mSet J 41 5 _) 41 6 _ 41 q = _
            unfold mSet va_up
            rw [if_pos rfl, if_neg hq2, if_pos rfl, if_neg hq1]
        refine v56_41_95 (c143 ⟨fun z => ?_, fun z => ?_⟩)
        · have z : gN g (592 + 3 * i) = 1 := nI_ij (by omega) (by omega) z
          refine c143 ?_
          rw [h3, ← nI_succ]
          exact last 1 _ _ (by omega) (by rw [decide_eq_true z]; rfl) rfl rfl
        · have z : gN g (592 + 3 * i) ≠ 1 := fun z2 => z (by rw [z2]; rfl)
          refine c143 ?_
          rw [h3, ← nI_succ]
          exact last 0 _ _ (by omega) (by rw [decide_eq_false z]; rfl) rfl rfl
      refine ⟨fun z => ?_, fun z => ?_⟩
      · have z : gN g (592 + 3 * i) = 0 := nI_ij (by omega) (by omega) z
        exact go 1 J (by rw [if_pos z])
      · have z : gN g (592 + 3 * i) ≠ 0 := fun z2 => z (by rw [z2]; rfl)
        exact go 0 J (by rw [if_neg z])
theorem rws_41 {r : Nat} {Q : Int64 → rI0 → rJ0 → Prop} (hG : GA g) (hM : HM g W I J) (hr : r < gN g 0) (k : ∀ v, (∀ s, s < 64 → bits5 v s = rwB g r s) → Q v I J) : wcJ S d 28 [.ref 4, .int (nI r)] x I J Q := by
  refine c28_4 (k _ (fun s hs => ?_))
  rw [hM.2.1]
  refine rwS_b (gN g 1) (by have := hG.2.1; omega) r (by have := hG.1; omega) s hs ?_
  exact Nat.le_trans (Nat.mul_le_mul (show r + 1 ≤ 8 by have := hG.1; omega) hG.2.1) (by omega)
/-- seeRowsOff -/
theorem so_41 {t : Nat} (hG : GA g) (ht : t ≤ 600) {Q : rI0 → rJ0 → Prop} : ∀ (m r : Nat) (J : rJ0), r + m = gN g 0 → HM g W I J → I 41 2 = nI t → (∀ s, s < 64 → bits5 (J 41 7) s = (lfP g t s || (decide (s < r * gN g 1) && decide (gN g (78 + s / gN g 1) = t + 1)))) → (∀ J', F41 I J I J' → (∀ q, q ≠ 7 → J' 41 q = J 41 q) → (∀ s, s < 64 → bits5 (J' 41 7) s = lfB g t s) → Q I J') → wp S (d + 1) 57 2 [some (.ref 41), some (.int (nI r))] [] (wv x I J) (rV x Q) := by
  have h8 := hG.1
  intro m
  induction m with
  | zero =>
    intro r J hr hM h2 hb k
    have hr : r = gN g 0 := by omega
    refine v57_41_2 ⟨fun q => absurd q (by rw [hM.1]; exact nI_nlt (by omega) (by omega)), fun _ => k J F41.rf (fun _ _ => rfl) (fun s hs => ?_)⟩
    rw [hb s hs, lfB_s, hr]
  | succ m ih =>
    intro r J hr hM h2 hb k
    have hr8 : r < 8 := by omega
    have row : ∀ s, s < 64 → rwB g r s = true → s / gN g 1 = r := by
      intro s hs z
      unfold rwB at z
      rw [Bool.and_eq_true, decide_eq_true_iff, decide_eq_true_iff] at z
      have hc : 0 < gN g 1 := by
        rcases Nat.eq_zero_or_pos (gN g 1) with y | y
        · rw [y] at z
          omega
        · exact y
      exact Nat.div_eq_of_lt_le z.1 z.2
    have ext : ∀ s, decide (s < (r + 1) * gN g 1) = (decide (s < r * gN g 1) || rwB g r s) := by
      intro s
      have e : (r + 1) * gN g 1 = r * gN g 1 + gN g 1 := Nat.succ_mul _ _
      unfold rwB
      rw [← Bool.decide_and, ← Bool.decide_or]
      exact decide_eq_decide.mpr (by omega)
    refine v57_41_2 ⟨fun _ => ⟨nI_in hr8 (by omega), ?_⟩, fun q => absurd (by rw [hM.1]; exact nI_lt (by omega) (by omega)) q⟩
    rw [nI_clamp (by omega), h2]
    have hlv := hM.2.2.2.2.2.2.1 r hr8
    refine ⟨fun q => ?_, fun q => ?_⟩
    · have e : gN g (78 + r) = t + 1 := by
        rcases hlv with ⟨a, _⟩ | ⟨m, a1, a2, a3⟩
        · rw [a] at q
          have := congrArg Int32.toInt q
          rw [nI_toInt (by omega), show (-1 : Int32).toInt = -1 by decide] at this
          omega
        · rw [a2] at q
          have := nI_ij (by omega) (by omega) q
          omega
      refine rws_41 hG hM (by omega) (fun v hv => ?_)
      rw [← nI_succ]
      refine ih (r + 1) _ (by omega) (hM.n41 ⟨fun _ _ => rfl, fun b hb => mSet_ne hb⟩) h2 (fun s hs => ?_) (fun J' f f1 f2 => k J' (F41.tr ⟨fun _ _ => rfl, fun b hb => mSet_ne hb⟩ f) (fun q hq => ?_) f2)
      · show bits5 (J 41 7 ||| v) s = _
        rw [b5_or, hb s hs, hv s hs, ext s]
        cases z : rwB g r s with
        | false => rw [Bool.or_false, Bool.or_false]
        | true =>
          rw [row s hs z, e, decide_eq_true rfl]
          simp
      · rw [f1 q hq]
        show mSet J 41 7 _ 41 q = _
        unfold mSet va_up
        rw [if_pos rfl, if_neg hq]
    · have e : gN g (78 + r) ≠ t + 1 := by
        intro z
        rcases hlv with ⟨_, a⟩ | ⟨m, a1, a2, a3⟩
        · omega
        · exact q (by rw [a2, show m = t by omega])
      rw [← nI_succ]
      refine ih (r + 1) J (by omega) hM h2 (fun s hs => ?_) k
      rw [hb s hs, ext s]
      cases z : rwB g r s with
      | false => rw [Bool.or_false]
      | true => rw [row s hs z, decide_eq_false e, Bool.and_false, Bool.and_false]
/-- standing -/
theorem sd_41 {t : Nat} {Q : Int64 → rI0 → rJ0 → Prop} (hG : GA g) (hM : HM g W I J) (ht : t ≤ 600) (h2 : I 41 2 = nI t) (h5 : ∀ s, s < 64 → bits5 (J 41 5) s = P s) (h6 : ∀ s, s < 64 → bits5 (J 41 6) s = H s) (h7 : ∀ s, s < 64 → bits5 (J 41 7) s = L s) (k : ∀ v, (∀ s, s < 64 → bits5 v s = (decide (t ≤ gN g 4) && ((P s && !H s) && !L s))) → Q v I J) : wcJ S d 58 [.ref 41] x I J Q := by
  have h4 := hG.2.2.1
  refine c58_41 ⟨fun q => k _ (fun s hs => ?_), fun q => k _ (fun s hs => ?_)⟩
  · rw [hM.2.2.1, h2] at q
    have q := (nI_ltI (by omega) (by omega)).mp q
    rw [b5_0, decide_eq_false (by omega)]
    rfl
  · rw [hM.2.2.1, h2] at q
    have q := mt (nI_ltI (by omega) (by omega)).mpr q
    rw [b5_and, b5_and, b5_not hs, b5_not hs, h5 s hs, h6 s hs, h7 s hs, decide_eq_true (by omega), Bool.true_and]
/-- a law of those who -/
theorem jl_41 {l : Nat} {p1 : Int32} {who : Int64} {Q : Int64 → rI0 → rJ0 → Prop} (hN : NP 41 J N hd) (oN : okN g N) (oH : okH g hd) (hM : HM g W I J) (hl : l < 12) (e1 : p1 = nI (20 * l)) (hw : ∀ s, s < 64 → bits5 who s = true → seB g s = true) (k : ∀ v, (∀ s, s < 64 → bits5 v s = (bits5 who s && lwB g W N hd l s)) → Q v I J) : wcJ S (d + 19) 61 [.ref 41, .int p1, .int (I 9 l), .long who, .int (1 : Int32)] x I J Q := by
  subst e1
  rcases hM.2.2.2.2.2.2.2.1 l hl with ⟨a1, a2⟩ | ⟨sz, a1, a2, a3, a4, a5⟩
  · have z : Q 0 I J := k 0 (fun s hs => by
      unfold lwB
      rw [b5_0, a2]
      cases bits5 who s <;> rfl)
    rw [a1]
    exact c61_41 ⟨fun _ => z, fun _ => ⟨fun q => absurd q (by decide), fun _ => z⟩⟩
  · rw [a3]
    refine jnd_41 (m := 8) (dep := 1) (hnd_41 hN oN oH hM.2.2.2.2.2.2.2.2.1 8) a5 rfl a1 (by omega) a2 hw (fun v hv => k v (fun s hs => ?_))
    unfold lwB
    rw [hv s hs, a4, Bool.true_and]
/-- move -/
theorem mv_41 {py st : Bool} {T : Nat → Bool} {p1 p2 p3 : Int64} {Q : rI0 → rJ0 → Prop} (hN : NP 41 J N hd) (oN : okN g N) (oH : okH g hd) (hM : HM g W I J) (hG : GA g) (hP : ∀ s, P s = true → seB g s = true) (hT : ∀ s, s < 64 → bits5 p1 s = T s) (h2 : ∀ s, s < 64 → bits5 p2 s = (py && ((P s && !H s) && !L s))) (h3 : ∀ s, s < 64 → bits5 p3 s = (if st = true then seB g s else (((py && ((P s && !H s) && !L s)) || H s) || L s))) (k : ∀ J', F41 I J I J' → (∀ q, q ≠ 8 → q ≠ 9 → J' 41 q = J 41 q) → NP 41 J' (mvN g W P H L py st T N hd) hd → Q I J') : wcV S (d + 20) 59 [.ref 41, .long p1, .long p2, .long p3] x I J Q := by
  have hF : ∀ s, s < 64 → bits5 ((p1 &&& (p3 ^^^ (-1 : Int64))) &&& (J 4 5)) s = ((T s && !(if st = true then seB g s else (((py && ((P s && !H s) && !L s)) || H s) || L s))) && seB g s) := by
    intro s hs
    rw [b5_and, b5_and, b5_not hs, hT s hs, h3 s hs, hM.2.2.2.2.1 s hs]
  refine c59_41 ?_
  generalize (p1 &&& (p3 ^^^ (-1 : Int64))) &&& (J 4 5) = fr at hF ⊢
  have hFs : ∀ s, s < 64 → bits5 fr s = true → seB g s = true := by
    intro s hs y
    rw [hF s hs, Bool.and_eq_true] at y
    exact y.2
  have lp : ∀ (m kk : Nat) (up dn : Int64), kk + m = 6 → (∀ s, s < 64 → bits5 up s = (bits5 fr s && (decide (kdN g s < kk) && lwB g W N hd (2 * kdN g s) s))) → (∀ s, s < 64 → bits5 dn s = (bits5 fr s && (decide (kdN g s < kk) && ((!lwB g W N hd (2 * kdN g s) s && decide (1 ≤ N s)) && lwB g W N hd (2 * kdN g s + 1) s)))) → wp S (d + 20) 59 27 [some (.ref 41), some (.long p1), none, some (.long p2), none, some (.long p3), none, some (.long fr), none, some (.long up), none, some (.long dn), none, some (.int (nI kk)), none, none, none, none, none] [] (wv x I J) (rV x Q) := by
    intro m
    induction m with
    | zero =>
      intro kk up dn hk hu hd2
      have hk : kk = 6 := by omega
      refine v59_41_27 (d := d + 19) ⟨fun q => absurd q (nI_nlt (b := 6) (by omega) (by omega)), fun _ => k _ ⟨fun _ _ => rfl, fun b hb => by rw [mSet_ne hb, mSet_ne hb]⟩ (fun q q1 q2 => ?_) (fun s hs => ?_)⟩
      · show mSet (mSet J 41 8 _) 41 9 _ 41 q = _
        unfold mSet va_up
        rw [if_pos rfl, if_neg q2, if_pos rfl, if_neg q1]
      · obtain ⟨a1, a2, a3, a4⟩ := hN s hs
        have eu : bits5 up s = (bits5 fr s && lwB g W N hd (2 * kdN g s) s) := by
          rw [hu s hs]
          cases y : bits5 fr s with
          | false => rfl
          | true =>
            rw [decide_eq_true (show kdN g s < kk by have := (hG.2.2.2.2.1 s (hFs s hs y)).2; omega), Bool.true_and]
        have ed : bits5 dn s = (bits5 fr s && ((!lwB g W N hd (2 * kdN g s) s && decide (1 ≤ N s)) && lwB g W N hd (2 * kdN g s + 1) s)) := by
          rw [hd2 s hs]
          cases y : bits5 fr s with
          | false => rfl
          | true =>
            rw [decide_eq_true (show kdN g s < kk by have := (hG.2.2.2.2.1 s (hFs s hs y)).2; omega), Bool.true_and]
        have mb := mv_bits (N s) (by have := (oN s).1; omega) (T s) (seB g s) (L s) (H s) (P s) py st (lwB g W N hd (2 * kdN g s) s) (lwB g W N hd (2 * kdN g s + 1) s) (hP s)
        refine ⟨?_, ?_, a3, a4⟩
        · show bits5 (((J 41 8 &&& (p1 ^^^ (-1 : Int64))) ||| (((J 41 8 ||| up) &&& ((dn &&& (J 41 9 ^^^ (-1 : Int64))) ^^^ (-1 : Int64))) &&& fr)) ||| (p2 &&& p1)) s = decide (1 ≤ mvN g W P H L py st T N hd s)
          rw [b5_or, b5_or, b5_and, b5_not hs, b5_and, b5_and, b5_or, b5_not hs, b5_and, b5_not hs, b5_and, a1, a2, hT s hs, eu, ed, hF s hs, h2 s hs]
          exact mb.1
        · show bits5 (((J 41 9 &&& (p1 ^^^ (-1 : Int64))) ||| (((J 41 9 ||| (up &&& J 41 8)) &&& (dn ^^^ (-1 : Int64))) &&& fr)) ||| (p2 &&& p1)) s = decide (2 ≤ mvN g W P H L py st T N hd s)
          rw [b5_or, b5_or, b5_and, b5_not hs, b5_and, b5_and, b5_or, b5_and, b5_not hs, b5_and, a1, a2, hT s hs, eu, ed, hF s hs, h2 s hs]
          exact mb.2
    | succ m ih =>
      intro kk up dn hk hu hd2
      have hk6 : kk < 6 := by omega
      have ew : ∀ s, s < 64 → bits5 (fr &&& J 6 kk) s = (bits5 fr s && decide (kdN g s = kk)) := by
        intro s hs
        rw [b5_and, hM.2.2.2.2.2.1 kk hk6 s hs]
        cases y : bits5 fr s with
        | false => rfl
        | true => rw [hFs s hs y, Bool.true_and]
      refine v59_41_27 (d := d + 19) ⟨fun _ => ⟨nI_in hk6 (by omega), ?_⟩, fun q => absurd (nI_lt (b := 6) hk6 (by omega)) q⟩
      rw [nI_clamp (by omega)]
      refine ⟨fun z => ?_, fun _ => ⟨?_, ?_⟩⟩
      · have z := b5_z.mp (lg_z.mp z)
        rw [← nI_succ]
        refine ih (kk + 1) up dn (by omega) (fun s hs => ?_) (fun s hs => ?_)
        · rw [hu s hs]
          have := z s hs
          rw [ew s hs] at this
          cases y : bits5 fr s with
          | false => rfl
          | true =>
            rw [y, Bool.true_and, decide_eq_false_iff_not] at this
            congr 2
            exact decide_eq_decide.mpr (by omega)
        · rw [hd2 s hs]
          have := z s hs
          rw [ew s hs] at this
          cases y : bits5 fr s with
          | false => rfl
          | true =>
            rw [y, Bool.true_and, decide_eq_false_iff_not] at this
            congr 2
            exact decide_eq_decide.mpr (by omega)
      · show ¬ mOut (nI 2 * nI kk) 12
        rw [nI_mu]
        exact nI_in (by omega) (by omega)
      · have i1 : ((2 : Int32) * nI kk).toNatClampNeg = 2 * kk := by
          show (nI 2 * nI kk).toNatClampNeg = _
          rw [nI_mu, nI_clamp (by omega)]
        have i2 : ((2 : Int32) * nI kk + (1 : Int32)).toNatClampNeg = 2 * kk + 1 := by
          show (nI 2 * nI kk + nI 1).toNatClampNeg = _
          rw [nI_mu, nI_add, nI_clamp (by omega)]
        have m1 : (2 : Int32) * nI kk * (20 : Int32) = nI (20 * (2 * kk)) := by
          show nI 2 * nI kk * nI 20 = _
          rw [nI_mu, nI_mu]
          exact congrArg nI (by omega)
        have m2 : ((2 : Int32) * nI kk + (1 : Int32)) * (20 : Int32) = nI (20 * (2 * kk + 1)) := by
          show (nI 2 * nI kk + nI 1) * nI 20 = _
          rw [nI_mu, nI_add, nI_mu]
          exact congrArg nI (by omega)
        rw [i1, i2]
        refine jl_41 hN oN oH hM (by omega) m1 (fun s hs y => hFs s hs (by rw [ew s hs, Bool.and_eq_true] at y; exact y.1)) (fun v hv => ⟨?_, ?_⟩)
        · show ¬ mOut (nI 2 * nI kk + nI 1) 12
          rw [nI_mu, nI_add]
          exact nI_in (by omega) (by omega)
        · have ew2 : ∀ s, s < 64 → bits5 (((fr &&& J 6 kk) &&& (v ^^^ (-1 : Int64))) &&& (J 41 8)) s = (bits5 fr s && (decide (kdN g s = kk) && (!lwB g W N hd (2 * kk) s && decide (1 ≤ N s)))) := by
            intro s hs
            rw [b5_and, b5_and, b5_not hs, hv s hs, ew s hs, (hN s hs).1]
            cases bits5 fr s <;> cases decide (kdN g s = kk) <;> cases lwB g W N hd (2 * kk) s <;> rfl
          refine jl_41 hN oN oH hM (by omega) m2 (fun s hs y => hFs s hs (by rw [ew2 s hs, Bool.and_eq_true] at y; exact y.1)) (fun w hw => ?_)
          rw [← nI_succ]
          refine ih (kk + 1) _ _ (by omega) (fun s hs => ?_) (fun s hs => ?_)
          · rw [b5_or, hu s hs, hv s hs, ew s hs]
            by_cases y : kdN g s = kk
            · rw [y, decide_eq_false (show ¬ kk < kk by omega), decide_eq_true (show kk < kk + 1 by omega), decide_eq_true (show kk = kk from rfl)]
              cases bits5 fr s <;> cases lwB g W N hd (2 * kk) s <;> rfl
            · rw [decide_eq_false y, Bool.and_false, Bool.false_and, Bool.or_false]
              congr 2
              exact decide_eq_decide.mpr (by omega)
          · rw [b5_or, hd2 s hs, hw s hs, ew2 s hs]
            by_cases y : kdN g s = kk
            · rw [y, decide_eq_false (show ¬ kk < kk by omega), decide_eq_true (show kk < kk + 1 by omega), decide_eq_true (show kk = kk from rfl)]
              cases bits5 fr s <;> cases lwB g W N hd (2 * kk) s <;> cases decide (1 ≤ N s) <;> cases lwB g W N hd (2 * kk + 1) s <;> rfl
            · rw [decide_eq_false y, Bool.false_and, Bool.and_false, Bool.false_and, Bool.or_false]
              congr 2
              exact decide_eq_decide.mpr (by omega)
  refine lp 6 0 0 0 rfl (fun s hs => ?_) (fun s hs => ?_)
  · rw [b5_0, decide_eq_false (show ¬ kdN g s < 0 by omega)]
    cases bits5 fr s <;> rfl
  · rw [b5_0, decide_eq_false (show ¬ kdN g s < 0 by omega)]
    cases bits5 fr s <;> rfl
end NC41
end
section
section NC42
variable {S : Nat × (Nat → Int32)} {d : Nat} {x : mX} {I : rI0} {J : rJ0} {g : Nat → Int32} {W : Nat → lV} {N hd : Nat → Nat} {P H L : Nat → Bool}
def F42 (I : rI0) (J : rJ0) (I' : rI0) (J' : rJ0) : Prop := (∀ b, b ≠ 42 → I' b = I b) ∧ ∀ b, b ≠ 42 → J' b = J b
theorem F42.rf : F42 I J I J := ⟨fun _ _ => rfl, fun _ _ => rfl⟩
theorem F42.tr {I1 I2 : rI0} {J1 J2 : rJ0} (h : F42 I J I1 J1) (h2 : F42 I1 J1 I2 J2) : F42 I J I2 J2 := ⟨fun b hb => (h2.1 b hb).trans (h.1 b hb), fun b hb => (h2.2 b hb).trans (h.2 b hb)⟩
theorem HM.n42 {I' : rI0} {J' : rJ0} (h : HM g W I J) (f : F42 I J I' J') : HM g W I' J' := h.mv (fun b hb => f.1 b (by omega)) (fun b hb => f.2 b (by omega))
/-- doCues -/
theorem dc_42 {t : Nat} (hG : GA g) (ht : t ≤ 600) {Q : Int32 → rI0 → rJ0 → Prop} : ∀ (m i : Nat) (I : rI0) (J : rJ0), i + m = cuN g t → prN g t ≤ i → HM g W I J → I 42 2 = nI t → I 42 3 = nI i → (∀ s, s < 64 → bits5 (J 42 5) s = cuP g 0 P i s) → (∀ s, s < 64 → bits5 (J 42 6) s = cuP g 1 H i s) → (∀ I' J', F42 I J I' J' → (∀ q, q ≠ 3 → I' 42 q = I 42 q) → (∀ q, q ≠ 5 → q ≠ 6 → J' 42 q = J 42 q) → I' 42 3 = nI (cuN g t) → (∀ s, s < 64 → bits5 (J' 42 5) s = cuP g 0 P (cuN g t) s) → (∀ s, s < 64 → bits5 (J' 42 6) s = cuP g 1 H (cuN g t) s) → Q (nI (if cuS g t = true then 1 else 0)) I' J') → wp S (d + 1) 56 2 [some (.ref 42), some (.int (nI (if stB g (prN g t) i = true then 1 else 0))), none, none] [] (wv x I J) (rI x Q) := by
  have hl := cuN_l (g := g) (t := t)
  have h30 := hG.2.2.2.2.2.1
  have b01 : ∀ b : Bool, nI (if b = true then 1 else 0) = 0 ∨ nI (if b = true then 1 else 0) = 1 := by decide
  intro m
  induction m with
  | zero =>
    intro i I J hi hp hM h2 h3 h5 h6 k
    have hi : i = cuN g t := by omega
    have fin : Q (nI (if stB g (prN g t) i = true then 1 else 0)) I J := by
      rw [hi, stB_c hG]
      subst hi
      exact k I J F42.rf (fun _ _ => rfl) (fun _ _ _ => rfl) h3 h5 h6
    refine v56_42_2 ⟨fun q => ⟨fun q2 => ?_, fun q2 => ⟨b01 _, fin⟩⟩, fun q => ⟨b01 _, fin⟩⟩
    rw [h3, hM.2.2.2.2.2.2.2.2.2.1] at q
    have q : i < gN g 590 := (nI_ltI (by omega) (by omega)).mp q
    rw [h3, nI_clamp (by omega), h2, (hM.2.2.2.2.2.2.2.2.2.2 i q).1]
    refine ⟨nI_in (by omega) (by omega), fun _ => ⟨b01 _, fin⟩, fun y => ?_⟩
    exfalso
    refine y (nI_lt ?_ (by have := (hG.2.2.2.2.2.2.1 i q).1; omega))
    have := cuN_i hG (t := t) q
    omega
  | succ m ih =>
    intro i I J hi hp hM h2 h3 h5 h6 k
    have q : i < gN g 590 := by omega
    obtain ⟨c1, c2, c3⟩ := hM.2.2.2.2.2.2.2.2.2.2 i q
    obtain ⟨g1, g2, g3⟩ := hG.2.2.2.2.2.2.1 i q
    have hm : gN g (591 + 3 * i) ≤ t := (cuN_i hG q).mpr (by omega)
    refine v56_42_2 ⟨fun _ => ⟨fun _ => ?_, fun y => absurd (by rw [h3]; exact nI_lt (b := 30) (by omega) (by omega)) y⟩, fun y => absurd (by rw [h3, hM.2.2.2.2.2.2.2.2.2.1]; exact nI_lt q (by omega)) y⟩
    rw [h3, nI_clamp (by omega), h2, c1, c2]
    refine ⟨nI_in (by omega) (by omega), fun y => absurd y (nI_nlt hm (by omega)), fun _ => ⟨nI_in (by omega) (by omega), fun y => ?_, fun y => ⟨nI_in (by omega) (by omega), ?_⟩⟩⟩
    · have y : gN g (592 + 3 * i) = 3 := nI_ij (by omega) (by omega) y
      have e1 : (1 : Int32) = nI (if stB g (prN g t) (i + 1) = true then 1 else 0) := by
        rw [stB_s hp, decide_eq_true y, Bool.or_true]
        rfl
      rw [← nI_succ, e1]
      refine ih (i + 1) (mSet I 42 3 (nI (i + 1))) J (by omega) (by omega) (hM.n42 ⟨fun b hb => mSet_ne hb, fun _ _ => rfl⟩) h2 rfl (fun s hs => ?_) (fun s hs => ?_) (fun I' J' f f1 f2 f3 f5 f6 => k I' J' (F42.tr ⟨fun b hb => mSet_ne hb, fun _ _ => rfl⟩ f) (fun q hq => ?_) f2 f3 f5 f6)
      · rw [h5 s hs, cuP_s, if_pos y]
      · rw [h6 s hs, cuP_s, if_pos y]
      · rw [f1 q hq]
        show mSet I 42 3 _ 42 q = _
        unfold mSet va_up
        rw [if_pos rfl, if_neg hq]
    · have y : gN g (592 + 3 * i) ≠ 3 := fun z => y (by rw [z]; rfl)
      have e1 : stB g (prN g t) i = stB g (prN g t) (i + 1) := by
        rw [stB_s hp, decide_eq_false y, Bool.or_false]
      have hs4 := seB_l (g3 y)
      rw [c3 y, e1]
      have go : ∀ (e : Nat) (J1 : rJ0), e = (if gN g (592 + 3 * i) = 0 then 1 else 0) → wp S (d + 1) 56 95 [some (.ref 42), some (.int (nI (if stB g (prN g t) (i + 1) = true then 1 else 0))), some (.int (nI (gN g (592 + 3 * i)))), some (.int (nI (gN g (593 + 3 * i))))] [.int (nI e), .int (nI (gN g (593 + 3 * i))), .long (J 42 5), .ref 42] (wv x I J) (rI x Q) := by
        intro e J1 he
        have e01 : e ≤ 1 := by
          rw [he]
          split <;> omega
        have last : ∀ (e2 : Nat) (r1 r2 : Int64), e2 ≤ 1 → (decide (e2 = 1) = decide (gN g (592 + 3 * i) = 1)) → r1 = ((J 42 5 &&& (((1 : Int64) <<< ((nI (gN g (593 + 3 * i))).toInt64 &&& 63)) ^^^ (-1 : Int64))) ||| ((nI e).toInt64 <<< ((nI (gN g (593 + 3 * i))).toInt64 &&& 63))) → r2 = ((J 42 6 &&& (((1 : Int64) <<< ((nI (gN g (593 + 3 * i))).toInt64 &&& 63)) ^^^ (-1 : Int64))) ||| ((nI e2).toInt64 <<< ((nI (gN g (593 + 3 * i))).toInt64 &&& 63))) → wp S (d + 1) 56 2 [some (.ref 42), some (.int (nI (if stB g (prN g t) (i + 1) = true then 1 else 0))), none, none] [] (wv x (mSet I 42 3 (nI (i + 1))) (mSet (mSet J 42 5 r1) 42 6 r2)) (rI x Q) := by
          intro e2 r1 r2 h2e d2 er1 er2
          refine ih (i + 1) _ _ (by omega) (by omega) (hM.n42 ⟨fun b hb => mSet_ne hb, fun b hb => by rw [mSet_ne hb, mSet_ne hb]⟩) h2 rfl (fun s hs => ?_) (fun s hs => ?_) (fun I' J' f f1 f2 f3 f5 f6 => k I' J' (F42.tr ⟨fun b hb => mSet_ne hb, fun b hb => by rw [mSet_ne hb, mSet_ne hb]⟩ f) (fun q hq => ?_) (fun q hq1 hq2 => ?_) f3 f5 f6)
          · show bits5 r1 s = _
            rw [er1, b5_w hs4 e01 hs, cuP_s, if_neg y, h5 s hs, he]
            split
            · exact decide_eq_decide.mpr (by split <;> omega)
            · rfl
          · show bits5 r2 s = _
            rw [er2, b5_w hs4 h2e hs, cuP_s, if_neg y, h6 s hs, d2]
          · rw [f1 q hq]
            show mSet I 42 3 _ 42 q = _
            unfold mSet va_up
            rw [if_pos rfl, if_neg hq]
          · rw [f2 q hq1 hq2]
            show mSet (mSet J 42 5 _) 42 6 _ 42 q = _
            unfold mSet va_up
            rw [if_pos rfl, if_neg hq2, if_pos rfl, if_neg hq1]
        refine v56_42_95 (c143 ⟨fun z => ?_, fun z => ?_⟩)
        · have z : gN g (592 + 3 * i) = 1 := nI_ij (by omega) (by omega) z
          refine c143 ?_
          rw [h3, ← nI_succ]
          exact last 1 _ _ (by omega) (by rw [decide_eq_true z]; rfl) rfl rfl
        · have z : gN g (592 + 3 * i) ≠ 1 := fun z2 => z (by rw [z2]; rfl)
          refine c143 ?_
          rw [h3, ← nI_succ]
          exact last 0 _ _ (by omega) (by rw [decide_eq_false z]; rfl) rfl rfl
      refine ⟨fun z => ?_, fun z => ?_⟩
      · have z : gN g (592 + 3 * i) = 0 := nI_ij (by omega) (by omega) z
        exact go 1 J (by rw [if_pos z])
      · have z : gN g (592 + 3 * i) ≠ 0 := fun z2 => z (by rw [z2]; rfl)
        exact go 0 J (by rw [if_neg z])
theorem rws_42 {r : Nat} {Q : Int64 → rI0 → rJ0 → Prop} (hG : GA g) (hM : HM g W I J) (hr : r < gN g 0) (k : ∀ v, (∀ s, s < 64 → bits5 v s = rwB g r s) → Q v I J) : wcJ S d 28 [.ref 4, .int (nI r)] x I J Q := by
  refine c28_4 (k _ (fun s hs => ?_))
  rw [hM.2.1]
  refine rwS_b (gN g 1) (by have := hG.2.1; omega) r (by have := hG.1; omega) s hs ?_
  exact Nat.le_trans (Nat.mul_le_mul (show r + 1 ≤ 8 by have := hG.1; omega) hG.2.1) (by omega)
/-- seeRowsOff -/
theorem so_42 {t : Nat} (hG : GA g) (ht : t ≤ 600) {Q : rI0 → rJ0 → Prop} : ∀ (m r : Nat) (J : rJ0), r + m = gN g 0 → HM g W I J → I 42 2 = nI t → (∀ s, s < 64 → bits5 (J 42 7) s = (lfP g t s || (decide (s < r * gN g 1) && decide (gN g (78 + s / gN g 1) = t + 1)))) → (∀ J', F42 I J I J' → (∀ q, q ≠ 7 → J' 42 q = J 42 q) → (∀ s, s < 64 → bits5 (J' 42 7) s = lfB g t s) → Q I J') → wp S (d + 1) 57 2 [some (.ref 42), some (.int (nI r))] [] (wv x I J) (rV x Q) := by
  have h8 := hG.1
  intro m
  induction m with
  | zero =>
    intro r J hr hM h2 hb k
    have hr : r = gN g 0 := by omega
    refine v57_42_2 ⟨fun q => absurd q (by rw [hM.1]; exact nI_nlt (by omega) (by omega)), fun _ => k J F42.rf (fun _ _ => rfl) (fun s hs => ?_)⟩
    rw [hb s hs, lfB_s, hr]
  | succ m ih =>
    intro r J hr hM h2 hb k
    have hr8 : r < 8 := by omega
    have row : ∀ s, s < 64 → rwB g r s = true → s / gN g 1 = r := by
      intro s hs z
      unfold rwB at z
      rw [Bool.and_eq_true, decide_eq_true_iff, decide_eq_true_iff] at z
      have hc : 0 < gN g 1 := by
        rcases Nat.eq_zero_or_pos (gN g 1) with y | y
        · rw [y] at z
          omega
        · exact y
      exact Nat.div_eq_of_lt_le z.1 z.2
    have ext : ∀ s, decide (s < (r + 1) * gN g 1) = (decide (s < r * gN g 1) || rwB g r s) := by
      intro s
      have e : (r + 1) * gN g 1 = r * gN g 1 + gN g 1 := Nat.succ_mul _ _
      unfold rwB
      rw [← Bool.decide_and, ← Bool.decide_or]
      exact decide_eq_decide.mpr (by omega)
    refine v57_42_2 ⟨fun _ => ⟨nI_in hr8 (by omega), ?_⟩, fun q => absurd (by rw [hM.1]; exact nI_lt (by omega) (by omega)) q⟩
    rw [nI_clamp (by omega), h2]
    have hlv := hM.2.2.2.2.2.2.1 r hr8
    refine ⟨fun q => ?_, fun q => ?_⟩
    · have e : gN g (78 + r) = t + 1 := by
        rcases hlv with ⟨a, _⟩ | ⟨m, a1, a2, a3⟩
        · rw [a] at q
          have := congrArg Int32.toInt q
          rw [nI_toInt (by omega), show (-1 : Int32).toInt = -1 by decide] at this
          omega
        · rw [a2] at q
          have := nI_ij (by omega) (by omega) q
          omega
      refine rws_42 hG hM (by omega) (fun v hv => ?_)
      rw [← nI_succ]
      refine ih (r + 1) _ (by omega) (hM.n42 ⟨fun _ _ => rfl, fun b hb => mSet_ne hb⟩) h2 (fun s hs => ?_) (fun J' f f1 f2 => k J' (F42.tr ⟨fun _ _ => rfl, fun b hb => mSet_ne hb⟩ f) (fun q hq => ?_) f2)
      · show bits5 (J 42 7 ||| v) s = _
        rw [b5_or, hb s hs, hv s hs, ext s]
        cases z : rwB g r s with
        | false => rw [Bool.or_false, Bool.or_false]
        | true =>
          rw [row s hs z, e, decide_eq_true rfl]
          simp
      · rw [f1 q hq]
        show mSet J 42 7 _ 42 q = _
        unfold mSet va_up
        rw [if_pos rfl, if_neg hq]
    · have e : gN g (78 + r) ≠ t + 1 := by
        intro z
        rcases hlv with ⟨_, a⟩ | ⟨m, a1, a2, a3⟩
        · omega
        · exact q (by rw [a2, show m = t by omega])
      rw [← nI_succ]
      refine ih (r + 1) J (by omega) hM h2 (fun s hs => ?_) k
      rw [hb s hs, ext s]
      cases z : rwB g r s with
      | false => rw [Bool.or_false]
      | true => rw [row s hs z, decide_eq_false e, Bool.and_false, Bool.and_false]
/-- standing -/
theorem sd_42 {t : Nat} {Q : Int64 → rI0 → rJ0 → Prop} (hG : GA g) (hM : HM g W I J) (ht : t ≤ 600) (h2 : I 42 2 = nI t) (h5 : ∀ s, s < 64 → bits5 (J 42 5) s = P s) (h6 : ∀ s, s < 64 → bits5 (J 42 6) s = H s) (h7 : ∀ s, s < 64 → bits5 (J 42 7) s = L s) (k : ∀ v, (∀ s, s < 64 → bits5 v s = (decide (t ≤ gN g 4) && ((P s && !H s) && !L s))) → Q v I J) : wcJ S d 58 [.ref 42] x I J Q := by
  have h4 := hG.2.2.1
  refine c58_42 ⟨fun q => k _ (fun s hs => ?_), fun q => k _ (fun s hs => ?_)⟩
  · rw [hM.2.2.1, h2] at q
    have q := (nI_ltI (by omega) (by omega)).mp q
    rw [b5_0, decide_eq_false (by omega)]
    rfl
  · rw [hM.2.2.1, h2] at q
    have q := mt (nI_ltI (by omega) (by omega)).mpr q
    rw [b5_and, b5_and, b5_not hs, b5_not hs, h5 s hs, h6 s hs, h7 s hs, decide_eq_true (by omega), Bool.true_and]
/-- a law of those who -/
theorem jl_42 {l : Nat} {p1 : Int32} {who : Int64} {Q : Int64 → rI0 → rJ0 → Prop} (hN : NP 42 J N hd) (oN : okN g N) (oH : okH g hd) (hM : HM g W I J) (hl : l < 12) (e1 : p1 = nI (20 * l)) (hw : ∀ s, s < 64 → bits5 who s = true → seB g s = true) (k : ∀ v, (∀ s, s < 64 → bits5 v s = (bits5 who s && lwB g W N hd l s)) → Q v I J) : wcJ S (d + 19) 61 [.ref 42, .int p1, .int (I 9 l), .long who, .int (1 : Int32)] x I J Q := by
  subst e1
  rcases hM.2.2.2.2.2.2.2.1 l hl with ⟨a1, a2⟩ | ⟨sz, a1, a2, a3, a4, a5⟩
  · have z : Q 0 I J := k 0 (fun s hs => by
      unfold lwB
      rw [b5_0, a2]
      cases bits5 who s <;> rfl)
    rw [a1]
    exact c61_42 ⟨fun _ => z, fun _ => ⟨fun q => absurd q (by decide), fun _ => z⟩⟩
  · rw [a3]
    refine jnd_42 (m := 8) (dep := 1) (hnd_42 hN oN oH hM.2.2.2.2.2.2.2.2.1 8) a5 rfl a1 (by omega) a2 hw (fun v hv => k v (fun s hs => ?_))
    unfold lwB
    rw [hv s hs, a4, Bool.true_and]
/-- move -/
theorem mv_42 {py st : Bool} {T : Nat → Bool} {p1 p2 p3 : Int64} {Q : rI0 → rJ0 → Prop} (hN : NP 42 J N hd) (oN : okN g N) (oH : okH g hd) (hM : HM g W I J) (hG : GA g) (hP : ∀ s, P s = true → seB g s = true) (hT : ∀ s, s < 64 → bits5 p1 s = T s) (h2 : ∀ s, s < 64 → bits5 p2 s = (py && ((P s && !H s) && !L s))) (h3 : ∀ s, s < 64 → bits5 p3 s = (if st = true then seB g s else (((py && ((P s && !H s) && !L s)) || H s) || L s))) (k : ∀ J', F42 I J I J' → (∀ q, q ≠ 8 → q ≠ 9 → J' 42 q = J 42 q) → NP 42 J' (mvN g W P H L py st T N hd) hd → Q I J') : wcV S (d + 20) 59 [.ref 42, .long p1, .long p2, .long p3] x I J Q := by
  have hF : ∀ s, s < 64 → bits5 ((p1 &&& (p3 ^^^ (-1 : Int64))) &&& (J 4 5)) s = ((T s && !(if st = true then seB g s else (((py && ((P s && !H s) && !L s)) || H s) || L s))) && seB g s) := by
    intro s hs
    rw [b5_and, b5_and, b5_not hs, hT s hs, h3 s hs, hM.2.2.2.2.1 s hs]
  refine c59_42 ?_
  generalize (p1 &&& (p3 ^^^ (-1 : Int64))) &&& (J 4 5) = fr at hF ⊢
  have hFs : ∀ s, s < 64 → bits5 fr s = true → seB g s = true := by
    intro s hs y
    rw [hF s hs, Bool.and_eq_true] at y
    exact y.2
  have lp : ∀ (m kk : Nat) (up dn : Int64), kk + m = 6 → (∀ s, s < 64 → bits5 up s = (bits5 fr s && (decide (kdN g s < kk) && lwB g W N hd (2 * kdN g s) s))) → (∀ s, s < 64 → bits5 dn s = (bits5 fr s && (decide (kdN g s < kk) && ((!lwB g W N hd (2 * kdN g s) s && decide (1 ≤ N s)) && lwB g W N hd (2 * kdN g s + 1) s)))) → wp S (d + 20) 59 27 [some (.ref 42), some (.long p1), none, some (.long p2), none, some (.long p3), none, some (.long fr), none, some (.long up), none, some (.long dn), none, some (.int (nI kk)), none, none, none, none, none] [] (wv x I J) (rV x Q) := by
    intro m
    induction m with
    | zero =>
      intro kk up dn hk hu hd2
      have hk : kk = 6 := by omega
      refine v59_42_27 (d := d + 19) ⟨fun q => absurd q (nI_nlt (b := 6) (by omega) (by omega)), fun _ => k _ ⟨fun _ _ => rfl, fun b hb => by rw [mSet_ne hb, mSet_ne hb]⟩ (fun q q1 q2 => ?_) (fun s hs => ?_)⟩
      · show mSet (mSet J 42 8 _) 42 9 _ 42 q = _
        unfold mSet va_up
        rw [if_pos rfl, if_neg q2, if_pos rfl, if_neg q1]
      · obtain ⟨a1, a2, a3, a4⟩ := hN s hs
        have eu : bits5 up s = (bits5 fr s && lwB g W N hd (2 * kdN g s) s) := by
          rw [hu s hs]
          cases y : bits5 fr s with
          | false => rfl
          | true =>
            rw [decide_eq_true (show kdN g s < kk by have := (hG.2.2.2.2.1 s (hFs s hs y)).2; omega), Bool.true_and]
        have ed : bits5 dn s = (bits5 fr s && ((!lwB g W N hd (2 * kdN g s) s && decide (1 ≤ N s)) && lwB g W N hd (2 * kdN g s + 1) s)) := by
          rw [hd2 s hs]
          cases y : bits5 fr s with
          | false => rfl
          | true =>
            rw [decide_eq_true (show kdN g s < kk by have := (hG.2.2.2.2.1 s (hFs s hs y)).2; omega), Bool.true_and]
        have mb := mv_bits (N s) (by have := (oN s).1; omega) (T s) (seB g s) (L s) (H s) (P s) py st (lwB g W N hd (2 * kdN g s) s) (lwB g W N hd (2 * kdN g s + 1) s) (hP s)
        refine ⟨?_, ?_, a3, a4⟩
        · show bits5 (((J 42 8 &&& (p1 ^^^ (-1 : Int64))) ||| (((J 42 8 ||| up) &&& ((dn &&& (J 42 9 ^^^ (-1 : Int64))) ^^^ (-1 : Int64))) &&& fr)) ||| (p2 &&& p1)) s = decide (1 ≤ mvN g W P H L py st T N hd s)
          rw [b5_or, b5_or, b5_and, b5_not hs, b5_and, b5_and, b5_or, b5_not hs, b5_and, b5_not hs, b5_and, a1, a2, hT s hs, eu, ed, hF s hs, h2 s hs]
          exact mb.1
        · show bits5 (((J 42 9 &&& (p1 ^^^ (-1 : Int64))) ||| (((J 42 9 ||| (up &&& J 42 8)) &&& (dn ^^^ (-1 : Int64))) &&& fr)) ||| (p2 &&& p1)) s = decide (2 ≤ mvN g W P H L py st T N hd s)
          rw [b5_or, b5_or, b5_and, b5_not hs, b5_and, b5_and, b5_or, b5_and, b5_not hs, b5_and, a1, a2, hT s hs, eu, ed, hF s hs, h2 s hs]
          exact mb.2
    | succ m ih =>
      intro kk up dn hk hu hd2
      have hk6 : kk < 6 := by omega
      have ew : ∀ s, s < 64 → bits5 (fr &&& J 6 kk) s = (bits5 fr s && decide (kdN g s = kk)) := by
        intro s hs
        rw [b5_and, hM.2.2.2.2.2.1 kk hk6 s hs]
        cases y : bits5 fr s with
        | false => rfl
        | true => rw [hFs s hs y, Bool.true_and]
      refine v59_42_27 (d := d + 19) ⟨fun _ => ⟨nI_in hk6 (by omega), ?_⟩, fun q => absurd (nI_lt (b := 6) hk6 (by omega)) q⟩
      rw [nI_clamp (by omega)]
      refine ⟨fun z => ?_, fun _ => ⟨?_, ?_⟩⟩
      · have z := b5_z.mp (lg_z.mp z)
        rw [← nI_succ]
        refine ih (kk + 1) up dn (by omega) (fun s hs => ?_) (fun s hs => ?_)
        · rw [hu s hs]
          have := z s hs
          rw [ew s hs] at this
          cases y : bits5 fr s with
          | false => rfl
          | true =>
            rw [y, Bool.true_and, decide_eq_false_iff_not] at this
            congr 2
            exact decide_eq_decide.mpr (by omega)
        · rw [hd2 s hs]
          have := z s hs
          rw [ew s hs] at this
          cases y : bits5 fr s with
          | false => rfl
          | true =>
            rw [y, Bool.true_and, decide_eq_false_iff_not] at this
            congr 2
            exact decide_eq_decide.mpr (by omega)
      · show ¬ mOut (nI 2 * nI kk) 12
        rw [nI_mu]
        exact nI_in (by omega) (by omega)
      · have i1 : ((2 : Int32) * nI kk).toNatClampNeg = 2 * kk := by
          show (nI 2 * nI kk).toNatClampNeg = _
          rw [nI_mu, nI_clamp (by omega)]
        have i2 : ((2 : Int32) * nI kk + (1 : Int32)).toNatClampNeg = 2 * kk + 1 := by
          show (nI 2 * nI kk + nI 1).toNatClampNeg = _
          rw [nI_mu, nI_add, nI_clamp (by omega)]
        have m1 : (2 : Int32) * nI kk * (20 : Int32) = nI (20 * (2 * kk)) := by
          show nI 2 * nI kk * nI 20 = _
          rw [nI_mu, nI_mu]
          exact congrArg nI (by omega)
        have m2 : ((2 : Int32) * nI kk + (1 : Int32)) * (20 : Int32) = nI (20 * (2 * kk + 1)) := by
          show (nI 2 * nI kk + nI 1) * nI 20 = _
          rw [nI_mu, nI_add, nI_mu]
          exact congrArg nI (by omega)
        rw [i1, i2]
        refine jl_42 hN oN oH hM (by omega) m1 (fun s hs y => hFs s hs (by rw [ew s hs, Bool.and_eq_true] at y; exact y.1)) (fun v hv => ⟨?_, ?_⟩)
        · show ¬ mOut (nI 2 * nI kk + nI 1) 12
          rw [nI_mu, nI_add]
          exact nI_in (by omega) (by omega)
        · have ew2 : ∀ s, s < 64 → bits5 (((fr &&& J 6 kk) &&& (v ^^^ (-1 : Int64))) &&& (J 42 8)) s = (bits5 fr s && (decide (kdN g s = kk) && (!lwB g W N hd (2 * kk) s && decide (1 ≤ N s)))) := by
            intro s hs
            rw [b5_and, b5_and, b5_not hs, hv s hs, ew s hs, (hN s hs).1]
            cases bits5 fr s <;> cases decide (kdN g s = kk) <;> cases lwB g W N hd (2 * kk) s <;> rfl
          refine jl_42 hN oN oH hM (by omega) m2 (fun s hs y => hFs s hs (by rw [ew2 s hs, Bool.and_eq_true] at y; exact y.1)) (fun w hw => ?_)
          rw [← nI_succ]
          refine ih (kk + 1) _ _ (by omega) (fun s hs => ?_) (fun s hs => ?_)
          · rw [b5_or, hu s hs, hv s hs, ew s hs]
            by_cases y : kdN g s = kk
            · rw [y, decide_eq_false (show ¬ kk < kk by omega), decide_eq_true (show kk < kk + 1 by omega), decide_eq_true (show kk = kk from rfl)]
              cases bits5 fr s <;> cases lwB g W N hd (2 * kk) s <;> rfl
            · rw [decide_eq_false y, Bool.and_false, Bool.false_and, Bool.or_false]
              congr 2
              exact decide_eq_decide.mpr (by omega)
          · rw [b5_or, hd2 s hs, hw s hs, ew2 s hs]
            by_cases y : kdN g s = kk
            · rw [y, decide_eq_false (show ¬ kk < kk by omega), decide_eq_true (show kk < kk + 1 by omega), decide_eq_true (show kk = kk from rfl)]
              cases bits5 fr s <;> cases lwB g W N hd (2 * kk) s <;> cases decide (1 ≤ N s) <;> cases lwB g W N hd (2 * kk + 1) s <;> rfl
            · rw [decide_eq_false y, Bool.false_and, Bool.and_false, Bool.false_and, Bool.or_false]
              congr 2
              exact decide_eq_decide.mpr (by omega)
  refine lp 6 0 0 0 rfl (fun s hs => ?_) (fun s hs => ?_)
  · rw [b5_0, decide_eq_false (show ¬ kdN g s < 0 by omega)]
    cases bits5 fr s <;> rfl
  · rw [b5_0, decide_eq_false (show ¬ kdN g s < 0 by omega)]
    cases bits5 fr s <;> rfl
end NC42
end
section
section NU36
variable {S : Nat × (Nat → Int32)} {d : Nat} {x : mX} {I : rI0} {J : rJ0} {g : Nat → Int32} {W : Nat → lV} {N hd : Nat → Nat} {P H L : Nat → Bool}
/-- the night at t: LEVELS and HELD, who is PAID, who HISSES, who has left -/
def NO36 (g : Nat → Int32) (W : Nat → lV) (P H : Nat → Bool) (t : Nat) (I : rI0) (J : rJ0) : Prop := I 36 2 = nI t ∧ I 36 3 = nI (cuN g t) ∧ (∀ u : Nat, (I 36 4).toInt < (u : Int) → evB g u) ∧ (∀ s, s < 64 → bits5 (J 36 5) s = cuP g 0 P (cuN g t) s) ∧ (∀ s, s < 64 → bits5 (J 36 6) s = cuP g 1 H (cuN g t) s) ∧ (∀ s, s < 64 → bits5 (J 36 7) s = lfB g t s) ∧ NP 36 J (nt g W P H t).1 (nt g W P H t).2 ∧ (I 36 12 = 0 ∨ (I 36 12 = 1 ∧ ∀ u, t ≤ u → u ≤ 600 → nt g W P H u = nt g W P H t))
theorem NO36.mv {t : Nat} {I' : rI0} {J' : rJ0} (h : NO36 g W P H t I J) (hi : I' 36 = I 36) (hj : J' 36 = J 36) : NO36 g W P H t I' J' := by
  unfold NO36 NP at *
  rw [hi, hj]
  exact h
/-- hold -/
theorem ho_36 {N' : Nat → Nat} {p1 : Int64} {Q : rI0 → rJ0 → Prop} (hS : ∀ s, s < 64 → bits5 (J 4 5) s = seB g s) (hN : NP 36 J N' hd) (oN : okN g N) (oN' : okN g N') (oH : okH g hd) (hp : ∀ s, s < 64 → bits5 p1 s = (seB g s && decide (N' s = N s))) (k : ∀ I' J', F36 I J I' J' → (∀ q, q ≠ 12 → I' 36 q = I 36 q) → (∀ q, q ≠ 10 → q ≠ 11 → J' 36 q = J 36 q) → NP 36 J' N' (hdN g N N' hd) → (I' 36 12 = 0 ∨ (I' 36 12 = 1 ∧ I 36 4 < I 36 2 ∧ N' = N ∧ hdN g N N' hd = hd)) → Q I' J') : wcV S d 60 [.ref 36, .long p1] x I J Q := by
  have eb : ∀ s, s < 64 → bits5 (((J 36 10 ^^^ (-1 : Int64)) ||| J 36 11) &&& p1) s = decide (hdN g N N' hd s % 2 = 1) ∧ bits5 ((J 36 11 ||| J 36 10) &&& p1) s = decide (2 ≤ hdN g N N' hd s) := by
    intro s hs
    obtain ⟨_, _, a3, a4⟩ := hN s hs
    have hb := hd_bits (hd s) (by have := (oH s).1; omega) (seB g s && decide (N' s = N s))
    have e : hdN g N N' hd s = if (seB g s && decide (N' s = N s)) = true then (if hd s < 3 then hd s + 1 else 3) else 0 := by
      unfold hdN
      cases seB g s
      · rfl
      · by_cases z : N' s = N s
        · rw [decide_eq_true z, if_pos z]
          rfl
        · rw [decide_eq_false z, if_neg z]
          rfl
    rw [b5_and, b5_or, b5_not hs, b5_and, b5_or, a3, a4, hp s hs, e]
    exact hb
  generalize hl : ((J 36 10 ^^^ (-1 : Int64)) ||| J 36 11) &&& p1 = lo at eb
  generalize hh : (J 36 11 ||| J 36 10) &&& p1 = hi at eb
  have np : ∀ (v : Int32) , NP 36 (mSet (mSet J 36 10 lo) 36 11 hi) N' (hdN g N N' hd) := by
    intro v s hs
    obtain ⟨a1, a2, _, _⟩ := hN s hs
    exact ⟨a1, a2, (eb s hs).1, (eb s hs).2⟩
  have fr : ∀ v : Int32, F36 I J (mSet I 36 12 v) (mSet (mSet J 36 10 lo) 36 11 hi) := fun v => ⟨fun b hb => mSet_ne hb, fun b hb => by rw [mSet_ne hb, mSet_ne hb]⟩
  have f1 : ∀ (v : Int32) (q : Nat), q ≠ 12 → mSet I 36 12 v 36 q = I 36 q := by
    intro v q hq
    unfold mSet va_up
    rw [if_pos rfl, if_neg hq]
  have f2 : ∀ q : Nat, q ≠ 10 → q ≠ 11 → mSet (mSet J 36 10 lo) 36 11 hi 36 q = J 36 q := by
    intro q h1 h2
    unfold mSet va_up
    rw [if_pos rfl, if_neg h2, if_pos rfl, if_neg h1]
  have z0 : Q (mSet I 36 12 0) (mSet (mSet J 36 10 lo) 36 11 hi) := k _ _ (fr 0) (f1 0) f2 (np 0) (Or.inl rfl)
  have A : ∀ (s0 : Int32) (l1 : Int64), (¬ s0 = 0 → N' = N ∧ hdN g N N' hd = hd) → wp S d 60 65 [some (.ref 36), some (.long l1), none, some (.long lo), none, some (.long hi), none, none] [.int s0] (wv x I J) (rV x Q) := by
    intro s0 l1 hs0
    refine v60_36_65 ⟨fun _ => z0, fun y => ⟨fun q => ?_, fun _ => z0⟩⟩
    obtain ⟨e1, e2⟩ := hs0 y
    exact k _ _ (fr 1) (f1 1) f2 (np 1) (Or.inr ⟨rfl, q, e1, e2⟩)
  refine c60_36 ?_
  rw [hl, hh]
  refine ⟨fun q1 => ⟨fun q2 => ⟨fun q3 => A _ _ (fun _ => ?_), fun _ => A _ _ (fun y => absurd rfl y)⟩, fun _ => A _ _ (fun y => absurd rfl y)⟩, fun _ => A _ _ (fun y => absurd rfl y)⟩
  have q1 := lg_eq.mp q1
  have q2 := lg_eq.mp q2
  have q3 := lg_eq.mp q3
  constructor
  · funext s
    cases z : seB g s with
    | false => rw [(oN s).2 z, (oN' s).2 z]
    | true =>
      have hs := seB_l z
      have := hp s hs
      rw [q1, hS s hs, z, Bool.true_and] at this
      exact of_decide_eq_true this.symm
  · funext s
    cases z : seB g s with
    | false => rw [(oH s).2 z, (hdN_o s).2 z]
    | true =>
      have hs := seB_l z
      obtain ⟨_, _, a3, a4⟩ := hN s hs
      have e1 := (eb s hs).1
      have e2 := (eb s hs).2
      rw [q2, a3] at e1
      rw [q3, a4] at e2
      exact (hd_inj (hd s) (by have := (oH s).1; omega) _ (by have := (hdN_o (g := g) (N := N) (N' := N') (hd := hd) s).1; omega) e1 e2).symm
/-- a moment -/
theorem st_36 {t : Nat} {Q : rI0 → rJ0 → Prop} (hG : GA g) (hM : HM g W I J) (hP : ∀ s, P s = true → seB g s = true) (ht : t < 600) (h : NO36 g W P H t I J) (k : ∀ I' J', F36 I J I' J' → NO36 g W P H (t + 1) I' J' → Q I' J') : wcV S (d + 21) 55 [.ref 36] x I J Q := by
  obtain ⟨h2, h3, h4, h5, h6, h7, hN, hc⟩ := h
  obtain ⟨oN, oH⟩ := nt_o (g := g) (W := W) (P := P) (H := H) t
  generalize hq : nt g W P H t = q at *
  obtain ⟨N, hd⟩ := q
  have oN : okN g N := oN
  have oH : okH g hd := oH
  have hN : NP 36 J N hd := hN
  have enx : nt g W P H (t + 1) = mtN g W P H (t + 1) (N, hd) := by
    show mtN g W P H (t + 1) (nt g W P H t) = _
    rw [hq]
  refine c55_36 ?_
  rw [h2, ← nI_succ]
  refine c56_36 ?_
  have hM0 : HM g W (mSet I 36 2 (nI (t + 1))) J := hM.n36 ⟨fun b hb => mSet_ne hb, fun _ _ => rfl⟩
  have e0 : (0 : Int32) = nI (if stB g (prN g (t + 1)) (cuN g t) = true then 1 else 0) := by
    rw [show cuN g t = prN g (t + 1) from rfl, stB_0]
    rfl
  rw [e0]
  refine dc_36 (d := d + 19) (P := P) (H := H) hG (by omega) (cuN g (t + 1) - cuN g t) (cuN g t) _ J (by have := prN_c hG (t := t + 1); have e : prN g (t + 1) = cuN g t := rfl; omega) (Nat.le_refl _) hM0 rfl h3 h5 h6 (fun I1 J1 f1 fi1 fj1 c3 c5 c6 => ?_)
  have hM1 : HM g W I1 J1 := hM0.n36 f1
  have m1 : I1 36 2 = nI (t + 1) := (fi1 2 (by decide)).trans rfl
  refine c57_36 (so_36 (d := d + 19) hG (show t + 1 ≤ 600 by omega) (gN g 0) 0 J1 (by omega) hM1 m1 (fun s hs => ?_) (fun J2 f2 fj2 l7 => ?_))
  · rw [fj1 7 (by decide) (by decide), h7 s hs, Nat.zero_mul, decide_eq_false (show ¬ s < 0 by omega), Bool.false_and, Bool.or_false]
    rfl
  have hM2 : HM g W I1 J2 := hM1.n36 f2
  have p5 : ∀ s, s < 64 → bits5 (J2 36 5) s = cuP g 0 P (cuN g (t + 1)) s := fun s hs => by rw [fj2 5 (by decide)]; exact c5 s hs
  have p6 : ∀ s, s < 64 → bits5 (J2 36 6) s = cuP g 1 H (cuN g (t + 1)) s := fun s hs => by rw [fj2 6 (by decide)]; exact c6 s hs
  have np2 : NP 36 J2 N hd := by
    intro s hs
    rw [fj2 8 (by decide), fj2 9 (by decide), fj2 10 (by decide), fj2 11 (by decide), fj1 8 (by decide) (by decide), fj1 9 (by decide) (by decide), fj1 10 (by decide) (by decide), fj1 11 (by decide) (by decide)]
    exact hN s hs
  refine sd_36 hG hM2 (by omega) m1 p5 p6 l7 (fun v hv => ?_)
  have hP2 : ∀ s, cuP g 0 P (cuN g (t + 1)) s = true → seB g s = true := cuP_se hG hP _ cuN_l
  have i4 : I1 36 4 = I 36 4 := (fi1 4 (by decide)).trans rfl
  have hbd : ∀ s, s < 64 → bits5 (if cuS g (t + 1) = true then J2 4 5 else (v ||| J2 36 6) ||| J2 36 7) s = (if cuS g (t + 1) = true then seB g s else (((decide (t + 1 ≤ gN g 4) && ((cuP g 0 P (cuN g (t + 1)) s && !cuP g 1 H (cuN g (t + 1)) s) && !lfB g (t + 1) s)) || cuP g 1 H (cuN g (t + 1)) s) || lfB g (t + 1) s)) := by
    intro s hs
    cases cuS g (t + 1) with
    | true => exact hM2.2.2.2.2.1 s hs
    | false =>
      show bits5 ((v ||| J2 36 6) ||| J2 36 7) s = _
      rw [b5_or, b5_or, hv s hs, p6 s hs, l7 s hs]
      rfl
  have fin : ∀ (l1 : Int32) (l4 : Int64) (J3 : rJ0) (N' : Nat → Nat), F36 I1 J2 I1 J3 → (∀ q, q ≠ 8 → q ≠ 9 → J3 36 q = J2 36 q) → NP 36 J3 N' hd → okN g N' → N' = (mtN g W P H (t + 1) (N, hd)).1 → wp S (d + 21) 55 127 [some (.ref 36), some (.int l1), some (.long v), none, some (.long l4), none, some (.long (J2 36 8)), none, some (.long (J2 36 9)), none, none] [] (wv x I1 J3) (rV x Q) := by
    intro l1 l4 J3 N' f3 fj3 np3 oN' eN'
    refine v55_36_127 (d := d + 20) (ho_36 (g := g) (N := N) (N' := N') (hd := hd) (fun s hs => by rw [f3.2 4 (by decide)]; exact hM2.2.2.2.2.1 s hs) np3 oN oN' oH (fun s hs => ?_) (fun I4 J4 f4 fi4 fj4 np4 c4 => ?_))
    · have e := lv_eq (N s) (by have := (oN s).1; omega) (N' s) (by have := (oN' s).1; omega)
      rw [b5_and, b5_and, b5_not hs, b5_xor, b5_not hs, b5_xor, f3.2 4 (by decide), hM2.2.2.2.2.1 s hs, (np3 s hs).1, (np3 s hs).2.1, (np2 s hs).1, (np2 s hs).2.1, Bool.and_assoc, e]
    · have eh : hdN g N N' hd = (mtN g W P H (t + 1) (N, hd)).2 := by
        rw [eN']
        rfl
      refine k I4 J4 (F36.tr (F36.tr ⟨fun b hb => mSet_ne hb, fun _ _ => rfl⟩ f1) (F36.tr f2 (F36.tr f3 f4))) ⟨?_, ?_, ?_, fun s hs => ?_, fun s hs => ?_, fun s hs => ?_, ?_, ?_⟩
      · rw [fi4 2 (by decide)]
        exact m1
      · rw [fi4 3 (by decide)]
        exact c3
      · rw [fi4 4 (by decide), i4]
        exact h4
      · rw [fj4 5 (by decide) (by decide), fj3 5 (by decide) (by decide)]
        exact p5 s hs
      · rw [fj4 6 (by decide) (by decide), fj3 6 (by decide) (by decide)]
        exact p6 s hs
      · rw [fj4 7 (by decide) (by decide), fj3 7 (by decide) (by decide)]
        exact l7 s hs
      · rw [enx, ← eh, ← eN']
        exact np4
      · rcases c4 with z | ⟨z1, z2, z3, z4⟩
        · exact Or.inl z
        · refine Or.inr ⟨z1, fun u hu h6 => ?_⟩
          have ev : evB g (t + 1) := by
            refine h4 (t + 1) ?_
            rw [i4, m1] at z2
            have := i_lt z2
            rw [nI_toInt (by omega)] at this
            exact this
          have e : nt g W P H (t + 1) = nt g W P H t := by
            rw [enx, hq]
            refine Prod.ext ?_ ?_
            · rw [← eN']
              exact z3
            · rw [← eh]
              exact z4
          rw [nt_calm ev hG.2.2.1 e u (by omega) h6, e]
  have B : ∀ l1 : Int32, wp S (d + 21) 55 49 [some (.ref 36), some (.int l1), some (.long v), none, none, none, none, none, none, none, none] [.long (if cuS g (t + 1) = true then J2 4 5 else (v ||| J2 36 6) ||| J2 36 7)] (wv x I1 J2) (rV x Q) := by
    intro l1
    generalize hbv : (if cuS g (t + 1) = true then J2 4 5 else (v ||| J2 36 6) ||| J2 36 7) = bv at *
    refine v55_36_49 (d := d + 20) ⟨fun q => ?_, fun q => ?_⟩
    · rw [hM2.2.2.2.1] at q
      have q : gN g 5 = 0 := nI_ij (by have := hG.2.2.2.1; omega) (by omega) q
      refine mv_36 np2 oN oH hM2 hG hP2 (fun s hs => hM2.2.2.2.2.1 s hs) hv hbd (fun J3 f3 fj3 np3 => fin l1 bv J3 _ f3 fj3 np3 (mvN_o oN) ?_)
      show _ = nxN g W _ _ _ _ _ N hd
      unfold nxN
      rw [if_pos q]
    · rw [hM2.2.2.2.1] at q
      have q : gN g 5 ≠ 0 := fun z => q (by rw [z]; rfl)
      have h8 := hG.1
      have lp : ∀ (m r : Nat) (J3 : rJ0), r + m = gN g 0 → F36 I1 J2 I1 J3 → (∀ q, q ≠ 8 → q ≠ 9 → J3 36 q = J2 36 q) → NP 36 J3 (rwN g W (cuP g 0 P (cuN g (t + 1))) (cuP g 1 H (cuN g (t + 1))) (lfB g (t + 1)) (decide (t + 1 ≤ gN g 4)) (cuS g (t + 1)) N hd r) hd → wp S (d + 21) 55 76 [some (.ref 36), some (.int l1), some (.long v), none, some (.long bv), none, some (.long (J2 36 8)), none, some (.long (J2 36 9)), none, some (.int (nI r))] [] (wv x I1 J3) (rV x Q) := by
        intro m
        induction m with
        | zero =>
          intro r J3 hr f3 fj3 np3
          have hr : r = gN g 0 := by omega
          have hM3 := hM2.n36 f3
          refine v55_36_76 (d := d + 20) ⟨fun y => absurd y (by rw [hM3.1]; exact nI_nlt (by omega) (by omega)), fun _ => fin l1 bv J3 _ f3 fj3 np3 (rwN_o oN r) ?_⟩
          show _ = nxN g W _ _ _ _ _ N hd
          unfold nxN
          rw [if_neg q, hr]
        | succ m ih =>
          intro r J3 hr f3 fj3 np3
          have hM3 := hM2.n36 f3
          refine v55_36_76 (d := d + 20) ⟨fun _ => rws_36 hG hM3 (by omega) (fun w hw => mv_36 np3 (rwN_o oN r) oH hM3 hG hP2 hw hv hbd (fun J4 f4 fj4 np4 => ?_)), fun y => absurd (by rw [hM3.1]; exact nI_lt (by omega) (by omega)) y⟩
          rw [← nI_succ]
          exact ih (r + 1) J4 (by omega) (F36.tr f3 f4) (fun q h1 h2 => (fj4 q h1 h2).trans (fj3 q h1 h2)) np4
      exact lp (gN g 0) 0 J2 (by omega) F36.rf (fun _ _ _ => rfl) np2
  refine ⟨fun z => ?_, fun z => ?_⟩
  · rw [← e0] at z
    have e : cuS g (t + 1) = false := by
      cases y : cuS g (t + 1) with
      | false => rfl
      | true =>
        rw [y] at z
        exact absurd z (by decide)
    have b := B (nI (if cuS g (t + 1) = true then 1 else 0))
    rw [e] at b ⊢
    exact b
  · rw [← e0] at z
    have e : cuS g (t + 1) = true := by
      cases y : cuS g (t + 1) with
      | true => rfl
      | false =>
        rw [y] at z
        exact absurd rfl z
    have b := B (nI (if cuS g (t + 1) = true then 1 else 0))
    rw [e] at b ⊢
    exact b
end NU36
end
