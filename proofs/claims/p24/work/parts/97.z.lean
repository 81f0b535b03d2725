/-! the reference's moment: rows, and the end -/
section RZ0
variable {S : Nat × (Nat → Int32)} {d : Nat} {x : mX} {I : rI0} {J : rJ0} {g : Nat → Int32} {W : Nat → lV} {N hd X Y : Nat → Nat} {P H L : Nat → Bool} {py st : Bool}
theorem rb_e : ∀ e, e < 64 → ∀ u, u < 64 → bits5 (((1 : Int64) <<< ((nI e).toInt64 &&& 63)) - (1 : Int64)) u = decide (u < e) := by decide +kernel
theorem c202 {t : Nat} {stl : Int32} {Q : rI0 → rJ0 → Prop} (hG : GA g) (hI : GI g) (hW : HW g) (hL : LR g W) (hA : AR g J) (ht : t ≤ 600) (hR : RP J N hd) (oN : okN g N) (oH : okH g hd) (e36 : ∀ s, s < 64 → bits5 (J 43 36) s = P s) (e37 : ∀ s, s < 64 → bits5 (J 43 37) s = H s) (hst : stl = nI (if st = true then 1 else 0)) (hpy : py = decide (t ≤ gN g 4)) (hLf : L = lfB g t) (hX : X = nxN g W P H L py (st || decide (t = 0)) N hd) (hY : ∀ u, Y u = if seB g u = true then (if t = 0 then 0 else if X u = N u then (if hd u < 3 then hd u + 1 else 3) else 0) else 0) (eg : I 45 = g) (h42 : I 43 42 = nI t) (K : ∀ I1 l7 l9 l11 l13, (∀ b, b ≠ 50 → I1 b = I b) → (∀ u, u < 64 → bits5 l7 u = decide (1 ≤ X u) ∧ bits5 l9 u = decide (2 ≤ X u) ∧ bits5 l11 u = decide (Y u % 2 = 1) ∧ bits5 l13 u = decide (2 ≤ Y u)) → Q (mSet I1 43 42 (nI (t + 1))) (mSet (mSet (mSet (mSet (mSet (mSet (mSet (mSet J 43 38 l7) 43 39 l9) 43 40 l11) 43 41 l13) 52 t l7) 53 t l9) 54 t l11) 55 t l13)) : ∀ (m r : Nat) (I1 : rI0) (l3 l5 l7 l9 l11 l13 : Int64), r + m = gN g 0 → (∀ b, b ≠ 50 → I1 b = I b) → (∀ u, u < 64 → bits5 l3 u = decide (1 ≤ Mr g W P H L py (st || decide (t = 0)) N hd r u)) → (∀ u, u < 64 → bits5 l5 u = decide (2 ≤ Mr g W P H L py (st || decide (t = 0)) N hd r u)) → B4 X Y (r * gN g 1) l7 l9 l11 l13 → wp S (d + 3) 200 202 [some (.ref 43), some (.int (nI t)), some (.int stl), some (.long l3), none, some (.long l5), none, some (.long l7), none, some (.long l9), none, some (.long l11), none, some (.long l13), none, some (.int (nI r)), none, none, none, none, none, none, none] [] (wv x I1 J) (rV x Q) := by
  obtain ⟨z0, z1, z4, z5, -, -⟩ := k0c
  have h8 := hG.1
  have h8c := hG.2.1
  have oX : okN g X := by
    rw [hX]
    exact nxN_o oN
  intro m
  induction m with
  | zero =>
    intro r I1 l3 l5 l7 l9 l11 l13 hm f e3 e5 h
    have hm : r = gN g 0 := by omega
    have e45 : I1 45 = g := (f 45 (by decide)).trans eg
    have io : ¬ mOut (nI t) 601 := nI_in (by omega) (by omega)
    refine v200_43_202 ⟨by decide, fun q => absurd q (by rw [z0, e45, hI.1 0 (by omega)]; exact nI_nlt (by omega) (by omega)), fun _ => ⟨io, io, io, io, ?_⟩⟩
    rw [nI_clamp (by omega), f 43 (by decide), h42, ← nI_succ]
    refine K I1 l7 l9 l11 l13 f (fun u hu => ?_)
    obtain ⟨a1, a2, a3, a4⟩ := h u hu
    rw [a1, a2, a3, a4, hm]
    by_cases z : u < gN g 0 * gN g 1
    · rw [decide_eq_true z]
      exact ⟨rfl, rfl, rfl, rfl⟩
    · have ns : seB g u = false := ts_nt (fun y => z (hG.2.2.2.2.1 u y).1)
      have y0 : Y u = 0 := by
        rw [hY u, ns]
        rfl
      rw [decide_eq_false z, (oX u).2 ns, y0]
      exact ⟨rfl, rfl, rfl, rfl⟩
  | succ m ih =>
    intro r I1 l3 l5 l7 l9 l11 l13 hm f e3 e5 h
    have hr : r < gN g 0 := by omega
    have hRC : (r + 1) * gN g 1 ≤ 64 := Nat.le_trans (Nat.mul_le_mul (show r + 1 ≤ 8 by omega) h8c) (by omega)
    have eC : gN g 1 * (r + 1) = (r + 1) * gN g 1 := Nat.mul_comm _ _
    have e45 : I1 45 = g := (f 45 (by decide)).trans eg
    have i78 : ((78 : Int32) + nI r).toNatClampNeg = 78 + r := by
      show (nI 78 + nI r).toNatClampNeg = _
      rw [nI_add, nI_clamp (by omega)]
    have o78 : ¬ mOut ((78 : Int32) + nI r) 681 := by
      show ¬ mOut (nI 78 + nI r) 681
      rw [nI_add]
      exact nI_in (by omega) (by omega)
    obtain ⟨-, -, l78, b78⟩ := hI.2.2.1 r (by omega)
    have hrow : ∀ s, rwB g r s = true → L s = (decide (1 ≤ gN g (78 + r)) && decide (gN g (78 + r) ≤ t + 1)) := by
      intro s z
      have z := rw_e.mp z
      have hc : 0 < gN g 1 := by
        rcases Nat.eq_zero_or_pos (gN g 1) with y | y
        · rw [y] at z
          omega
        · exact y
      have e : s / gN g 1 = r := Nat.div_eq_of_lt_le z.1 z.2
      have e2 : (r + 1) * gN g 1 ≤ gN g 0 * gN g 1 := Nat.mul_le_mul_right _ (by omega)
      rw [hLf]
      unfold lfB
      rw [e, decide_eq_true (show s < gN g 0 * gN g 1 by omega), Bool.true_and]
    have go : ∀ l16 : Int32, l16 = nI (if (decide (1 ≤ gN g (78 + r)) && decide (gN g (78 + r) ≤ t + 1)) = true then 1 else 0) → wp S (d + 3) 200 260 [some (.ref 43), some (.int (nI t)), some (.int stl), some (.long l3), none, some (.long l5), none, some (.long l7), none, some (.long l9), none, some (.long l11), none, some (.long l13), none, some (.int (nI r)), some (.int l16), some (.int (nI (r * gN g 1))), none, none, none, none, none] [] (wv x I1 J) (rV x Q) := by
      intro l16 e16
      refine c260 (v := 0) (I := I) (l16 := l16) (st := st) (X := X) (Y := Y) hG hI hW hL hA ht hR oN oH hr e36 e37 hst hpy e16 hrow e3 e5 (fun u y1 y2 => by rw [hX]; exact nx_X hr y1 y2) (fun u y => (oX u).2 y) (fun u => (oX u).1) hY ?_ eg (gN g 1) (r * gN g 1) I1 l7 l9 l11 l13 (by rw [Nat.succ_mul]) (Nat.le_refl _) f h
      intro I2 a7 a9 a11 a13 f2 hb
      have e45 : I2 45 = g := (f2 45 (by decide)).trans eg
      have h42 : I2 43 42 = nI t := by
        rw [f2 43 (by decide)]
        exact h42
      refine v200_43_260 ⟨by decide, fun q => absurd q ?_, fun _ => ⟨by decide, ?_⟩⟩
      · rw [z1, e45, hI.1 1 (by omega), ← nI_succ, nI_mu, eC]
        exact nI_nlt (Nat.le_refl _) (by omega)
      · rw [z5, z1, e45, hI.1 5 (by omega), hI.1 1 (by omega), ← nI_succ, nI_mu, eC]
        have h5 := hG.2.2.2.1
        refine ⟨fun q => ?_, fun q => ⟨by decide, ?_⟩⟩
        · have q : gN g 5 = 0 := nI_ij (b := 0) (by omega) (by omega) q
          have eM : Mr g W P H L py (st || decide (t = 0)) N hd (r + 1) = Mr g W P H L py (st || decide (t = 0)) N hd r := by
            unfold Mr
            rw [if_pos q, if_pos q]
          exact ih (r + 1) I2 l3 l5 a7 a9 a11 a13 (by omega) f2 (by rw [eM]; exact e3) (by rw [eM]; exact e5) hb
        · have q : gN g 5 ≠ 0 := fun z => q (by rw [z]; rfl)
          have nxt : ∀ (s0 : Int64) (l17 : Int32), (∀ u, u < 64 → bits5 s0 u = decide (u < (r + 1) * gN g 1)) → wp S (d + 3) 200 548 [some (.ref 43), some (.int (nI t)), some (.int stl), some (.long l3), none, some (.long l5), none, some (.long a7), none, some (.long a9), none, some (.long a11), none, some (.long a13), none, some (.int (nI r)), some (.int l16), some (.int (l17)), none, none, none, none, none] [.long s0] (wv x I2 J) (rV x Q) := by
            intro s0 l17 h0
            refine v200_43_548 ?_
            rw [← nI_succ]
            refine ih (r + 1) I2 _ _ a7 a9 a11 a13 (by omega) f2 (fun u hu => ?_) (fun u hu => ?_) hb
            · rw [b5_or, b5_and, b5_and, b5_not hu, h0 u hu, (hb u hu).1, (hR u hu).1, Mr_n q hr oN, ← hX]
              by_cases z : u < (r + 1) * gN g 1
              · rw [decide_eq_true z, if_pos z]
                simp
              · rw [decide_eq_false z, if_neg z]
                simp
            · rw [b5_or, b5_and, b5_and, b5_not hu, h0 u hu, (hb u hu).2.1, (hR u hu).2.1, Mr_n q hr oN, ← hX]
              by_cases z : u < (r + 1) * gN g 1
              · rw [decide_eq_true z, if_pos z]
                simp
              · rw [decide_eq_false z, if_neg z]
                simp
          refine ⟨fun y => nxt _ _ (fun u hu => ?_), fun y => nxt _ _ (fun u hu => ?_)⟩
          · have y : (r + 1) * gN g 1 = 64 := nI_ij (b := 64) (by omega) (by omega) y
            rw [b5_m u hu, y, decide_eq_true hu]
          · have y : (r + 1) * gN g 1 ≠ 64 := fun z => y (by rw [z]; rfl)
            exact rb_e _ (by omega) u hu
    refine v200_43_202 ⟨by decide, fun _ => ⟨o78, ?_⟩, fun q => absurd (by rw [z0, e45, hI.1 0 (by omega)]; exact nI_lt hr (by omega)) q⟩
    rw [i78, z1, e45, l78, hI.1 1 (by omega), nI_mu, Nat.mul_comm (gN g 1) r]
    refine ⟨fun q => ⟨o78, fun q2 => ⟨by decide, go _ ?_⟩, fun q2 => ⟨by decide, go _ ?_⟩⟩, fun q => ⟨by decide, go _ ?_⟩⟩
    · have q : 0 < gN g (78 + r) := (nI_ltI (a := 0) (by omega) (by omega)).mp q
      have e1 : nI (gN g (78 + r)) - (1 : Int32) = nI (gN g (78 + r) - 1) := by
        have := nI_pr (gN g (78 + r) - 1)
        rw [show gN g (78 + r) - 1 + 1 = gN g (78 + r) by omega] at this
        exact this
      rw [e1] at q2
      have q2 := (nI_ltI (by omega) (by omega)).mp q2
      rw [decide_eq_false (show ¬ gN g (78 + r) ≤ t + 1 by omega), Bool.and_false]
      rfl
    · have q : 0 < gN g (78 + r) := (nI_ltI (a := 0) (by omega) (by omega)).mp q
      have e1 : nI (gN g (78 + r)) - (1 : Int32) = nI (gN g (78 + r) - 1) := by
        have := nI_pr (gN g (78 + r) - 1)
        rw [show gN g (78 + r) - 1 + 1 = gN g (78 + r) by omega] at this
        exact this
      rw [e1] at q2
      have q2 : ¬ t < gN g (78 + r) - 1 := fun z => q2 (nI_lt z (by omega))
      rw [decide_eq_true (show 1 ≤ gN g (78 + r) by omega), decide_eq_true (show gN g (78 + r) ≤ t + 1 by omega)]
      rfl
    · have q : ¬ 0 < gN g (78 + r) := fun z => q (nI_lt (a := 0) z (by omega))
      rw [decide_eq_false (show ¬ 1 ≤ gN g (78 + r) by omega)]
      rfl
/-- the first moment -/
theorem n0_X (hG : GA g) (s : Nat) : nxN g W P H L true true (fun _ => 0) (fun _ => 0) s = if (seB g s && (P s && (!H s && !L s))) = true then 2 else 0 := by
  have o : okN g (fun _ => 0) := fun _ => ⟨Nat.zero_le _, fun _ => rfl⟩
  cases z : seB g s with
  | false =>
    rw [(nxN_o (W := W) (P := P) (H := H) (L := L) (py := true) (st := true) (hd := fun _ => 0) o s).2 z]
    rfl
  | true =>
    have h := (hG.2.2.2.2.1 s z).1
    have hc : 0 < gN g 1 := by
      rcases Nat.eq_zero_or_pos (gN g 1) with y | y
      · rw [y] at h
        omega
      · exact y
    have hl : s / gN g 1 < gN g 0 := Nat.div_lt_of_lt_mul (by rw [Nat.mul_comm]; exact h)
    have e1 := Nat.div_add_mod s (gN g 1)
    have e2 := Nat.mod_lt s hc
    have e3 : (s / gN g 1 + 1) * gN g 1 = gN g 1 * (s / gN g 1) + gN g 1 := by rw [Nat.succ_mul, Nat.mul_comm]
    rw [nx_X hl (rw_e.mpr ⟨Nat.div_mul_le_self s _, by omega⟩) z]
    unfold thN
    rw [if_pos z, Bool.true_and]
    cases P s <;> cases H s <;> cases L s <;> rfl
theorem pv_o (t : Nat) : okN g (pvN g W P H t).1 ∧ okH g (pvN g W P H t).2 := by
  cases t with
  | zero => exact ⟨fun _ => ⟨Nat.zero_le _, fun _ => rfl⟩, fun _ => ⟨Nat.zero_le _, fun _ => rfl⟩⟩
  | succ t => exact nt_o t
/-- a moment of the reference's -/
theorem mom {t : Nat} {Q : rI0 → rJ0 → Prop} (hG : GA g) (hI : GI g) (hW : HW g) (hL : LR g W) (hA : AR g J) (ht : t ≤ 600) (eg : I 45 = g) (h : RSn g W P H t I J) (k : ∀ I' J', FM I J I' J' → RSn g W P H (t + 1) I' J' → (∀ s, s < 64 → bits5 (J' 52 t) s = decide (1 ≤ (nt g W P H t).1 s) ∧ bits5 (J' 53 t) s = decide (2 ≤ (nt g W P H t).1 s) ∧ bits5 (J' 54 t) s = decide ((nt g W P H t).2 s % 2 = 1) ∧ bits5 (J' 55 t) s = decide (2 ≤ (nt g W P H t).2 s)) → (∀ u, u ≠ t → J' 52 u = J 52 u ∧ J' 53 u = J 53 u ∧ J' 54 u = J 54 u ∧ J' 55 u = J 55 u) → Q I' J') : wcV S (d + 3) 200 [.ref 43] x I J Q := by
  obtain ⟨h42, h43, h36, h37, hR⟩ := h
  obtain ⟨oN, oH⟩ := pv_o (g := g) (W := W) (P := P) (H := H) t
  have e0 : (0 : Int32) = nI (if stB g (prN g t) (prN g t) = true then 1 else 0) := by
    rw [stB_0]
    rfl
  refine c200_43 ?_
  rw [h42, e0]
  refine rcl (d := d) hG hI ht (cuN g t - prN g t) (prN g t) I J (by have := prN_c hG (t := t); omega) (Nat.le_refl _) eg h43 h36 h37 (fun I1 J1 f1 f2 f3 f4 r1 r2 r3 => v200_43_176 ?_)
  have hR1 : RP J1 (pvN g W P H t).1 (pvN g W P H t).2 := by
    intro s hs
    rw [f4 38 (by decide) (by decide), f4 39 (by decide) (by decide), f4 40 (by decide) (by decide), f4 41 (by decide) (by decide)]
    exact hR s hs
  have hA1 : AR g J1 := by
    unfold AR at *
    rw [f3 51 (by decide)]
    exact hA
  have eN : (nt g W P H t).1 = nxN g W (cuP g 0 P (cuN g t)) (cuP g 1 H (cuN g t)) (lfB g t) (decide (t ≤ gN g 4)) (cuS g t || decide (t = 0)) (pvN g W P H t).1 (pvN g W P H t).2 := by
    cases t with
    | zero =>
      funext s
      rw [decide_eq_true (Nat.zero_le _), decide_eq_true (show 0 = 0 from rfl), Bool.or_true]
      exact (n0_X hG s).symm
    | succ t =>
      rw [decide_eq_false (show ¬ t + 1 = 0 by omega), Bool.or_false]
      rfl
  have eY : ∀ u, (nt g W P H t).2 u = if seB g u = true then (if t = 0 then 0 else if (nt g W P H t).1 u = (pvN g W P H t).1 u then (if (pvN g W P H t).2 u < 3 then (pvN g W P H t).2 u + 1 else 3) else 0) else 0 := by
    intro u
    cases t with
    | zero =>
      show 0 = _
      cases seB g u <;> rfl
    | succ t => rfl
  have b0 : ∀ u, u < 64 → bits5 0 u = (decide (u < 0 * gN g 1) && true) → True := fun _ _ _ => True.intro
  have e1 : (J1 43 38 = J1 43 38) := rfl
  refine c202 (I := I1) (J := J1) (st := cuS g t) (X := (nt g W P H t).1) (Y := (nt g W P H t).2) (L := lfB g t) hG hI hW hL hA1 ht hR1 oN oH r2 r3 rfl rfl rfl eN eY ((f1 45 (by decide)).trans eg) ((f2 42 (by decide)).trans h42) (fun I2 l7 l9 l11 l13 f5 hb => ?_) (gN g 0) 0 I1 _ _ 0 0 0 0 (by omega) (fun _ _ => rfl) (fun u hu => ?_) (fun u hu => ?_) (fun u hu => ?_)
  · refine k _ _ ⟨fun b z1 z2 => ?_, fun q z1 z2 => ?_, fun b z1 z2 => ?_, fun q z1 => ?_⟩ ⟨rfl, ?_, fun s hs => ?_, fun s hs => ?_, ?_⟩ (fun s hs => ?_) (fun u hu => ?_)
    · rw [mSet_ne z1, f5 b z2, f1 b z1]
    · show mSet I2 43 42 _ 43 q = _
      unfold mSet va_up
      rw [if_pos rfl, if_neg z1, f5 43 (by decide), f2 q z2]
    · rw [mSet_ne (by omega), mSet_ne (by omega), mSet_ne (by omega), mSet_ne (by omega), mSet_ne z1, mSet_ne z1, mSet_ne z1, mSet_ne z1, f3 b z1]
    · rw [mSet_ne (by decide), mSet_ne (by decide), mSet_ne (by decide), mSet_ne (by decide)]
      show mSet (mSet (mSet (mSet J1 43 38 _) 43 39 _) 43 40 _) 43 41 _ 43 q = _
      unfold mSet va_up
      rw [if_pos rfl, if_neg (by omega), if_pos rfl, if_neg (by omega), if_pos rfl, if_neg (by omega), if_pos rfl, if_neg (by omega), f4 q (by omega) (by omega)]
    · show mSet I2 43 42 _ 43 43 = nI (cuN g t)
      rw [show mSet I2 43 42 (nI (t + 1)) 43 43 = I2 43 43 from rfl, f5 43 (by decide)]
      exact r1
    · show bits5 (J1 43 36) s = cuP g 0 P (cuN g t) s
      exact r2 s hs
    · show bits5 (J1 43 37) s = cuP g 1 H (cuN g t) s
      exact r3 s hs
    · intro s hs
      exact hb s hs
    · have e : ∀ (f : rJ0) (a : Nat) (v : Int64), mSet f a t v a t = v := fun f a v => mSet_at
      rw [mSet_ne (show 52 ≠ 55 by decide), mSet_ne (show 52 ≠ 54 by decide), mSet_ne (show 52 ≠ 53 by decide), e, mSet_ne (show 53 ≠ 55 by decide), mSet_ne (show 53 ≠ 54 by decide), e, mSet_ne (show 54 ≠ 55 by decide), e, e]
      exact hb s hs
    · have e : ∀ (f : rJ0) (a : Nat) (v : Int64), mSet f a t v a u = f a u := by
        intro f a v
        unfold mSet va_up
        rw [if_pos rfl, if_neg hu]
      rw [mSet_ne (show 52 ≠ 55 by decide), mSet_ne (show 52 ≠ 54 by decide), mSet_ne (show 52 ≠ 53 by decide), e, mSet_ne (show 53 ≠ 55 by decide), mSet_ne (show 53 ≠ 54 by decide), e, mSet_ne (show 54 ≠ 55 by decide), e, e]
      have e2 : ∀ a, a ≠ 43 → mSet (mSet (mSet (mSet J1 43 38 l7) 43 39 l9) 43 40 l11) 43 41 l13 a = J a := by
        intro a ha
        rw [mSet_ne ha, mSet_ne ha, mSet_ne ha, mSet_ne ha, f3 a ha]
      rw [mSet_ne (show 53 ≠ 52 by decide), mSet_ne (show 54 ≠ 53 by decide), mSet_ne (show 54 ≠ 52 by decide), mSet_ne (show 55 ≠ 54 by decide), mSet_ne (show 55 ≠ 53 by decide), mSet_ne (show 55 ≠ 52 by decide), e2 52 (by decide), e2 53 (by decide), e2 54 (by decide), e2 55 (by decide)]
      exact ⟨rfl, rfl, rfl, rfl⟩
  · rw [show Mr g W (cuP g 0 P (cuN g t)) (cuP g 1 H (cuN g t)) (lfB g t) (decide (t ≤ gN g 4)) (cuS g t || decide (t = 0)) (pvN g W P H t).1 (pvN g W P H t).2 0 u = (pvN g W P H t).1 u from Mr_v (by omega)]
    exact (hR1 u hu).1
  · rw [show Mr g W (cuP g 0 P (cuN g t)) (cuP g 1 H (cuN g t)) (lfB g t) (decide (t ≤ gN g 4)) (cuS g t || decide (t = 0)) (pvN g W P H t).1 (pvN g W P H t).2 0 u = (pvN g W P H t).1 u from Mr_v (by omega)]
    exact (hR1 u hu).2.1
  · rw [b5_0, Nat.zero_mul, decide_eq_false (show ¬ u < 0 by omega)]
    exact ⟨rfl, rfl, rfl, rfl⟩
end RZ0
