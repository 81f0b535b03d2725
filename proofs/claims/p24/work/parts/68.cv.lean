section CW
variable {S : Nat × (Nat → Int32)} {d : Nat} {x : mX} {I : rI0} {J : rJ0}
theorem mSet_self {α : Type} (f : Nat → Nat → α) (n k : Nat) : mSet f n k (f n k) = f := by
  funext i j
  unfold mSet va_up
  by_cases h : i = n
  · subst h
    rw [if_pos rfl]
    split
    · rename_i h2
      rw [h2]
    · rfl
  · rw [if_neg h]
theorem sh1 : ∀ c, c < 64 → ((1 : Int64) <<< ((nI c).toInt64 &&& 63)).toBitVec = BitVec.twoPow 64 c := by decide +kernel
theorem SB_or {v w : Int64} {s : Nat} (h : SB (v ||| w) s) : SB v s ∨ SB w s := by
  unfold SB at h ⊢
  rw [Int64.toBitVec_or, BitVec.getLsbD_or, Bool.or_eq_true] at h
  exact h
theorem SB_1 {c s : Nat} (hc : c < 64) (h : SB ((1 : Int64) <<< ((nI c).toInt64 &&& 63)) s) : s = c := by
  unfold SB at h
  rw [sh1 c hc, BitVec.getLsbD_twoPow, Bool.and_eq_true] at h
  exact (of_decide_eq_true h.2).symm
theorem SB_0 {s : Nat} (h : SB (0 : Int64) s) : False := by
  unfold SB at h
  have e : (0 : Int64).toBitVec = 0#64 := rfl
  rw [e, BitVec.getLsbD_zero] at h
  cases h
theorem span_lp {l1 l2 l3 l6 : Int32} {Q : Int64 → rI0 → rJ0 → Prop} (h6 : l6.toInt ≤ 1000) (k : ∀ v, Q v I J) : ∀ (m : Nat) (l4 : Int64) (l7 : Int32), l6.toInt - l7.toInt < (m : Int) → wp S (d + 1) 34 40 [some (.ref 16), some (.int l1), some (.int l2), some (.int l3), some (.long l4), none, some (.int l6), some (.int l7)] [] (wv x I J) (rJ x Q) := by
  intro m
  induction m with
  | zero =>
    intro l4 l7 hm
    exact v34_16_40 ⟨fun _ => k _, fun q => absurd (by rw [Int32.lt_iff_toInt_lt]; omega) q⟩
  | succ m ih =>
    intro l4 l7 hm
    refine v34_16_40 ⟨fun _ => k _, fun q => ih _ (l7 + 1) ?_⟩
    rw [Int32.lt_iff_toInt_lt] at q
    have h2 := Int32.le_toInt l7
    have e : (1 : Int32).toInt = 1 := by decide
    have es : (l7 + 1).toInt = l7.toInt + 1 := by
      rw [Int32.toInt_add, e]
      exact Int.bmod_eq_of_le (by omega) (by omega)
    omega
theorem spanA {p1 p2 p3 : Int32} {Q : Int64 → rI0 → rJ0 → Prop} (h1 : RB (I 16 1) 8) (k : ∀ v, Q v I J) : wcJ S (d + 1) 34 [.ref 16, .int p1, .int p2, .int p3] x I J Q := by
  refine c34_16 ⟨fun _ => k _, fun _ => ⟨fun _ => ?_, fun _ => k _⟩⟩
  obtain ⟨C, hC, eC⟩ := h1
  have e1 : (1 : Int32).toInt = 1 := by decide
  have ec : (I 16 1 - 1).toInt = (C : Int) - 1 := by
    rw [eC, Int32.toInt_sub, nI_toInt (by omega), e1]
    exact Int.bmod_eq_of_le (by omega) (by omega)
  have h6 : (if (p2 + p3) < (I 16 1 - 1) then p2 + p3 else I 16 1 - 1).toInt ≤ 1000 := by
    split
    · rename_i z
      rw [Int32.lt_iff_toInt_lt, ec] at z
      omega
    · rw [ec]
      omega
  exact span_lp h6 k ((if (p2 + p3) < (I 16 1 - 1) then p2 + p3 else I 16 1 - 1).toInt - (if 0 < (p2 - p3) then p2 - p3 else 0).toInt + 1).toNat _ _ (by omega)
theorem areasA {s : Nat} {Q : rI0 → rJ0 → Prop} (hs : s < 64) (h0 : RB (I 16 0) 8) (h1 : RB (I 16 1) 8) (k : ∀ J', (∀ b, b ≠ 23 → J' b = J b) → Q I J') : wcV S (d + 2) 33 [.ref 16, .int (nI s)] x I J Q := by
  have m0 : ¬ mOut (nI s) 384 := nI_in (by omega) (by omega)
  have m1 : ∀ c : Nat, c ≤ 320 → ¬ mOut (nI c + nI s) 384 := fun c hc => by rw [nI_add]; exact nI_in (by omega) (by omega)
  refine c33_16 (rowOfA_16 h0 h1 (fun r1 _ => spanA h1 (fun r2 => spanA h1 (fun r3 => spanA h1 (fun r4 => spanA h1 (fun r5 => ⟨m0, m1 64 (by omega), m1 128 (by omega), spanA h1 (fun r6 => ⟨m1 192 (by omega), spanA h1 (fun r7 => spanA h1 (fun r8 => spanA h1 (fun r9 => ?_)))⟩)⟩))))))
  have f : ∀ v w, Q I (mSet (mSet (mSet (mSet (mSet (mSet J 23 (nI s).toNatClampNeg ((r4 ||| (r2 &&& (((1 : Int64) <<< ((nI s).toInt64 &&& 63)) ^^^ (-1 : Int64)))) ||| r5)) 23 ((64 : Int32) + nI s).toNatClampNeg r3) 23 ((128 : Int32) + nI s).toNatClampNeg (r2 &&& (((1 : Int64) <<< ((nI s).toInt64 &&& 63)) ^^^ (-1 : Int64)))) 23 ((192 : Int32) + nI s).toNatClampNeg r6) 23 ((256 : Int32) + nI s).toNatClampNeg v) 23 ((320 : Int32) + nI s).toNatClampNeg w) := fun v w => k _ (fun b hb => by rw [mSet_ne hb, mSet_ne hb, mSet_ne hb, mSet_ne hb, mSet_ne hb, mSet_ne hb])
  exact ⟨fun _ => ⟨m1 256 (by omega), m1 320 (by omega), f _ _⟩, fun _ => ⟨m1 256 (by omega), m1 320 (by omega), f _ _⟩⟩
theorem surv66 {Q : rI0 → rJ0 → Prop} (h0 : RB (I 16 0) 8) (h1 : RB (I 16 1) 8) : ∀ (m c : Nat) (J : rJ0), c + m = 64 → (∀ J', (∀ b, b ≠ 23 → J' b = J b) → Q I J') → wp S (d + 3) 32 66 [some (.ref 16), some (.int (nI c))] [] (wv x I J) (rV x Q) := by
  intro m
  induction m with
  | zero =>
    intro c J hc k
    have hc : c = 64 := by omega
    subst hc
    exact v32_16_66 ⟨fun q => absurd q (by decide), fun _ => k J (fun _ _ => rfl)⟩
  | succ m ih =>
    intro c J hc k
    refine v32_16_66 ⟨fun _ => isSeatA_16 ⟨fun _ => ?_, fun z => absurd rfl z⟩ (fun s hs es hb => ⟨fun z => absurd z (by decide), fun _ => areasA (by omega : c < 64) h0 h1 (fun J1 o1 => ?_)⟩), fun q => absurd (nI_lt (by omega) (by omega) : nI c < nI 64) q⟩
    · rw [← nI_succ]
      exact ih (c + 1) J (by omega) k
    · rw [← nI_succ]
      exact ih (c + 1) J1 (by omega) (fun J' o2 => k J' (fun b hb => (o2 b hb).trans (o1 b hb)))
theorem surv7 {R C : Nat} {Q : rI0 → rJ0 → Prop} (hR : R ≤ 8) (hC : C ≤ 8) (eR : I 16 0 = nI R) (eC : I 16 1 = nI C) : ∀ (m c : Nat) (J : rJ0), c + m = R * C → (∀ s, s < 64 → SB (J 16 5) s → ¬ I 17 s = -1) → (∀ J', (∀ b, b ≠ 16 → b ≠ 18 → b ≠ 23 → J' b = J b) → (∀ q, q ≠ 5 → J' 16 q = J 16 q) → (∀ s, s < 64 → SB (J' 16 5) s → ¬ I 17 s = -1) → Q I J') → wp S (d + 3) 32 7 [some (.ref 16), some (.int (nI c))] [] (wv x I J) (rV x Q) := by
  have hRC : R * C ≤ 64 := Nat.le_trans (Nat.mul_le_mul hR hC) (by omega)
  intro m
  induction m with
  | zero =>
    intro c J hc hb k
    have g : wp S (d + 3) 32 66 [some (.ref 16), some (.int 0)] [] (wv x I J) (rV x Q) := surv66 ⟨R, hR, eR⟩ ⟨C, hC, eC⟩ 64 0 J rfl (fun J' o1 => k J' (fun b h1 h2 h3 => o1 b h3) (fun q hq => congrFun (o1 16 (by decide)) q) (by rw [o1 16 (by decide)]; exact hb))
    exact v32_16_7 (c23_16 ⟨fun q => absurd q (by rw [eR, eC, nI_mu]; exact nI_nlt (by omega) (by omega)), fun _ => g⟩)
  | succ m ih =>
    intro c J hc hb k
    have hc64 : c < 64 := by omega
    refine v32_16_7 (c23_16 ⟨fun _ => ⟨fun _ => ⟨nI_in hc64 (by omega), setKindA_16 hc64 rfl (fun J2 o2 => ?_)⟩, fun q => absurd (nI_lt (by omega) (by omega) : nI c < nI 64) q⟩, fun q => absurd (by rw [eR, eC, nI_mu]; exact nI_lt (by omega) (by omega)) q⟩)
    rw [nI_clamp (by omega), mSet_self]
    have e5 : J2 16 5 = J 16 5 := by rw [o2 16 (by decide)]
    have go : ∀ v : Int64, (∀ s, s < 64 → SB (J2 16 5 ||| v) s → ¬ I 17 s = -1) → wp S (d + 3) 32 7 [some (.ref 16), some (.int (nI c + 1))] [] (wv x I (mSet J2 16 5 (J2 16 5 ||| v))) (rV x Q) := by
      intro v hv
      rw [← nI_succ]
      refine ih (c + 1) _ (by omega) hv (fun J' o3 q3 b3 => k J' (fun b h1 h2 h3 => ?_) (fun q hq => ?_) b3)
      · rw [o3 b h1 h2 h3, mSet_ne h1, o2 b h2]
      · rw [q3 q hq]
        show mSet J2 16 5 _ 16 q = J 16 q
        unfold mSet va_up
        rw [if_pos rfl, if_neg hq, o2 16 (by decide)]
    refine ⟨nI_in hc64 (by omega), fun _ => go _ (fun s hs hv => ?_), fun hk => go _ (fun s hs hv => ?_)⟩
    · rcases SB_or hv with z | z
      · rw [e5] at z
        exact hb s hs z
      · exact absurd z SB_0
    · rcases SB_or hv with z | z
      · rw [e5] at z
        exact hb s hs z
      · have := SB_1 hc64 z
        subst this
        exact hk
theorem surveyA {Q : rI0 → rJ0 → Prop} (h0 : RB (I 16 0) 8) (h1 : RB (I 16 1) 8) (k : ∀ J', (∀ b, b ≠ 16 → b ≠ 18 → b ≠ 23 → J' b = J b) → (∀ q, q ≠ 5 → J' 16 q = J 16 q) → (∀ s, s < 64 → SB (J' 16 5) s → ¬ I 17 s = -1) → Q I J') : wcV S (d + 3) 32 [.ref 16] x I J Q := by
  obtain ⟨R, hR, eR⟩ := h0
  obtain ⟨C, hC, eC⟩ := h1
  refine c32_16 (surv7 hR hC eR eC (R * C) 0 _ (by omega) (fun s hs hv => absurd hv SB_0) (fun J' o1 q1 b1 => k J' (fun b z1 z2 z3 => (o1 b z1 z2 z3).trans (mSet_ne z1)) (fun q hq => ?_) b1))
  rw [q1 q hq]
  show mSet J 16 5 0 16 q = J 16 q
  unfold mSet va_up
  rw [if_pos rfl, if_neg hq]
end CW
