/-! ===== Int64 as a set of bits: test, set, clear ===== -/
theorem ts_nf {x : Bool} (h : ¬ x = false) : x = true := by cases x <;> first | rfl | exact absurd rfl h
theorem ts_nt {x : Bool} (h : ¬ x = true) : x = false := by cases x <;> first | rfl | exact absurd rfl h
theorem ts_bit {w : Int64} {s : UInt64} {j : Nat} (hj : j < 64) (hs : s.toNat = j) : ((w.toUInt64 >>> s).toInt64 &&& 1) = 0 ↔ w.toBitVec.getLsbD j = false := by
  have e : (w.toUInt64 >>> s).toInt64.toBitVec = w.toBitVec >>> j := by
    apply BitVec.eq_of_toNat_eq
    show (w.toUInt64 >>> s).toNat = _
    rw [UInt64.toNat_shiftRight, hs, Nat.mod_eq_of_lt hj, BitVec.toNat_ushiftRight]
    rfl
  rw [← Int64.toBitVec_inj, Int64.toBitVec_and, e]
  show w.toBitVec >>> j &&& 1#64 = 0#64 ↔ _
  constructor
  · intro h
    have t := congrArg (fun x => x.getLsbD 0) h
    simpa using t
  · intro h
    apply BitVec.eq_of_getLsbD_eq
    intro i hi
    cases i with
    | zero => simp [h]
    | succ i => simp
theorem ts_or {w m : Int64} {j : Nat} (hj : j < 64) (hm : m.toBitVec = BitVec.twoPow 64 j) : (w ||| m) = w ↔ w.toBitVec.getLsbD j = true := by
  rw [← Int64.toBitVec_inj, Int64.toBitVec_or, hm]
  constructor
  · intro h
    have t := congrArg (fun x => x.getLsbD j) h
    simp only [BitVec.getLsbD_or, BitVec.getLsbD_twoPow] at t
    simpa [hj] using t.symm
  · intro h
    apply BitVec.eq_of_getLsbD_eq
    intro i hi
    rw [BitVec.getLsbD_or, BitVec.getLsbD_twoPow]
    by_cases e : j = i
    · subst e; rw [h, Bool.true_or]
    · simp [e]
theorem ts_and {w m : Int64} {j : Nat} (hj : j < 64) (hm : m.toBitVec = BitVec.twoPow 64 j) : (w &&& (m ^^^ (-1))) = w ↔ w.toBitVec.getLsbD j = false := by
  have ha : (-1 : Int64).toBitVec = BitVec.allOnes 64 := by decide
  rw [← Int64.toBitVec_inj, Int64.toBitVec_and, Int64.toBitVec_xor, hm, ha]
  constructor
  · intro h
    have t := congrArg (fun x => x.getLsbD j) h
    simp only [BitVec.getLsbD_and, BitVec.getLsbD_xor, BitVec.getLsbD_twoPow, BitVec.getLsbD_allOnes] at t
    simpa [hj] using t.symm
  · intro h
    apply BitVec.eq_of_getLsbD_eq
    intro i hi
    rw [BitVec.getLsbD_and, BitVec.getLsbD_xor, BitVec.getLsbD_twoPow, BitVec.getLsbD_allOnes]
    by_cases e : j = i
    · subst e; rw [h, Bool.false_and]
    · simp [e, hi]
theorem wb_c : ∀ k, k < 64 → ((nI k).toInt64 &&& 63) = lN k := by decide +kernel
theorem wb_cu : ∀ k, k < 64 → ((nI k).toInt64.toUInt64 &&& Int64.toUInt64 63) = UInt64.ofNat k := by decide +kernel
section CH
variable {S : Nat × (Nat → Int32)} {d : Nat} {x : mX} {I : rI0} {J : rJ0}
theorem lg_z {v : Int64} : lg_cmp v 0 = 0 ↔ v = 0 := by
  constructor
  · intro h
    unfold lg_cmp at h
    split at h
    · exact absurd h (by decide)
    · split at h
      · assumption
      · exact absurd h (by decide)
  · rintro rfl
    decide
def SB (v : Int64) (s : Nat) : Prop := v.toBitVec.getLsbD s = true
theorem u64n {s : Nat} (h : s < 64) : (UInt64.ofNat s).toNat = s := by
  rw [UInt64.toNat_ofNat']
  exact Nat.mod_eq_of_lt (by omega)
theorem lt_nat {p : Int32} {n : Nat} (hn : n < 2 ^ 31) (h0 : ¬ p < 0) (h1 : p < nI n) : ∃ s, s < n ∧ p = nI s := by
  obtain ⟨s, hs, e⟩ := i_nat hn h0 (fun z => by
    rw [Int32.lt_iff_toInt_lt] at z h1
    omega)
  rcases Nat.lt_or_ge s n with q | q
  · exact ⟨s, q, e⟩
  · rw [e] at h1
    exact absurd h1 (nI_nlt q (by omega))

theorem isSeatA_4 {p : Int32} {Q : Int32 → rI0 → rJ0 → Prop} (k0 : Q 0 I J) (k1 : ∀ s, s < 64 → p = nI s → SB (J 4 5) s → Q 1 I J) : wcI S d 24 [.ref 4, .int p] x I J Q := by
  refine c24_4 ⟨fun _ => k0, fun h0 => ⟨fun h1 => ⟨fun _ => k0, fun hb => ?_⟩, fun _ => k0⟩⟩
  obtain ⟨s, hs, e⟩ := lt_nat (n := 64) (by omega) h0 h1
  refine k1 s hs e ?_
  rw [e, wb_cu s hs] at hb
  exact ts_nf (fun hf => hb (lg_z.mpr ((ts_bit hs (u64n hs)).mpr hf)))
theorem rowOfA_4 {p : Int32} {Q : Int32 → rI0 → rJ0 → Prop} (h0 : RB (I 4 0) 8) (h1 : RB (I 4 1) 8) (k : ∀ r, RB r 7 → Q r I J) : wcI S (d + 1) 25 [.ref 4, .int p] x I J Q := by
  have k0 : Q 0 I J := k 0 ⟨0, by omega, rfl⟩
  obtain ⟨R, hR, eR⟩ := h0
  obtain ⟨C, hC, eC⟩ := h1
  have hRC : R * C ≤ 64 := Nat.le_trans (Nat.mul_le_mul hR hC) (by omega)
  refine c25_4 ⟨fun hc => ⟨fun _ => k0, fun hp => c23_4 ⟨fun hl => ⟨?_, ?_⟩, fun _ => k0⟩⟩, fun _ => k0⟩
  · intro z
    rw [z] at hc
    exact absurd hc (by decide)
  · rw [eR, eC, nI_mu] at hl
    rw [eC] at hc ⊢
    obtain ⟨u, hu, e⟩ := lt_nat (n := R * C) (by omega) hp hl
    have h0C : 0 < C := by
      rcases C with _ | C
      · exact absurd hc (by decide)
      · omega
    rw [e, pk_div (by omega) h0C (by omega)]
    have : u / C < R := Nat.div_lt_of_lt_mul (by rw [Nat.mul_comm]; exact hu)
    exact k _ ⟨u / C, by omega, rfl⟩
theorem setKind_lp_4 {l1 l2 : Int32} {t : Nat} {Q : rI0 → rJ0 → Prop} (ht : t < 64) (e : l1 = nI t) : ∀ (m c : Nat) (J : rJ0), c + m = 6 → (∀ J', (∀ b, b ≠ 6 → J' b = J b) → Q (mSet I 5 t l2) J') → wp S (d + 1) 31 2 [some (.ref 4), some (.int l1), some (.int l2), some (.int (nI c))] [] (wv x I J) (rV x Q) := by
  intro m
  induction m with
  | zero =>
    intro c J hc k
    have hc : c = 6 := by omega
    subst hc
    refine v31_4_2 ⟨fun q => absurd q (by decide), fun _ => ?_⟩
    rw [e]
    refine ⟨nI_in ht (by omega), ?_⟩
    rw [nI_clamp (by omega)]
    exact k J (fun _ _ => rfl)
  | succ m ih =>
    intro c J hc k
    have hin : ¬ mOut (nI c) 6 := nI_in (by omega) (by omega)
    refine v31_4_2 ⟨fun _ => ⟨hin, fun _ => wbA (fun v => ⟨hin, ?_⟩), fun _ => wbA (fun v => ⟨hin, ?_⟩)⟩, fun q => absurd (nI_lt (by omega) (by omega) : nI c < nI 6) q⟩
    · rw [← nI_succ]
      exact ih (c + 1) _ (by omega) (fun J' o => k J' (fun b hb => (o b hb).trans (mSet_ne hb)))
    · rw [← nI_succ]
      exact ih (c + 1) _ (by omega) (fun J' o => k J' (fun b hb => (o b hb).trans (mSet_ne hb)))
theorem setKindA_4 {p1 p2 : Int32} {t : Nat} {Q : rI0 → rJ0 → Prop} (ht : t < 64) (e : p1 = nI t) (k : ∀ J', (∀ b, b ≠ 6 → J' b = J b) → Q (mSet I 5 t p2) J') : wcV S (d + 1) 31 [.ref 4, .int p1, .int p2] x I J Q := c31_4 (setKind_lp_4 ht e 6 0 J rfl k)

theorem isSeatA_16 {p : Int32} {Q : Int32 → rI0 → rJ0 → Prop} (k0 : Q 0 I J) (k1 : ∀ s, s < 64 → p = nI s → SB (J 16 5) s → Q 1 I J) : wcI S d 24 [.ref 16, .int p] x I J Q := by
  refine c24_16 ⟨fun _ => k0, fun h0 => ⟨fun h1 => ⟨fun _ => k0, fun hb => ?_⟩, fun _ => k0⟩⟩
  obtain ⟨s, hs, e⟩ := lt_nat (n := 64) (by omega) h0 h1
  refine k1 s hs e ?_
  rw [e, wb_cu s hs] at hb
  exact ts_nf (fun hf => hb (lg_z.mpr ((ts_bit hs (u64n hs)).mpr hf)))
theorem rowOfA_16 {p : Int32} {Q : Int32 → rI0 → rJ0 → Prop} (h0 : RB (I 16 0) 8) (h1 : RB (I 16 1) 8) (k : ∀ r, RB r 7 → Q r I J) : wcI S (d + 1) 25 [.ref 16, .int p] x I J Q := by
  have k0 : Q 0 I J := k 0 ⟨0, by omega, rfl⟩
  obtain ⟨R, hR, eR⟩ := h0
  obtain ⟨C, hC, eC⟩ := h1
  have hRC : R * C ≤ 64 := Nat.le_trans (Nat.mul_le_mul hR hC) (by omega)
  refine c25_16 ⟨fun hc => ⟨fun _ => k0, fun hp => c23_16 ⟨fun hl => ⟨?_, ?_⟩, fun _ => k0⟩⟩, fun _ => k0⟩
  · intro z
    rw [z] at hc
    exact absurd hc (by decide)
  · rw [eR, eC, nI_mu] at hl
    rw [eC] at hc ⊢
    obtain ⟨u, hu, e⟩ := lt_nat (n := R * C) (by omega) hp hl
    have h0C : 0 < C := by
      rcases C with _ | C
      · exact absurd hc (by decide)
      · omega
    rw [e, pk_div (by omega) h0C (by omega)]
    have : u / C < R := Nat.div_lt_of_lt_mul (by rw [Nat.mul_comm]; exact hu)
    exact k _ ⟨u / C, by omega, rfl⟩
theorem setKind_lp_16 {l1 l2 : Int32} {t : Nat} {Q : rI0 → rJ0 → Prop} (ht : t < 64) (e : l1 = nI t) : ∀ (m c : Nat) (J : rJ0), c + m = 6 → (∀ J', (∀ b, b ≠ 18 → J' b = J b) → Q (mSet I 17 t l2) J') → wp S (d + 1) 31 2 [some (.ref 16), some (.int l1), some (.int l2), some (.int (nI c))] [] (wv x I J) (rV x Q) := by
  intro m
  induction m with
  | zero =>
    intro c J hc k
    have hc : c = 6 := by omega
    subst hc
    refine v31_16_2 ⟨fun q => absurd q (by decide), fun _ => ?_⟩
    rw [e]
    refine ⟨nI_in ht (by omega), ?_⟩
    rw [nI_clamp (by omega)]
    exact k J (fun _ _ => rfl)
  | succ m ih =>
    intro c J hc k
    have hin : ¬ mOut (nI c) 6 := nI_in (by omega) (by omega)
    refine v31_16_2 ⟨fun _ => ⟨hin, fun _ => wbA (fun v => ⟨hin, ?_⟩), fun _ => wbA (fun v => ⟨hin, ?_⟩)⟩, fun q => absurd (nI_lt (by omega) (by omega) : nI c < nI 6) q⟩
    · rw [← nI_succ]
      exact ih (c + 1) _ (by omega) (fun J' o => k J' (fun b hb => (o b hb).trans (mSet_ne hb)))
    · rw [← nI_succ]
      exact ih (c + 1) _ (by omega) (fun J' o => k J' (fun b hb => (o b hb).trans (mSet_ne hb)))
theorem setKindA_16 {p1 p2 : Int32} {t : Nat} {Q : rI0 → rJ0 → Prop} (ht : t < 64) (e : p1 = nI t) (k : ∀ J', (∀ b, b ≠ 18 → J' b = J b) → Q (mSet I 17 t p2) J') : wcV S (d + 1) 31 [.ref 16, .int p1, .int p2] x I J Q := c31_16 (setKind_lp_16 ht e 6 0 J rfl k)

theorem priceOfA {p : Int32} {Q : Int32 → rI0 → rJ0 → Prop} (h0 : RB (I 4 0) 8) (h1 : RB (I 4 1) 8) (k : ∀ v, Q v I J) : wcI S (d + 2) 26 [.ref 4, .int p] x I J Q := c26_4 (rowOfA_4 h0 h1 (fun r hr => ⟨hr.mo (by omega) (by omega), k _⟩))
theorem leavesOfA {p : Int32} {Q : Int32 → rI0 → rJ0 → Prop} (h0 : RB (I 4 0) 8) (h1 : RB (I 4 1) 8) (k : ∀ v, Q v I J) : wcI S (d + 2) 27 [.ref 4, .int p] x I J Q := c27_4 (rowOfA_4 h0 h1 (fun r hr => ⟨hr.mo (by omega) (by omega), k _⟩))
theorem exchangeA {p1 p2 : Int32} {s t : Nat} {Q : rI0 → rJ0 → Prop} (hs : s < 64) (ht : t < 64) (e1 : p1 = nI s) (e2 : p2 = nI t) (k : ∀ J', (∀ b, b ≠ 6 → J' b = J b) → Q (mSet (mSet I 5 s (I 5 t)) 5 t (I 5 s)) J') : wcV S (d + 2) 30 [.ref 4, .int p1, .int p2] x I J Q := by
  subst e1
  subst e2
  refine c30_4 ⟨nI_in hs (by omega), nI_in ht (by omega), ?_⟩
  rw [nI_clamp (by omega), nI_clamp (by omega)]
  exact setKindA_4 hs rfl (fun J1 o1 => setKindA_4 ht rfl (fun J2 o2 => k J2 (fun b hb => (o2 b hb).trans (o1 b hb))))
end CH
