/-! THE CLASS'S NIGHTS, OVER ANY STATE WITHIN ITS BOUNDS -/
section CN
variable {S : Nat × (Nat → Int32)} {d : Nat} {x : mX} {I : rI0} {J : rJ0}
def RB (v : Int32) (n : Nat) : Prop := ∃ k, k ≤ n ∧ v = nI k
theorem RB.mo {v : Int32} {n m : Nat} (h : RB v n) (hn : n < m) (hm : m < 2 ^ 31) : ¬ mOut v m := by
  obtain ⟨k, hk, rfl⟩ := h
  exact nI_in (by omega) hm
theorem RB.le {v : Int32} {n m : Nat} (h : RB v n) (hn : n ≤ m) : RB v m := by
  obtain ⟨k, hk, rfl⟩ := h
  exact ⟨k, by omega, rfl⟩
theorem RB.lt {v : Int32} {n m : Nat} (h : RB v n) (hn : n < 2 ^ 31) (hm : m < 2 ^ 31) (hl : v < nI m) : ∃ k, k < m ∧ v = nI k := by
  obtain ⟨k, hk, rfl⟩ := h
  rcases Nat.lt_or_ge k m with z | z
  · exact ⟨k, z, rfl⟩
  · exact absurd hl (nI_nlt z (by omega))
theorem nI_bv {v : Int32} {k : Nat} (h : v.toBitVec.toNat = k) : v = nI k := by
  rw [← Int32.toBitVec_inj]
  apply BitVec.eq_of_toNat_eq
  rw [h]
  have hk : k < 2 ^ 32 := h ▸ v.toBitVec.isLt
  show k = (BitVec.ofNat 32 k).toNat
  rw [BitVec.toNat_ofNat, Nat.mod_eq_of_lt hk]
theorem rb_and (v : Int32) {m : Int32} (k n : Nat) (hm : m.toBitVec.toNat = 2 ^ k - 1) (hn : 2 ^ k - 1 ≤ n) : RB (v &&& m) n := by
  obtain ⟨j, hj, e⟩ := pk_andE v k hm
  exact ⟨j, by omega, e⟩
theorem rb_us (v s : Int32) (k n : Nat) (hs : ((s.toUInt32 &&& Int32.toUInt32 31).toBitVec % 32).toNat = k) (hn : 2 ^ 32 / 2 ^ k ≤ n) : RB ((v.toUInt32 >>> (s.toUInt32 &&& Int32.toUInt32 31)).toInt32) n := by
  refine ⟨_, ?_, nI_bv (pk_ushr v s k hs)⟩
  have h1 : v.toBitVec.toNat < 2 ^ 32 := v.toBitVec.isLt
  exact Nat.le_trans (Nat.div_le_div_right (Nat.le_of_lt h1)) hn
theorem nI_mu (p q : Nat) : nI p * nI q = nI (p * q) := (Int32.ofNat_mul p q).symm
theorem Off.rf {n : Nat} : Off n I J I J := ⟨fun _ _ => rfl, fun _ _ => rfl⟩
theorem Off.tr {n : Nat} {I1 I2 : rI0} {J1 J2 : rJ0} (h : Off n I J I1 J1) (h2 : Off n I1 J1 I2 J2) : Off n I J I2 J2 := ⟨fun b hb => (h2.1 b hb).trans (h.1 b hb), fun b hb => (h2.2 b hb).trans (h.2 b hb)⟩
theorem Off.si {n k : Nat} {v : Int32} : Off n I J (mSet I n k v) J := ⟨fun b hb => mSet_ne hb, fun _ _ => rfl⟩
theorem Off.sj {n k : Nat} {v : Int64} : Off n I J I (mSet J n k v) := ⟨fun _ _ => rfl, fun b hb => mSet_ne hb⟩
theorem bcA {p : Int64} {Q : Int32 → rI0 → rJ0 → Prop} (k : ∀ v, Q v I J) : wcI S d 250 [.long p] x I J Q := c250 (k _)
theorem wbA {p : Int64} {s q : Int32} {Q : Int64 → rI0 → rJ0 → Prop} (k : ∀ v, Q v I J) : wcJ S d 143 [.long p, .int s, .int q] x I J Q := c143 (k _)
theorem rsA {p : Int32} {Q : Int64 → rI0 → rJ0 → Prop} (k : ∀ v, Q v I J) : wcJ S d 28 [.ref 4, .int p] x I J Q := c28_4 (k _)

theorem doCues_lp_36 {Q : Int32 → rI0 → rJ0 → Prop} : ∀ (m c : Nat) (I : rI0) (J : rJ0) (l1 : Int32), c + m = 30 → I 36 3 = nI c → (l1 = 0 ∨ l1 = 1) → (∀ r I' J', (r = 0 ∨ r = 1) → Off 36 I J I' J' → RB (I' 36 3) 30 → Q r I' J') → wp S (d + 1) 56 2 [some (.ref 36), some (.int l1), none, none] [] (wv x I J) (rI x Q) := by
  intro m
  induction m with
  | zero =>
    intro c I J l1 hc h hl k
    have e : (l1 = 0 ∨ l1 = 1) ∧ Q l1 I J := ⟨hl, k l1 I J hl Off.rf ⟨c, by omega, h⟩⟩
    exact v56_36_2 ⟨fun _ => ⟨fun q => absurd q (by rw [h]; exact nI_nlt (b := 30) (by omega) (by omega)), fun _ => e⟩, fun _ => e⟩
  | succ m ih =>
    intro c I J l1 hc h hl k
    have e : (l1 = 0 ∨ l1 = 1) ∧ Q l1 I J := ⟨hl, k l1 I J hl Off.rf ⟨c, by omega, h⟩⟩
    have hin : ¬ mOut (I 36 3) 30 := by rw [h]; exact nI_in (by omega) (by omega)
    have go : ∀ (l2 l3 s2 s3 : Int32) (s1 : Int64), wp S (d + 1) 56 95 [some (.ref 36), some (.int l1), some (.int l2), some (.int l3)] [.int s3, .int s2, .long s1, .ref 36] (wv x I J) (rI x Q) := by
      intro l2 l3 s2 s3 s1
      refine v56_36_95 (wbA (fun r1 => ⟨fun _ => wbA (fun r2 => ?_), fun _ => wbA (fun r2 => ?_)⟩))
      · exact ih (c + 1) _ _ l1 (by omega) (by show I 36 3 + 1 = _; rw [h, nI_succ]) hl (fun r I' J' h1 h2 h3 => k r I' J' h1 ((Off.sj.tr Off.sj).tr (Off.si.tr h2)) h3)
      · exact ih (c + 1) _ _ l1 (by omega) (by show I 36 3 + 1 = _; rw [h, nI_succ]) hl (fun r I' J' h1 h2 h3 => k r I' J' h1 ((Off.sj.tr Off.sj).tr (Off.si.tr h2)) h3)
    refine v56_36_2 ⟨fun _ => ⟨fun _ => ⟨hin, fun _ => e, fun _ => ⟨hin, fun _ => ?_, fun _ => ⟨hin, fun _ => go _ _ _ _ _, fun _ => go _ _ _ _ _⟩⟩⟩, fun _ => e⟩, fun _ => e⟩
    exact ih (c + 1) _ _ 1 (by omega) (by show I 36 3 + 1 = _; rw [h, nI_succ]) (Or.inr rfl) (fun r I' J' h1 h2 h3 => k r I' J' h1 (Off.si.tr h2) h3)
theorem doCuesA_36 {Q : Int32 → rI0 → rJ0 → Prop} (h : RB (I 36 3) 30) (k : ∀ r I' J', (r = 0 ∨ r = 1) → Off 36 I J I' J' → RB (I' 36 3) 30 → Q r I' J') : wcI S (d + 1) 56 [.ref 36] x I J Q := by
  obtain ⟨c, hc, e⟩ := h
  exact c56_36 (doCues_lp_36 (30 - c) c I J 0 (by omega) e (Or.inl rfl) k)
theorem seeRows_lp_36 {R : Nat} {Q : rI0 → rJ0 → Prop} (hR : R ≤ 8) (h4 : I 4 0 = nI R) : ∀ (m c : Nat) (J : rJ0), c + m = R → (∀ J', Off 36 I J I J' → Q I J') → wp S (d + 1) 57 2 [some (.ref 36), some (.int (nI c))] [] (wv x I J) (rV x Q) := by
  intro m
  induction m with
  | zero =>
    intro c J hc k
    exact v57_36_2 ⟨fun q => absurd q (by rw [h4]; exact nI_nlt (by omega) (by omega)), fun _ => k J Off.rf⟩
  | succ m ih =>
    intro c J hc k
    refine v57_36_2 ⟨fun _ => ⟨nI_in (by omega) (by omega), fun _ => rsA (fun v => ?_), fun _ => ?_⟩, fun q => absurd (by rw [h4]; exact nI_lt (by omega) (by omega)) q⟩
    · rw [← nI_succ]
      exact ih (c + 1) _ (by omega) (fun J' o => k J' (Off.sj.tr o))
    · rw [← nI_succ]
      exact ih (c + 1) _ (by omega) k
theorem seeRowsA_36 {Q : rI0 → rJ0 → Prop} (h : RB (I 4 0) 8) (k : ∀ J', Off 36 I J I J' → Q I J') : wcV S (d + 1) 57 [.ref 36] x I J Q := by
  obtain ⟨R, hR, e⟩ := h
  exact c57_36 (seeRows_lp_36 hR e R 0 J (by omega) k)
theorem standingA_36 {Q : Int64 → rI0 → rJ0 → Prop} (k : ∀ v, Q v I J) : wcJ S d 58 [.ref 36] x I J Q := c58_36 ⟨fun _ => k _, fun _ => k _⟩
theorem levelA_36 {p q : Int32} {Q : Int64 → rI0 → rJ0 → Prop} (k : ∀ v, Q v I J) : wcJ S d 63 [.ref 36, .int p, .int q] x I J Q := by
  have h3 : ∀ (l3 s0 s1 : Int64), wp S d 63 49 [some (.ref 36), some (.int p), some (.int q), some (.long l3), none] [.long s1, .long s0] (wv x I J) (rJ x Q) := fun l3 s0 s1 => v63_36_49 ⟨fun _ => k _, fun _ => ⟨fun _ => k _, fun _ => k _⟩⟩
  have h2 : ∀ (s0 : Int64), wp S d 63 20 [some (.ref 36), some (.int p), some (.int q), none, none] [.long s0] (wv x I J) (rJ x Q) := fun s0 => v63_36_20 ⟨fun _ => h3 _ _ _, fun _ => ⟨fun _ => h3 _ _ _, fun _ => h3 _ _ _⟩⟩
  exact c63_36 ⟨fun _ => h2 _, fun _ => ⟨fun _ => h2 _, fun _ => h2 _⟩⟩
theorem heldA_36 {p q : Int32} {Q : Int64 → rI0 → rJ0 → Prop} (k : ∀ v, Q v I J) : wcJ S d 64 [.ref 36, .int p, .int q] x I J Q := by
  have h4 : ∀ (l3 s0 s1 : Int64), wp S d 64 88 [some (.ref 36), some (.int p), some (.int q), some (.long l3), none] [.long s1, .long s0] (wv x I J) (rJ x Q) := fun l3 s0 s1 => v64_36_88 ⟨fun _ => k _, fun _ => ⟨fun _ => k _, fun _ => k _⟩⟩
  have h3 : ∀ (l3 s0 s1 : Int64), wp S d 64 58 [some (.ref 36), some (.int p), some (.int q), some (.long l3), none] [.long s1, .long s0] (wv x I J) (rJ x Q) := fun l3 s0 s1 => v64_36_58 ⟨fun _ => h4 _ _ _, fun _ => ⟨fun _ => h4 _ _ _, fun _ => h4 _ _ _⟩⟩
  have h2 : ∀ (s0 : Int64), wp S d 64 29 [some (.ref 36), some (.int p), some (.int q), none, none] [.long s0] (wv x I J) (rJ x Q) := fun s0 => v64_36_29 ⟨fun _ => h3 _ _ _, fun _ => ⟨fun _ => h3 _ _ _, fun _ => h3 _ _ _⟩⟩
  exact c64_36 ⟨fun _ => h2 _, fun _ => ⟨fun _ => h2 _, fun _ => h2 _⟩⟩
theorem area_lp_36 {l1 l4 l5 l6 l7 l8 l9 l10 : Int32} {l2 l11 : Int64} {Q : Int64 → rI0 → rJ0 → Prop} (h6 : RB l6 15) (k : ∀ v, Q v I J) : ∀ (m c : Nat) (l13 l15 : Int64), c + m = 64 → wp S (d + 1) 62 237 [some (.ref 36), some (.int l1), some (.long l2), none, some (.int l4), some (.int l5), some (.int l6), some (.int l7), some (.int l8), some (.int l9), some (.int l10), some (.long l11), none, some (.long l13), none, some (.long l15), none, some (.int (nI c)), none] [] (wv x I J) (rJ x Q) := by
  intro m
  induction m with
  | zero =>
    intro c l13 l15 hc
    have hc : c = 64 := by omega
    subst hc
    exact v62_36_237 ⟨fun q => absurd q (by decide), fun _ => k _⟩
  | succ m ih =>
    intro c l13 l15 hc
    have z : ∀ u v, wp S (d + 1) 62 237 [some (.ref 36), some (.int l1), some (.long l2), none, some (.int l4), some (.int l5), some (.int l6), some (.int l7), some (.int l8), some (.int l9), some (.int l10), some (.long l11), none, some (.long u), none, some (.long v), none, some (.int (nI c + 1)), none] [] (wv x I J) (rJ x Q) := fun u v => by
      rw [← nI_succ]
      exact ih (c + 1) u v (by omega)
    refine v62_36_237 ⟨fun _ => ⟨fun q6 => ⟨fun _ => k _, fun _ => ⟨fun _ => z _ _, fun _ => ⟨?_, bcA (fun r => ⟨fun _ => z _ _, fun _ => ⟨fun _ => z _ _, fun _ => z _ _⟩⟩)⟩⟩⟩, fun _ => k _⟩, fun q => absurd (nI_lt (by omega) (by omega) : nI c < nI 64) q⟩
    obtain ⟨u, hu, e⟩ := h6.lt (m := 6) (by omega) (by omega) q6
    rw [e]
    show ¬ mOut (nI u * nI 64 + nI c) 384
    rw [nI_mu, nI_add]
    exact nI_in (by omega) (by omega)
theorem hold166_36 {l1 l4 l5 l6 l7 l8 l9 s0 : Int32} {l2 : Int64} {Q : Int64 → rI0 → rJ0 → Prop} (h6 : RB l6 15) (k : ∀ v, Q v I J) : wp S (d + 1) 62 166 [some (.ref 36), some (.int l1), some (.long l2), none, some (.int l4), some (.int l5), some (.int l6), some (.int l7), some (.int l8), some (.int l9), none, none, none, none, none, none, none, none, none] [.int s0] (wv x I J) (rJ x Q) :=
  v62_36_166 ⟨fun _ => levelA_36 (fun v => k _), fun _ => ⟨fun _ => heldA_36 (fun v => k _), fun _ => ⟨fun _ => area_lp_36 h6 k 64 0 _ _ rfl, fun _ => area_lp_36 h6 k 64 0 _ _ rfl⟩⟩⟩
theorem join_lp_36 {l1 l2 l5 : Int32} {l3 : Int64} {Q : Int64 → rI0 → rJ0 → Prop} (h62 : ∀ (p1 : Int32) (p2 : Int64) {Q' : Int64 → rI0 → rJ0 → Prop}, (∀ v, Q' v I J) → wcJ S d 62 [.ref 36, .int p1, .long p2, .int l5] x I J Q') (k : ∀ v, Q v I J) : ∀ (m c : Nat) (l6 l8 : Int64) (l10 : Int32), c + m = 20 → RB l10 100000 → wp S (d + 1) 61 31 [some (.ref 36), some (.int l1), some (.int l2), some (.long l3), none, some (.int l5), some (.long l6), none, some (.long l8), none, some (.int l10), some (.int (nI c))] [] (wv x I J) (rJ x Q) := by
  intro m
  induction m with
  | zero =>
    intro c l6 l8 l10 hc h
    have hc : c = 20 := by omega
    subst hc
    exact v61_36_31 ⟨fun q => absurd q (by decide), fun _ => k _⟩
  | succ m ih =>
    intro c l6 l8 l10 hc h
    have go : l10 < 240 → ∀ (l6 l8 : Int64), wp S (d + 1) 61 94 [some (.ref 36), some (.int l1), some (.int l2), some (.long l3), none, some (.int l5), some (.long l6), none, some (.long l8), none, some (.int l10), some (.int (nI c))] [] (wv x I J) (rJ x Q) := by
      intro hl l6 l8
      obtain ⟨u, hu, rfl⟩ := h.lt (m := 240) (by omega) (by omega) hl
      refine v61_36_94 (h62 _ _ (fun v => ⟨nI_in (by omega) (by omega), ?_⟩))
      obtain ⟨w, hw, ew⟩ := rb_us (I 10 (nI u).toNatClampNeg) 19 19 8192 (by decide) (by decide)
      rw [ew, nI_add, ← nI_succ]
      exact ih (c + 1) _ _ _ (by omega) ⟨u + w, by omega, rfl⟩
    exact v61_36_31 ⟨fun _ => ⟨fun _ => ⟨fun hl => ⟨by obtain ⟨u, hu, rfl⟩ := h.lt (m := 240) (by omega) (by omega) hl; exact nI_in (by omega) (by omega), fun _ => go hl _ _, fun _ => go hl _ _⟩, fun _ => k _⟩, fun _ => k _⟩, fun q => absurd (nI_lt (by omega) (by omega) : nI c < nI 20) q⟩
theorem joinA_36 {t : Nat} {p1 p2 : Int32} {p3 : Int64} {Q : Int64 → rI0 → rJ0 → Prop} (h62 : ∀ (p1 : Int32) (p2 : Int64) {Q' : Int64 → rI0 → rJ0 → Prop}, (∀ v, Q' v I J) → wcJ S d 62 [.ref 36, .int p1, .long p2, .int (nI t)] x I J Q') (h1 : RB p1 100000) (k : ∀ v, Q v I J) : wcJ S (d + 1) 61 [.ref 36, .int p1, .int p2, .long p3, .int (nI t)] x I J Q :=
  c61_36 ⟨fun _ => k _, fun _ => ⟨fun _ => ⟨fun _ => k _, fun _ => join_lp_36 h62 k 20 0 _ _ _ rfl h1⟩, fun _ => k _⟩⟩
theorem holdA_36 : ∀ (m d t : Nat), t + m = 9 → ∀ (p1 : Int32) (p2 : Int64) {Q : Int64 → rI0 → rJ0 → Prop}, (∀ v, Q v I J) → wcJ S (d + 2 * m + 1) 62 [.ref 36, .int p1, .long p2, .int (nI t)] x I J Q := by
  intro m
  induction m with
  | zero =>
    intro d t ht p1 p2 Q k
    have ht : t = 9 := by omega
    subst ht
    exact c62_36 ⟨fun _ => k _, fun _ => ⟨fun _ => k _, fun q => absurd (by decide) q⟩⟩
  | succ m ih =>
    intro d t ht p1 p2 Q k
    show wcJ S ((d + 2 * (m + 1)) + 1) 62 _ x I J Q
    refine c62_36 ⟨fun _ => k _, fun _ => ⟨fun _ => k _, fun _ => ⟨fun _ => k _, fun h0 => ⟨fun hl => ?_, fun _ => k _⟩⟩⟩⟩
    obtain ⟨u, hu, e⟩ := i_nat (n := 239) (by omega) h0 (fun z => absurd hl (fun q => by
      rw [Int32.lt_iff_toInt_lt] at q z
      have e1 : (nI 239).toInt = 239 := by decide
      have e2 : (240 : Int32).toInt = 240 := by decide
      omega))
    have h15 : RB ((((I 10 p1.toNatClampNeg).toUInt32 >>> ((14 : Int32).toUInt32 &&& Int32.toUInt32 31)).toInt32) &&& (15 : Int32)) 15 := rb_and _ 4 15 (by decide) (by decide)
    have hin : ¬ mOut p1 240 := by rw [e]; exact nI_in (by omega) (by omega)
    have r62 : ∀ (q1 : Int32) (q2 : Int64) {Q' : Int64 → rI0 → rJ0 → Prop}, (∀ v, Q' v I J) → wcJ S (d + 2 * m + 1) 62 [.ref 36, .int q1, .long q2, .int (nI (t + 1))] x I J Q' := fun q1 q2 Q' kk => ih d (t + 1) (by omega) q1 q2 kk
    have r62' : ∀ (q1 : Int32) (q2 : Int64) {Q' : Int64 → rI0 → rJ0 → Prop}, (∀ v, Q' v I J) → wcJ S (d + 2 * (m + 1)) 62 [.ref 36, .int q1, .long q2, .int (nI t + 1)] x I J Q' := fun q1 q2 Q' kk => by
      have z := ih (d + 1) (t + 1) (by omega) q1 q2 kk
      rw [nI_succ] at z
      rw [show d + 2 * (m + 1) = d + 1 + 2 * m + 1 by omega]
      exact z
    have r61 : ∀ (q1 q2 : Int32) (q3 : Int64) {Q' : Int64 → rI0 → rJ0 → Prop}, RB q1 100000 → (∀ v, Q' v I J) → wcJ S (d + 2 * (m + 1)) 61 [.ref 36, .int q1, .int q2, .long q3, .int (nI t + 1)] x I J Q' := fun q1 q2 q3 Q' hq kk => by
      have z := joinA_36 (t := t + 1) (p2 := q2) (p3 := q3) r62 hq kk
      rw [nI_succ] at z
      exact z
    refine ⟨hin, fun _ => r62' _ _ (fun v => k _), fun _ => ⟨fun _ => r61 _ _ _ ?_ (fun v => k _), fun _ => ?_⟩⟩
    · rw [e, ← nI_succ]
      exact ⟨u + 1, by omega, rfl⟩
    · have z : ∀ (a7 a8 a9 b0 : Int32), wp S (d + 2 * (m + 1) + 1) 62 166 [some (.ref 36), some (.int p1), some (.long p2), none, some (.int (nI t)), some (.int (I 10 p1.toNatClampNeg)), some (.int ((((I 10 p1.toNatClampNeg).toUInt32 >>> ((14 : Int32).toUInt32 &&& Int32.toUInt32 31)).toInt32) &&& (15 : Int32))), some (.int a7), some (.int a8), some (.int a9), none, none, none, none, none, none, none, none, none] [.int b0] (wv x I J) (rJ x Q) := fun a7 a8 a9 b0 => hold166_36 h15 k
      repeat' first | exact z _ _ _ _ | refine ⟨fun _ => ?_, fun _ => ?_⟩
theorem joinedA_36 {p1 p2 : Int32} {p3 : Int64} {Q : Int64 → rI0 → rJ0 → Prop} (h1 : RB p1 100000) (k : ∀ v, Q v I J) : wcJ S (d + 20) 61 [.ref 36, .int p1, .int p2, .long p3, .int (1 : Int32)] x I J Q :=
  joinA_36 (d := d + 19) (t := 1) (fun q1 q2 Q' kk => by
    have z := holdA_36 (S := S) (x := x) 8 (d + 2) 1 rfl q1 q2 kk
    exact z) h1 k

theorem doCues_lp_41 {Q : Int32 → rI0 → rJ0 → Prop} : ∀ (m c : Nat) (I : rI0) (J : rJ0) (l1 : Int32), c + m = 30 → I 41 3 = nI c → (l1 = 0 ∨ l1 = 1) → (∀ r I' J', (r = 0 ∨ r = 1) → Off 41 I J I' J' → RB (I' 41 3) 30 → Q r I' J') → wp S (d + 1) 56 2 [some (.ref 41), some (.int l1), none, none] [] (wv x I J) (rI x Q) := by
  intro m
  induction m with
  | zero =>
    intro c I J l1 hc h hl k
    have e : (l1 = 0 ∨ l1 = 1) ∧ Q l1 I J := ⟨hl, k l1 I J hl Off.rf ⟨c, by omega, h⟩⟩
    exact v56_41_2 ⟨fun _ => ⟨fun q => absurd q (by rw [h]; exact nI_nlt (b := 30) (by omega) (by omega)), fun _ => e⟩, fun _ => e⟩
  | succ m ih =>
    intro c I J l1 hc h hl k
    have e : (l1 = 0 ∨ l1 = 1) ∧ Q l1 I J := ⟨hl, k l1 I J hl Off.rf ⟨c, by omega, h⟩⟩
    have hin : ¬ mOut (I 41 3) 30 := by rw [h]; exact nI_in (by omega) (by omega)
    have go : ∀ (l2 l3 s2 s3 : Int32) (s1 : Int64), wp S (d + 1) 56 95 [some (.ref 41), some (.int l1), some (.int l2), some (.int l3)] [.int s3, .int s2, .long s1, .ref 41] (wv x I J) (rI x Q) := by
      intro l2 l3 s2 s3 s1
      refine v56_41_95 (wbA (fun r1 => ⟨fun _ => wbA (fun r2 => ?_), fun _ => wbA (fun r2 => ?_)⟩))
      · exact ih (c + 1) _ _ l1 (by omega) (by show I 41 3 + 1 = _; rw [h, nI_succ]) hl (fun r I' J' h1 h2 h3 => k r I' J' h1 ((Off.sj.tr Off.sj).tr (Off.si.tr h2)) h3)
      · exact ih (c + 1) _ _ l1 (by omega) (by show I 41 3 + 1 = _; rw [h, nI_succ]) hl (fun r I' J' h1 h2 h3 => k r I' J' h1 ((Off.sj.tr Off.sj).tr (Off.si.tr h2)) h3)
    refine v56_41_2 ⟨fun _ => ⟨fun _ => ⟨hin, fun _ => e, fun _ => ⟨hin, fun _ => ?_, fun _ => ⟨hin, fun _ => go _ _ _ _ _, fun _ => go _ _ _ _ _⟩⟩⟩, fun _ => e⟩, fun _ => e⟩
    exact ih (c + 1) _ _ 1 (by omega) (by show I 41 3 + 1 = _; rw [h, nI_succ]) (Or.inr rfl) (fun r I' J' h1 h2 h3 => k r I' J' h1 (Off.si.tr h2) h3)
theorem doCuesA_41 {Q : Int32 → rI0 → rJ0 → Prop} (h : RB (I 41 3) 30) (k : ∀ r I' J', (r = 0 ∨ r = 1) → Off 41 I J I' J' → RB (I' 41 3) 30 → Q r I' J') : wcI S (d + 1) 56 [.ref 41] x I J Q := by
  obtain ⟨c, hc, e⟩ := h
  exact c56_41 (doCues_lp_41 (30 - c) c I J 0 (by omega) e (Or.inl rfl) k)
theorem seeRows_lp_41 {R : Nat} {Q : rI0 → rJ0 → Prop} (hR : R ≤ 8) (h4 : I 4 0 = nI R) : ∀ (m c : Nat) (J : rJ0), c + m = R → (∀ J', Off 41 I J I J' → Q I J') → wp S (d + 1) 57 2 [some (.ref 41), some (.int (nI c))] [] (wv x I J) (rV x Q) := by
  intro m
  induction m with
  | zero =>
    intro c J hc k
    exact v57_41_2 ⟨fun q => absurd q (by rw [h4]; exact nI_nlt (by omega) (by omega)), fun _ => k J Off.rf⟩
  | succ m ih =>
    intro c J hc k
    refine v57_41_2 ⟨fun _ => ⟨nI_in (by omega) (by omega), fun _ => rsA (fun v => ?_), fun _ => ?_⟩, fun q => absurd (by rw [h4]; exact nI_lt (by omega) (by omega)) q⟩
    · rw [← nI_succ]
      exact ih (c + 1) _ (by omega) (fun J' o => k J' (Off.sj.tr o))
    · rw [← nI_succ]
      exact ih (c + 1) _ (by omega) k
theorem seeRowsA_41 {Q : rI0 → rJ0 → Prop} (h : RB (I 4 0) 8) (k : ∀ J', Off 41 I J I J' → Q I J') : wcV S (d + 1) 57 [.ref 41] x I J Q := by
  obtain ⟨R, hR, e⟩ := h
  exact c57_41 (seeRows_lp_41 hR e R 0 J (by omega) k)
theorem standingA_41 {Q : Int64 → rI0 → rJ0 → Prop} (k : ∀ v, Q v I J) : wcJ S d 58 [.ref 41] x I J Q := c58_41 ⟨fun _ => k _, fun _ => k _⟩
theorem levelA_41 {p q : Int32} {Q : Int64 → rI0 → rJ0 → Prop} (k : ∀ v, Q v I J) : wcJ S d 63 [.ref 41, .int p, .int q] x I J Q := by
  have h3 : ∀ (l3 s0 s1 : Int64), wp S d 63 49 [some (.ref 41), some (.int p), some (.int q), some (.long l3), none] [.long s1, .long s0] (wv x I J) (rJ x Q) := fun l3 s0 s1 => v63_41_49 ⟨fun _ => k _, fun _ => ⟨fun _ => k _, fun _ => k _⟩⟩
  have h2 : ∀ (s0 : Int64), wp S d 63 20 [some (.ref 41), some (.int p), some (.int q), none, none] [.long s0] (wv x I J) (rJ x Q) := fun s0 => v63_41_20 ⟨fun _ => h3 _ _ _, fun _ => ⟨fun _ => h3 _ _ _, fun _ => h3 _ _ _⟩⟩
  exact c63_41 ⟨fun _ => h2 _, fun _ => ⟨fun _ => h2 _, fun _ => h2 _⟩⟩
theorem heldA_41 {p q : Int32} {Q : Int64 → rI0 → rJ0 → Prop} (k : ∀ v, Q v I J) : wcJ S d 64 [.ref 41, .int p, .int q] x I J Q := by
  have h4 : ∀ (l3 s0 s1 : Int64), wp S d 64 88 [some (.ref 41), some (.int p), some (.int q), some (.long l3), none] [.long s1, .long s0] (wv x I J) (rJ x Q) := fun l3 s0 s1 => v64_41_88 ⟨fun _ => k _, fun _ => ⟨fun _ => k _, fun _ => k _⟩⟩
  have h3 : ∀ (l3 s0 s1 : Int64), wp S d 64 58 [some (.ref 41), some (.int p), some (.int q), some (.long l3), none] [.long s1, .long s0] (wv x I J) (rJ x Q) := fun l3 s0 s1 => v64_41_58 ⟨fun _ => h4 _ _ _, fun _ => ⟨fun _ => h4 _ _ _, fun _ => h4 _ _ _⟩⟩
  have h2 : ∀ (s0 : Int64), wp S d 64 29 [some (.ref 41), some (.int p), some (.int q), none, none] [.long s0] (wv x I J) (rJ x Q) := fun s0 => v64_41_29 ⟨fun _ => h3 _ _ _, fun _ => ⟨fun _ => h3 _ _ _, fun _ => h3 _ _ _⟩⟩
  exact c64_41 ⟨fun _ => h2 _, fun _ => ⟨fun _ => h2 _, fun _ => h2 _⟩⟩
theorem area_lp_41 {l1 l4 l5 l6 l7 l8 l9 l10 : Int32} {l2 l11 : Int64} {Q : Int64 → rI0 → rJ0 → Prop} (h6 : RB l6 15) (k : ∀ v, Q v I J) : ∀ (m c : Nat) (l13 l15 : Int64), c + m = 64 → wp S (d + 1) 62 237 [some (.ref 41), some (.int l1), some (.long l2), none, some (.int l4), some (.int l5), some (.int l6), some (.int l7), some (.int l8), some (.int l9), some (.int l10), some (.long l11), none, some (.long l13), none, some (.long l15), none, some (.int (nI c)), none] [] (wv x I J) (rJ x Q) := by
  intro m
  induction m with
  | zero =>
    intro c l13 l15 hc
    have hc : c = 64 := by omega
    subst hc
    exact v62_41_237 ⟨fun q => absurd q (by decide), fun _ => k _⟩
  | succ m ih =>
    intro c l13 l15 hc
    have z : ∀ u v, wp S (d + 1) 62 237 [some (.ref 41), some (.int l1), some (.long l2), none, some (.int l4), some (.int l5), some (.int l6), some (.int l7), some (.int l8), some (.int l9), some (.int l10), some (.long l11), none, some (.long u), none, some (.long v), none, some (.int (nI c + 1)), none] [] (wv x I J) (rJ x Q) := fun u v => by
      rw [← nI_succ]
      exact ih (c + 1) u v (by omega)
    refine v62_41_237 ⟨fun _ => ⟨fun q6 => ⟨fun _ => k _, fun _ => ⟨fun _ => z _ _, fun _ => ⟨?_, bcA (fun r => ⟨fun _ => z _ _, fun _ => ⟨fun _ => z _ _, fun _ => z _ _⟩⟩)⟩⟩⟩, fun _ => k _⟩, fun q => absurd (nI_lt (by omega) (by omega) : nI c < nI 64) q⟩
    obtain ⟨u, hu, e⟩ := h6.lt (m := 6) (by omega) (by omega) q6
    rw [e]
    show ¬ mOut (nI u * nI 64 + nI c) 384
    rw [nI_mu, nI_add]
    exact nI_in (by omega) (by omega)
theorem hold166_41 {l1 l4 l5 l6 l7 l8 l9 s0 : Int32} {l2 : Int64} {Q : Int64 → rI0 → rJ0 → Prop} (h6 : RB l6 15) (k : ∀ v, Q v I J) : wp S (d + 1) 62 166 [some (.ref 41), some (.int l1), some (.long l2), none, some (.int l4), some (.int l5), some (.int l6), some (.int l7), some (.int l8), some (.int l9), none, none, none, none, none, none, none, none, none] [.int s0] (wv x I J) (rJ x Q) :=
  v62_41_166 ⟨fun _ => levelA_41 (fun v => k _), fun _ => ⟨fun _ => heldA_41 (fun v => k _), fun _ => ⟨fun _ => area_lp_41 h6 k 64 0 _ _ rfl, fun _ => area_lp_41 h6 k 64 0 _ _ rfl⟩⟩⟩
theorem join_lp_41 {l1 l2 l5 : Int32} {l3 : Int64} {Q : Int64 → rI0 → rJ0 → Prop} (h62 : ∀ (p1 : Int32) (p2 : Int64) {Q' : Int64 → rI0 → rJ0 → Prop}, (∀ v, Q' v I J) → wcJ S d 62 [.ref 41, .int p1, .long p2, .int l5] x I J Q') (k : ∀ v, Q v I J) : ∀ (m c : Nat) (l6 l8 : Int64) (l10 : Int32), c + m = 20 → RB l10 100000 → wp S (d + 1) 61 31 [some (.ref 41), some (.int l1), some (.int l2), some (.long l3), none, some (.int l5), some (.long l6), none, some (.long l8), none, some (.int l10), some (.int (nI c))] [] (wv x I J) (rJ x Q) := by
  intro m
  induction m with
  | zero =>
    intro c l6 l8 l10 hc h
    have hc : c = 20 := by omega
    subst hc
    exact v61_41_31 ⟨fun q => absurd q (by decide), fun _ => k _⟩
  | succ m ih =>
    intro c l6 l8 l10 hc h
    have go : l10 < 240 → ∀ (l6 l8 : Int64), wp S (d + 1) 61 94 [some (.ref 41), some (.int l1), some (.int l2), some (.long l3), none, some (.int l5), some (.long l6), none, some (.long l8), none, some (.int l10), some (.int (nI c))] [] (wv x I J) (rJ x Q) := by
      intro hl l6 l8
      obtain ⟨u, hu, rfl⟩ := h.lt (m := 240) (by omega) (by omega) hl
      refine v61_41_94 (h62 _ _ (fun v => ⟨nI_in (by omega) (by omega), ?_⟩))
      obtain ⟨w, hw, ew⟩ := rb_us (I 10 (nI u).toNatClampNeg) 19 19 8192 (by decide) (by decide)
      rw [ew, nI_add, ← nI_succ]
      exact ih (c + 1) _ _ _ (by omega) ⟨u + w, by omega, rfl⟩
    exact v61_41_31 ⟨fun _ => ⟨fun _ => ⟨fun hl => ⟨by obtain ⟨u, hu, rfl⟩ := h.lt (m := 240) (by omega) (by omega) hl; exact nI_in (by omega) (by omega), fun _ => go hl _ _, fun _ => go hl _ _⟩, fun _ => k _⟩, fun _ => k _⟩, fun q => absurd (nI_lt (by omega) (by omega) : nI c < nI 20) q⟩
theorem joinA_41 {t : Nat} {p1 p2 : Int32} {p3 : Int64} {Q : Int64 → rI0 → rJ0 → Prop} (h62 : ∀ (p1 : Int32) (p2 : Int64) {Q' : Int64 → rI0 → rJ0 → Prop}, (∀ v, Q' v I J) → wcJ S d 62 [.ref 41, .int p1, .long p2, .int (nI t)] x I J Q') (h1 : RB p1 100000) (k : ∀ v, Q v I J) : wcJ S (d + 1) 61 [.ref 41, .int p1, .int p2, .long p3, .int (nI t)] x I J Q :=
  c61_41 ⟨fun _ => k _, fun _ => ⟨fun _ => ⟨fun _ => k _, fun _ => join_lp_41 h62 k 20 0 _ _ _ rfl h1⟩, fun _ => k _⟩⟩
theorem holdA_41 : ∀ (m d t : Nat), t + m = 9 → ∀ (p1 : Int32) (p2 : Int64) {Q : Int64 → rI0 → rJ0 → Prop}, (∀ v, Q v I J) → wcJ S (d + 2 * m + 1) 62 [.ref 41, .int p1, .long p2, .int (nI t)] x I J Q := by
  intro m
  induction m with
  | zero =>
    intro d t ht p1 p2 Q k
    have ht : t = 9 := by omega
    subst ht
    exact c62_41 ⟨fun _ => k _, fun _ => ⟨fun _ => k _, fun q => absurd (by decide) q⟩⟩
  | succ m ih =>
    intro d t ht p1 p2 Q k
    show wcJ S ((d + 2 * (m + 1)) + 1) 62 _ x I J Q
    refine c62_41 ⟨fun _ => k _, fun _ => ⟨fun _ => k _, fun _ => ⟨fun _ => k _, fun h0 => ⟨fun hl => ?_, fun _ => k _⟩⟩⟩⟩
    obtain ⟨u, hu, e⟩ := i_nat (n := 239) (by omega) h0 (fun z => absurd hl (fun q => by
      rw [Int32.lt_iff_toInt_lt] at q z
      have e1 : (nI 239).toInt = 239 := by decide
      have e2 : (240 : Int32).toInt = 240 := by decide
      omega))
    have h15 : RB ((((I 10 p1.toNatClampNeg).toUInt32 >>> ((14 : Int32).toUInt32 &&& Int32.toUInt32 31)).toInt32) &&& (15 : Int32)) 15 := rb_and _ 4 15 (by decide) (by decide)
    have hin : ¬ mOut p1 240 := by rw [e]; exact nI_in (by omega) (by omega)
    have r62 : ∀ (q1 : Int32) (q2 : Int64) {Q' : Int64 → rI0 → rJ0 → Prop}, (∀ v, Q' v I J) → wcJ S (d + 2 * m + 1) 62 [.ref 41, .int q1, .long q2, .int (nI (t + 1))] x I J Q' := fun q1 q2 Q' kk => ih d (t + 1) (by omega) q1 q2 kk
    have r62' : ∀ (q1 : Int32) (q2 : Int64) {Q' : Int64 → rI0 → rJ0 → Prop}, (∀ v, Q' v I J) → wcJ S (d + 2 * (m + 1)) 62 [.ref 41, .int q1, .long q2, .int (nI t + 1)] x I J Q' := fun q1 q2 Q' kk => by
      have z := ih (d + 1) (t + 1) (by omega) q1 q2 kk
      rw [nI_succ] at z
      rw [show d + 2 * (m + 1) = d + 1 + 2 * m + 1 by omega]
      exact z
    have r61 : ∀ (q1 q2 : Int32) (q3 : Int64) {Q' : Int64 → rI0 → rJ0 → Prop}, RB q1 100000 → (∀ v, Q' v I J) → wcJ S (d + 2 * (m + 1)) 61 [.ref 41, .int q1, .int q2, .long q3, .int (nI t + 1)] x I J Q' := fun q1 q2 q3 Q' hq kk => by
      have z := joinA_41 (t := t + 1) (p2 := q2) (p3 := q3) r62 hq kk
      rw [nI_succ] at z
      exact z
    refine ⟨hin, fun _ => r62' _ _ (fun v => k _), fun _ => ⟨fun _ => r61 _ _ _ ?_ (fun v => k _), fun _ => ?_⟩⟩
    · rw [e, ← nI_succ]
      exact ⟨u + 1, by omega, rfl⟩
    · have z : ∀ (a7 a8 a9 b0 : Int32), wp S (d + 2 * (m + 1) + 1) 62 166 [some (.ref 41), some (.int p1), some (.long p2), none, some (.int (nI t)), some (.int (I 10 p1.toNatClampNeg)), some (.int ((((I 10 p1.toNatClampNeg).toUInt32 >>> ((14 : Int32).toUInt32 &&& Int32.toUInt32 31)).toInt32) &&& (15 : Int32))), some (.int a7), some (.int a8), some (.int a9), none, none, none, none, none, none, none, none, none] [.int b0] (wv x I J) (rJ x Q) := fun a7 a8 a9 b0 => hold166_41 h15 k
      repeat' first | exact z _ _ _ _ | refine ⟨fun _ => ?_, fun _ => ?_⟩
theorem joinedA_41 {p1 p2 : Int32} {p3 : Int64} {Q : Int64 → rI0 → rJ0 → Prop} (h1 : RB p1 100000) (k : ∀ v, Q v I J) : wcJ S (d + 20) 61 [.ref 41, .int p1, .int p2, .long p3, .int (1 : Int32)] x I J Q :=
  joinA_41 (d := d + 19) (t := 1) (fun q1 q2 Q' kk => by
    have z := holdA_41 (S := S) (x := x) 8 (d + 2) 1 rfl q1 q2 kk
    exact z) h1 k

theorem doCues_lp_42 {Q : Int32 → rI0 → rJ0 → Prop} : ∀ (m c : Nat) (I : rI0) (J : rJ0) (l1 : Int32), c + m = 30 → I 42 3 = nI c → (l1 = 0 ∨ l1 = 1) → (∀ r I' J', (r = 0 ∨ r = 1) → Off 42 I J I' J' → RB (I' 42 3) 30 → Q r I' J') → wp S (d + 1) 56 2 [some (.ref 42), some (.int l1), none, none] [] (wv x I J) (rI x Q) := by
  intro m
  induction m with
  | zero =>
    intro c I J l1 hc h hl k
    have e : (l1 = 0 ∨ l1 = 1) ∧ Q l1 I J := ⟨hl, k l1 I J hl Off.rf ⟨c, by omega, h⟩⟩
    exact v56_42_2 ⟨fun _ => ⟨fun q => absurd q (by rw [h]; exact nI_nlt (b := 30) (by omega) (by omega)), fun _ => e⟩, fun _ => e⟩
  | succ m ih =>
    intro c I J l1 hc h hl k
    have e : (l1 = 0 ∨ l1 = 1) ∧ Q l1 I J := ⟨hl, k l1 I J hl Off.rf ⟨c, by omega, h⟩⟩
    have hin : ¬ mOut (I 42 3) 30 := by rw [h]; exact nI_in (by omega) (by omega)
    have go : ∀ (l2 l3 s2 s3 : Int32) (s1 : Int64), wp S (d + 1) 56 95 [some (.ref 42), some (.int l1), some (.int l2), some (.int l3)] [.int s3, .int s2, .long s1, .ref 42] (wv x I J) (rI x Q) := by
      intro l2 l3 s2 s3 s1
      refine v56_42_95 (wbA (fun r1 => ⟨fun _ => wbA (fun r2 => ?_), fun _ => wbA (fun r2 => ?_)⟩))
      · exact ih (c + 1) _ _ l1 (by omega) (by show I 42 3 + 1 = _; rw [h, nI_succ]) hl (fun r I' J' h1 h2 h3 => k r I' J' h1 ((Off.sj.tr Off.sj).tr (Off.si.tr h2)) h3)
      · exact ih (c + 1) _ _ l1 (by omega) (by show I 42 3 + 1 = _; rw [h, nI_succ]) hl (fun r I' J' h1 h2 h3 => k r I' J' h1 ((Off.sj.tr Off.sj).tr (Off.si.tr h2)) h3)
    refine v56_42_2 ⟨fun _ => ⟨fun _ => ⟨hin, fun _ => e, fun _ => ⟨hin, fun _ => ?_, fun _ => ⟨hin, fun _ => go _ _ _ _ _, fun _ => go _ _ _ _ _⟩⟩⟩, fun _ => e⟩, fun _ => e⟩
    exact ih (c + 1) _ _ 1 (by omega) (by show I 42 3 + 1 = _; rw [h, nI_succ]) (Or.inr rfl) (fun r I' J' h1 h2 h3 => k r I' J' h1 (Off.si.tr h2) h3)
theorem doCuesA_42 {Q : Int32 → rI0 → rJ0 → Prop} (h : RB (I 42 3) 30) (k : ∀ r I' J', (r = 0 ∨ r = 1) → Off 42 I J I' J' → RB (I' 42 3) 30 → Q r I' J') : wcI S (d + 1) 56 [.ref 42] x I J Q := by
  obtain ⟨c, hc, e⟩ := h
  exact c56_42 (doCues_lp_42 (30 - c) c I J 0 (by omega) e (Or.inl rfl) k)
theorem seeRows_lp_42 {R : Nat} {Q : rI0 → rJ0 → Prop} (hR : R ≤ 8) (h4 : I 4 0 = nI R) : ∀ (m c : Nat) (J : rJ0), c + m = R → (∀ J', Off 42 I J I J' → Q I J') → wp S (d + 1) 57 2 [some (.ref 42), some (.int (nI c))] [] (wv x I J) (rV x Q) := by
  intro m
  induction m with
  | zero =>
    intro c J hc k
    exact v57_42_2 ⟨fun q => absurd q (by rw [h4]; exact nI_nlt (by omega) (by omega)), fun _ => k J Off.rf⟩
  | succ m ih =>
    intro c J hc k
    refine v57_42_2 ⟨fun _ => ⟨nI_in (by omega) (by omega), fun _ => rsA (fun v => ?_), fun _ => ?_⟩, fun q => absurd (by rw [h4]; exact nI_lt (by omega) (by omega)) q⟩
    · rw [← nI_succ]
      exact ih (c + 1) _ (by omega) (fun J' o => k J' (Off.sj.tr o))
    · rw [← nI_succ]
      exact ih (c + 1) _ (by omega) k
theorem seeRowsA_42 {Q : rI0 → rJ0 → Prop} (h : RB (I 4 0) 8) (k : ∀ J', Off 42 I J I J' → Q I J') : wcV S (d + 1) 57 [.ref 42] x I J Q := by
  obtain ⟨R, hR, e⟩ := h
  exact c57_42 (seeRows_lp_42 hR e R 0 J (by omega) k)
theorem standingA_42 {Q : Int64 → rI0 → rJ0 → Prop} (k : ∀ v, Q v I J) : wcJ S d 58 [.ref 42] x I J Q := c58_42 ⟨fun _ => k _, fun _ => k _⟩
theorem levelA_42 {p q : Int32} {Q : Int64 → rI0 → rJ0 → Prop} (k : ∀ v, Q v I J) : wcJ S d 63 [.ref 42, .int p, .int q] x I J Q := by
  have h3 : ∀ (l3 s0 s1 : Int64), wp S d 63 49 [some (.ref 42), some (.int p), some (.int q), some (.long l3), none] [.long s1, .long s0] (wv x I J) (rJ x Q) := fun l3 s0 s1 => v63_42_49 ⟨fun _ => k _, fun _ => ⟨fun _ => k _, fun _ => k _⟩⟩
  have h2 : ∀ (s0 : Int64), wp S d 63 20 [some (.ref 42), some (.int p), some (.int q), none, none] [.long s0] (wv x I J) (rJ x Q) := fun s0 => v63_42_20 ⟨fun _ => h3 _ _ _, fun _ => ⟨fun _ => h3 _ _ _, fun _ => h3 _ _ _⟩⟩
  exact c63_42 ⟨fun _ => h2 _, fun _ => ⟨fun _ => h2 _, fun _ => h2 _⟩⟩
theorem heldA_42 {p q : Int32} {Q : Int64 → rI0 → rJ0 → Prop} (k : ∀ v, Q v I J) : wcJ S d 64 [.ref 42, .int p, .int q] x I J Q := by
  have h4 : ∀ (l3 s0 s1 : Int64), wp S d 64 88 [some (.ref 42), some (.int p), some (.int q), some (.long l3), none] [.long s1, .long s0] (wv x I J) (rJ x Q) := fun l3 s0 s1 => v64_42_88 ⟨fun _ => k _, fun _ => ⟨fun _ => k _, fun _ => k _⟩⟩
  have h3 : ∀ (l3 s0 s1 : Int64), wp S d 64 58 [some (.ref 42), some (.int p), some (.int q), some (.long l3), none] [.long s1, .long s0] (wv x I J) (rJ x Q) := fun l3 s0 s1 => v64_42_58 ⟨fun _ => h4 _ _ _, fun _ => ⟨fun _ => h4 _ _ _, fun _ => h4 _ _ _⟩⟩
  have h2 : ∀ (s0 : Int64), wp S d 64 29 [some (.ref 42), some (.int p), some (.int q), none, none] [.long s0] (wv x I J) (rJ x Q) := fun s0 => v64_42_29 ⟨fun _ => h3 _ _ _, fun _ => ⟨fun _ => h3 _ _ _, fun _ => h3 _ _ _⟩⟩
  exact c64_42 ⟨fun _ => h2 _, fun _ => ⟨fun _ => h2 _, fun _ => h2 _⟩⟩
theorem area_lp_42 {l1 l4 l5 l6 l7 l8 l9 l10 : Int32} {l2 l11 : Int64} {Q : Int64 → rI0 → rJ0 → Prop} (h6 : RB l6 15) (k : ∀ v, Q v I J) : ∀ (m c : Nat) (l13 l15 : Int64), c + m = 64 → wp S (d + 1) 62 237 [some (.ref 42), some (.int l1), some (.long l2), none, some (.int l4), some (.int l5), some (.int l6), some (.int l7), some (.int l8), some (.int l9), some (.int l10), some (.long l11), none, some (.long l13), none, some (.long l15), none, some (.int (nI c)), none] [] (wv x I J) (rJ x Q) := by
  intro m
  induction m with
  | zero =>
    intro c l13 l15 hc
    have hc : c = 64 := by omega
    subst hc
    exact v62_42_237 ⟨fun q => absurd q (by decide), fun _ => k _⟩
  | succ m ih =>
    intro c l13 l15 hc
    have z : ∀ u v, wp S (d + 1) 62 237 [some (.ref 42), some (.int l1), some (.long l2), none, some (.int l4), some (.int l5), some (.int l6), some (.int l7), some (.int l8), some (.int l9), some (.int l10), some (.long l11), none, some (.long u), none, some (.long v), none, some (.int (nI c + 1)), none] [] (wv x I J) (rJ x Q) := fun u v => by
      rw [← nI_succ]
      exact ih (c + 1) u v (by omega)
    refine v62_42_237 ⟨fun _ => ⟨fun q6 => ⟨fun _ => k _, fun _ => ⟨fun _ => z _ _, fun _ => ⟨?_, bcA (fun r => ⟨fun _ => z _ _, fun _ => ⟨fun _ => z _ _, fun _ => z _ _⟩⟩)⟩⟩⟩, fun _ => k _⟩, fun q => absurd (nI_lt (by omega) (by omega) : nI c < nI 64) q⟩
    obtain ⟨u, hu, e⟩ := h6.lt (m := 6) (by omega) (by omega) q6
    rw [e]
    show ¬ mOut (nI u * nI 64 + nI c) 384
    rw [nI_mu, nI_add]
    exact nI_in (by omega) (by omega)
theorem hold166_42 {l1 l4 l5 l6 l7 l8 l9 s0 : Int32} {l2 : Int64} {Q : Int64 → rI0 → rJ0 → Prop} (h6 : RB l6 15) (k : ∀ v, Q v I J) : wp S (d + 1) 62 166 [some (.ref 42), some (.int l1), some (.long l2), none, some (.int l4), some (.int l5), some (.int l6), some (.int l7), some (.int l8), some (.int l9), none, none, none, none, none, none, none, none, none] [.int s0] (wv x I J) (rJ x Q) :=
  v62_42_166 ⟨fun _ => levelA_42 (fun v => k _), fun _ => ⟨fun _ => heldA_42 (fun v => k _), fun _ => ⟨fun _ => area_lp_42 h6 k 64 0 _ _ rfl, fun _ => area_lp_42 h6 k 64 0 _ _ rfl⟩⟩⟩
theorem join_lp_42 {l1 l2 l5 : Int32} {l3 : Int64} {Q : Int64 → rI0 → rJ0 → Prop} (h62 : ∀ (p1 : Int32) (p2 : Int64) {Q' : Int64 → rI0 → rJ0 → Prop}, (∀ v, Q' v I J) → wcJ S d 62 [.ref 42, .int p1, .long p2, .int l5] x I J Q') (k : ∀ v, Q v I J) : ∀ (m c : Nat) (l6 l8 : Int64) (l10 : Int32), c + m = 20 → RB l10 100000 → wp S (d + 1) 61 31 [some (.ref 42), some (.int l1), some (.int l2), some (.long l3), none, some (.int l5), some (.long l6), none, some (.long l8), none, some (.int l10), some (.int (nI c))] [] (wv x I J) (rJ x Q) := by
  intro m
  induction m with
  | zero =>
    intro c l6 l8 l10 hc h
    have hc : c = 20 := by omega
    subst hc
    exact v61_42_31 ⟨fun q => absurd q (by decide), fun _ => k _⟩
  | succ m ih =>
    intro c l6 l8 l10 hc h
    have go : l10 < 240 → ∀ (l6 l8 : Int64), wp S (d + 1) 61 94 [some (.ref 42), some (.int l1), some (.int l2), some (.long l3), none, some (.int l5), some (.long l6), none, some (.long l8), none, some (.int l10), some (.int (nI c))] [] (wv x I J) (rJ x Q) := by
      intro hl l6 l8
      obtain ⟨u, hu, rfl⟩ := h.lt (m := 240) (by omega) (by omega) hl
      refine v61_42_94 (h62 _ _ (fun v => ⟨nI_in (by omega) (by omega), ?_⟩))
      obtain ⟨w, hw, ew⟩ := rb_us (I 10 (nI u).toNatClampNeg) 19 19 8192 (by decide) (by decide)
      rw [ew, nI_add, ← nI_succ]
      exact ih (c + 1) _ _ _ (by omega) ⟨u + w, by omega, rfl⟩
    exact v61_42_31 ⟨fun _ => ⟨fun _ => ⟨fun hl => ⟨by obtain ⟨u, hu, rfl⟩ := h.lt (m := 240) (by omega) (by omega) hl; exact nI_in (by omega) (by omega), fun _ => go hl _ _, fun _ => go hl _ _⟩, fun _ => k _⟩, fun _ => k _⟩, fun q => absurd (nI_lt (by omega) (by omega) : nI c < nI 20) q⟩
theorem joinA_42 {t : Nat} {p1 p2 : Int32} {p3 : Int64} {Q : Int64 → rI0 → rJ0 → Prop} (h62 : ∀ (p1 : Int32) (p2 : Int64) {Q' : Int64 → rI0 → rJ0 → Prop}, (∀ v, Q' v I J) → wcJ S d 62 [.ref 42, .int p1, .long p2, .int (nI t)] x I J Q') (h1 : RB p1 100000) (k : ∀ v, Q v I J) : wcJ S (d + 1) 61 [.ref 42, .int p1, .int p2, .long p3, .int (nI t)] x I J Q :=
  c61_42 ⟨fun _ => k _, fun _ => ⟨fun _ => ⟨fun _ => k _, fun _ => join_lp_42 h62 k 20 0 _ _ _ rfl h1⟩, fun _ => k _⟩⟩
theorem holdA_42 : ∀ (m d t : Nat), t + m = 9 → ∀ (p1 : Int32) (p2 : Int64) {Q : Int64 → rI0 → rJ0 → Prop}, (∀ v, Q v I J) → wcJ S (d + 2 * m + 1) 62 [.ref 42, .int p1, .long p2, .int (nI t)] x I J Q := by
  intro m
  induction m with
  | zero =>
    intro d t ht p1 p2 Q k
    have ht : t = 9 := by omega
    subst ht
    exact c62_42 ⟨fun _ => k _, fun _ => ⟨fun _ => k _, fun q => absurd (by decide) q⟩⟩
  | succ m ih =>
    intro d t ht p1 p2 Q k
    show wcJ S ((d + 2 * (m + 1)) + 1) 62 _ x I J Q
    refine c62_42 ⟨fun _ => k _, fun _ => ⟨fun _ => k _, fun _ => ⟨fun _ => k _, fun h0 => ⟨fun hl => ?_, fun _ => k _⟩⟩⟩⟩
    obtain ⟨u, hu, e⟩ := i_nat (n := 239) (by omega) h0 (fun z => absurd hl (fun q => by
      rw [Int32.lt_iff_toInt_lt] at q z
      have e1 : (nI 239).toInt = 239 := by decide
      have e2 : (240 : Int32).toInt = 240 := by decide
      omega))
    have h15 : RB ((((I 10 p1.toNatClampNeg).toUInt32 >>> ((14 : Int32).toUInt32 &&& Int32.toUInt32 31)).toInt32) &&& (15 : Int32)) 15 := rb_and _ 4 15 (by decide) (by decide)
    have hin : ¬ mOut p1 240 := by rw [e]; exact nI_in (by omega) (by omega)
    have r62 : ∀ (q1 : Int32) (q2 : Int64) {Q' : Int64 → rI0 → rJ0 → Prop}, (∀ v, Q' v I J) → wcJ S (d + 2 * m + 1) 62 [.ref 42, .int q1, .long q2, .int (nI (t + 1))] x I J Q' := fun q1 q2 Q' kk => ih d (t + 1) (by omega) q1 q2 kk
    have r62' : ∀ (q1 : Int32) (q2 : Int64) {Q' : Int64 → rI0 → rJ0 → Prop}, (∀ v, Q' v I J) → wcJ S (d + 2 * (m + 1)) 62 [.ref 42, .int q1, .long q2, .int (nI t + 1)] x I J Q' := fun q1 q2 Q' kk => by
      have z := ih (d + 1) (t + 1) (by omega) q1 q2 kk
      rw [nI_succ] at z
      rw [show d + 2 * (m + 1) = d + 1 + 2 * m + 1 by omega]
      exact z
    have r61 : ∀ (q1 q2 : Int32) (q3 : Int64) {Q' : Int64 → rI0 → rJ0 → Prop}, RB q1 100000 → (∀ v, Q' v I J) → wcJ S (d + 2 * (m + 1)) 61 [.ref 42, .int q1, .int q2, .long q3, .int (nI t + 1)] x I J Q' := fun q1 q2 q3 Q' hq kk => by
      have z := joinA_42 (t := t + 1) (p2 := q2) (p3 := q3) r62 hq kk
      rw [nI_succ] at z
      exact z
    refine ⟨hin, fun _ => r62' _ _ (fun v => k _), fun _ => ⟨fun _ => r61 _ _ _ ?_ (fun v => k _), fun _ => ?_⟩⟩
    · rw [e, ← nI_succ]
      exact ⟨u + 1, by omega, rfl⟩
    · have z : ∀ (a7 a8 a9 b0 : Int32), wp S (d + 2 * (m + 1) + 1) 62 166 [some (.ref 42), some (.int p1), some (.long p2), none, some (.int (nI t)), some (.int (I 10 p1.toNatClampNeg)), some (.int ((((I 10 p1.toNatClampNeg).toUInt32 >>> ((14 : Int32).toUInt32 &&& Int32.toUInt32 31)).toInt32) &&& (15 : Int32))), some (.int a7), some (.int a8), some (.int a9), none, none, none, none, none, none, none, none, none] [.int b0] (wv x I J) (rJ x Q) := fun a7 a8 a9 b0 => hold166_42 h15 k
      repeat' first | exact z _ _ _ _ | refine ⟨fun _ => ?_, fun _ => ?_⟩
theorem joinedA_42 {p1 p2 : Int32} {p3 : Int64} {Q : Int64 → rI0 → rJ0 → Prop} (h1 : RB p1 100000) (k : ∀ v, Q v I J) : wcJ S (d + 20) 61 [.ref 42, .int p1, .int p2, .long p3, .int (1 : Int32)] x I J Q :=
  joinA_42 (d := d + 19) (t := 1) (fun q1 q2 Q' kk => by
    have z := holdA_42 (S := S) (x := x) 8 (d + 2) 1 rfl q1 q2 kk
    exact z) h1 k

end CN
