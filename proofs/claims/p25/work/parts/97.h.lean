section
section PH0
variable {S : Nat × (Nat → Int32)} {d : Nat} {x : mX} {I I' : rI0} {J J' : rJ0} {b : Nat → Int32} {n lim p R C : Nat}
def okL (c : Int32) : Prop := c = 120 ∨ (¬ c < 97 ∧ ¬ 102 < c)
def kv (c : Int32) : Int32 := if c = 120 then -1 else c - 97
theorem v102 : (102 : Int32).toInt = 102 := by decide
theorem kv_n {c : Int32} (h : okL c) : (c = 120 ∧ kv c = -1) ∨ (¬ c = 120 ∧ ∃ k, k ≤ 5 ∧ kv c = nI k ∧ c = nI (97 + k)) := by
  unfold kv
  by_cases z : c = 120
  · exact Or.inl ⟨z, if_pos z⟩
  · rcases h with h | h
    · exact absurd h z
    · have a := i_nlt h.1
      have e := i_nlt h.2
      rw [v97] at a
      rw [v102] at e
      have ec : c = nI (97 + (c.toInt - 97).toNat) := by
        rw [← Int32.toInt_inj, nI_toInt (by omega)]
        omega
      refine Or.inr ⟨z, (c.toInt - 97).toNat, by omega, ?_, ec⟩
      rw [if_neg z, ← Int32.toInt_inj, i_sub rfl v97 (by omega), nI_toInt (by omega)]
      omega
theorem kv_1 {c : Int32} (h : okL c) : kv c + 1 = (if c = 120 then 0 else c - 96) := by
  rcases kv_n h with ⟨z, e⟩ | ⟨z, k, hk, e, ec⟩
  · rw [e, if_pos z]; decide
  · rw [e, if_neg z, ec, ← nI_succ]
    show _ = nI (97 + k) - nI 96
    rw [pk_sub (by omega)]
    congr 1
    omega
theorem isKindS {c : Int32} {Q : Int32 → rI0 → rJ0 → Prop} (k1 : ¬ c < 97 ∧ ¬ 102 < c → Q 1 I J) (k0 : ¬ (¬ c < 97 ∧ ¬ 102 < c) → Q 0 I J) : wcI S d 39 [.int c] x I J Q := by
  have e : ∀ {c : Int32}, c < 103 ↔ ¬ 102 < c := by
    intro c
    rw [Int32.lt_iff_toInt_lt, Int32.lt_iff_toInt_lt, v102, show (103 : Int32).toInt = 103 by decide]
    omega
  exact c39 ⟨fun z => k0 (fun q => q.1 z), fun z => ⟨fun y => k1 ⟨z, e.mp y⟩, fun y => k0 (fun q => y (e.mpr q.2))⟩⟩
/-- the class's letters -/
theorem rowLC {L : Nat} {Q : Int32 → rI0 → rJ0 → Prop} (h2 : uK b n lim p = 2) (hL : L = uL b n p) (hR : R ≤ 7) : ∀ (m c : Nat) (I : rI0), c + m = L → Tck b n lim p I → I 16 0 = nI R → (∀ k, k < c → okL (b (tSk b n p + k))) → ((∃ k, k < L ∧ ¬ okL (b (tSk b n p + k))) → ∀ I', (∀ a, a ≠ 17 → I' a = I a) → Q 0 (mSet I' 28 8 2) J) → ((∀ k, k < L → okL (b (tSk b n p + k))) → ∀ I', (∀ a, a ≠ 17 → I' a = I a) → (∀ s, ¬ (R * L + c ≤ s ∧ s < R * L + L) → I' 17 s = I 17 s) → (∀ k, c ≤ k → k < L → I' 17 (R * L + k) = kv (b (tSk b n p + k))) → wcV S d 70 [.ref 28] x (mSet I' 16 0 (I' 16 0 + 1)) J (fun I4 J4 => Q 1 I4 J4)) → wp S (d + 1) 38 102 [some (.ref 29), some (.int (nI L)), some (.int (nI c)), none] [] (wv x I J) (rI x Q) := by
  have l8 := (uK_2 h2).2.2.1
  intro m
  induction m with
  | zero =>
    intro c I hc t h0 ok kb kg
    have hc : c = L := by omega
    subst hc
    exact v38_29_102 ⟨fun z => absurd z (nI_nlt (Nat.le_refl _) (by omega)), fun _ => kg ok I (fun _ _ => rfl) (fun _ _ => rfl) (fun k q1 q2 => absurd q1 (by omega))⟩
  | succ m ih =>
    intro c I hc t h0 ok kb kg
    have hm : R * L ≤ 56 := Nat.mul_le_mul (n₂ := 7) (m₂ := 8) hR (by omega)
    have ix : I 16 0 * nI L + nI c = nI (R * L + c) := by rw [h0, nI_mu, nI_add]
    have go : okL (b (tSk b n p + c)) → wp S (d + 1) 38 138 [some (.ref 29), some (.int (nI L)), some (.int (nI c)), some (.int (b (tSk b n p + c)))] [] (wv x I J) (rI x Q) := by
      intro hok
      have hin : ¬ mOut (I 16 0 * nI L + nI c) 64 := by rw [ix]; exact nI_in (by omega) (by omega)
      have st : ∀ v, v = kv (b (tSk b n p + c)) → wp S (d + 1) 38 102 [some (.ref 29), some (.int (nI L)), some (.int (nI c + 1)), none] [] (wv x (mSet I 17 ((I 16 0 * nI L + nI c).toNatClampNeg) v) J) (rI x Q) := by
        intro v hv
        rw [ix, nI_clamp (by omega), ← nI_succ]
        refine ih (c + 1) _ (by omega) (t.o (mSet_ne (by decide)) (mSet_ne (by decide))) (by rw [mSet_ne (by decide)]; exact h0) (fun k hk => ?_) (fun e I' o => kb e I' (fun a ha => by rw [o a ha, mSet_ne ha])) (fun e I' o f g => kg e I' (fun a ha => by rw [o a ha, mSet_ne ha]) (fun s hs => by rw [f s (by omega), mSet_x (by omega)]) (fun k q1 q2 => ?_))
        · rcases (show k = c ∨ k < c by omega) with q | q
          · subst q; exact hok
          · exact ok k q
        · rcases (show k = c ∨ c + 1 ≤ k by omega) with q | q
          · subst q
            rw [f (R * L + k) (by omega)]
            unfold mSet va_up
            rw [if_pos rfl, if_pos rfl]
            exact hv
          · exact g k q q2
      refine v38_29_138 ⟨fun z => ⟨hin, st _ (by unfold kv; rw [if_pos z])⟩, fun z => ⟨hin, st _ (by unfold kv; rw [if_neg z])⟩⟩
    refine v38_29_102 ⟨fun _ => signS (by omega) t h2 ?_, fun q => absurd (nI_lt (by omega) (by omega)) q⟩
    rw [if_pos (by omega : c < uL b n p)]
    refine ⟨fun z => go (Or.inl z), fun z => isKindS (fun y => ⟨fun q => absurd q (by decide), fun _ => go (Or.inr y)⟩) (fun y => ⟨fun _ => failS ⟨Or.inl rfl, kb ⟨c, by omega, fun q => q.elim z y⟩ I (fun _ _ => rfl)⟩, fun q => absurd rfl q⟩)⟩
theorem octS {k : Nat} {Q : Int32 → rI0 → rJ0 → Prop} (h2 : uK b n lim p = 2) (hk : k < uL b n p) (u : Nck b n lim p I J) (kk : Q (b (tSk b n p + k)) I J) : wcI S d 155 [.ref 43, .int (I 43 10 + nI k)] x I J Q := by
  obtain ⟨a1, a2, a3, a4, a5, a6⟩ := uK_2 h2
  have hn := u.2.1.1
  have hE := u.2.1.2.2.1
  have e10 : I 43 10 + nI k = nI (tSk b n p + k) := by rw [u.2.2.2.1, a5, nI_add]
  rw [e10]
  refine c155_43 ⟨nI_in (by omega) (by omega), ?_⟩
  rw [nI_clamp (by omega), u.2.1.2.2.2.1 _ (by omega)]
  exact kk
theorem okR {c : Int32} {Q : Int32 → rI0 → rJ0 → Prop} (k1 : ¬ c < 97 ∧ ¬ 102 < c → Q 1 I J) (k0 : ¬ (¬ c < 97 ∧ ¬ 102 < c) → Q 0 I J) : wcI S d 151 [.int c, .int (97 : Int32), .int (102 : Int32)] x I J Q := inR (fun z y => k1 ⟨z, y⟩) (fun z => k0 (fun q => z.elim q.1 q.2))
/-- the reference's test -/
theorem rowT {l1 : Int32} {G : Prop} {Q : Int32 → rI0 → rJ0 → Prop} (h2 : uK b n lim p = 2) (u : Nck b n lim p I J) (kb : ¬ (G ∧ ∀ k, k < uL b n p → okL (b (tSk b n p + k))) → Q 0 (bdI I 2) J) (kg : ∀ A : Int32, G → (∀ k, k < uL b n p → okL (b (tSk b n p + k))) → wp S (d + 1) 170 143 [some (.ref 43), some (.int l1), some (.int A), some (.int (0 : Int32)), none] [] (wv x (mSet I 46 1 (nI (uL b n p))) J) (rI x Q)) : ∀ (m c : Nat) (A : Int32), c + m = uL b n p → ((A = 1 ∧ G ∧ ∀ k, k < c → okL (b (tSk b n p + k))) ∨ (A = 0 ∧ ¬ (G ∧ ∀ k, k < c → okL (b (tSk b n p + k))))) → wp S (d + 1) 170 62 [some (.ref 43), some (.int l1), some (.int A), some (.int (nI c)), none] [] (wv x I J) (rI x Q) := by
  have l8 := (uK_2 h2).2.2.1
  have e11 : I 43 11 = nI (uL b n p) := (u.2.2.2.2.1 h2).1
  intro m
  induction m with
  | zero =>
    intro c A hc hA
    have hc : c = uL b n p := by omega
    subst hc
    refine v170_43_62 ⟨fun z => absurd z (by rw [e11]; exact nI_nlt (Nat.le_refl _) (by omega)), fun _ => ⟨fun z => badR ⟨Or.inl rfl, kb ?_⟩, fun z => ⟨by decide, ?_⟩⟩⟩
    · rcases hA with hA | hA
      · rw [hA.1] at z; exact absurd z (by decide)
      · exact hA.2
    · rcases hA with hA | hA
      · rw [e11]
        exact kg A hA.2.1 hA.2.2
      · exact absurd hA.1 z
  | succ m ih =>
    intro c A hc hA
    have bad : ¬ okL (b (tSk b n p + c)) → ¬ (G ∧ ∀ k, k < c + 1 → okL (b (tSk b n p + k))) := fun q w => q (w.2 c (by omega))
    refine v170_43_62 ⟨fun _ => ⟨fun z => ?_, fun z => ?_⟩, fun q => absurd (by rw [e11]; exact nI_lt (by omega) (by omega)) q⟩
    · rw [← nI_succ]
      refine ih (c + 1) 0 (by omega) (Or.inr ⟨rfl, fun w => ?_⟩)
      rcases hA with hA | hA
      · rw [hA.1] at z; exact absurd z (by decide)
      · exact hA.2 ⟨w.1, fun k hk => w.2 k (by omega)⟩
    · have hG : G ∧ ∀ k, k < c → okL (b (tSk b n p + k)) := by
        rcases hA with hA | hA
        · exact hA.2
        · exact absurd hA.1 z
      have gd : okL (b (tSk b n p + c)) → wp S (d + 1) 170 62 [some (.ref 43), some (.int l1), some (.int (1 : Int32)), some (.int (nI c + 1)), none] [] (wv x I J) (rI x Q) := by
        intro hok
        rw [← nI_succ]
        refine ih (c + 1) 1 (by omega) (Or.inl ⟨rfl, hG.1, fun k hk => ?_⟩)
        rcases (show k = c ∨ k < c by omega) with q | q
        · subst q; exact hok
        · exact hG.2 k q
      refine octS h2 (by omega) u ⟨fun w => gd (Or.inl w), fun w => octS h2 (by omega) u (okR (fun y => ⟨fun q => absurd q (by decide), fun _ => gd (Or.inr y)⟩) (fun y => ⟨fun _ => ?_, fun q => absurd rfl q⟩))⟩
      rw [← nI_succ]
      exact ih (c + 1) 0 (by omega) (Or.inr ⟨rfl, bad (fun q => q.elim w y)⟩)
/-- how many of the letters are SEATS -/
def kq (b : Nat → Int32) (q : Nat) : Nat → Nat
  | 0 => 0
  | k + 1 => kq b q k + (if b (q + k) = 120 then 0 else 1)
theorem kq_le {q : Nat} : ∀ k, kq b q k ≤ k := by
  intro k
  induction k with
  | zero => exact Nat.le_refl _
  | succ k ih =>
    show kq b q k + (if b (q + k) = 120 then 0 else 1) ≤ k + 1
    split <;> omega
/-- the reference's writing -/
theorem rowLR {k0 : Nat} {l2 : Int32} {Q : Int32 → rI0 → rJ0 → Prop} (h2 : uK b n lim p = 2) (hR : R ≤ 7) (hk0 : k0 ≤ 64) (ok : ∀ k, k < uL b n p → okL (b (tSk b n p + k))) : ∀ (m c : Nat) (I : rI0), c + m = uL b n p → Nck b n lim p I J → I 46 2 = nI (k0 + kq b (tSk b n p) c) → (∀ I', (∀ a, a ≠ 46 → I' a = I a) → (∀ j, ¬ (6 + R * uL b n p + c ≤ j ∧ j < 6 + R * uL b n p + uL b n p) → j ≠ 2 → I' 46 j = I 46 j) → (∀ k, c ≤ k → k < uL b n p → I' 46 (6 + R * uL b n p + k) = kv (b (tSk b n p + k)) + 1) → I' 46 2 = nI (k0 + kq b (tSk b n p) (uL b n p)) → wcV S d 161 [.ref 43] x (mSet I' 46 0 (I' 46 0 + 1)) J (fun I2 J2 => Q 1 I2 J2)) → wp S (d + 1) 170 143 [some (.ref 43), some (.int (nI R)), some (.int l2), some (.int (nI c)), none] [] (wv x I J) (rI x Q) := by
  have l8 := (uK_2 h2).2.2.1
  have hm : R * uL b n p ≤ 56 := Nat.mul_le_mul (n₂ := 7) (m₂ := 8) hR l8
  intro m
  induction m with
  | zero =>
    intro c I hc u hcn k
    have e11 : I 43 11 = nI (uL b n p) := (u.2.2.2.2.1 h2).1
    have hc : c = uL b n p := by omega
    subst hc
    exact v170_43_143 ⟨fun z => absurd z (by rw [e11]; exact nI_nlt (Nat.le_refl _) (by omega)), fun _ => ⟨by decide, by decide, k I (fun _ _ => rfl) (fun _ _ _ => rfl) (fun k q1 q2 => absurd q1 (by omega)) hcn⟩⟩
  | succ m ih =>
    intro c I hc u hcn k
    have e11 : I 43 11 = nI (uL b n p) := (u.2.2.2.2.1 h2).1
    have lc := kq_le (b := b) (q := tSk b n p) c
    have ix : (6 : Int32) + I 43 11 * nI R + nI c = nI (6 + R * uL b n p + c) := by
      rw [e11, nI_mu, Nat.mul_comm]
      show nI 6 + _ + _ = _
      rw [nI_add, nI_add]
    have hin : ¬ mOut ((6 : Int32) + I 43 11 * nI R + nI c) 590 := by rw [ix]; exact nI_in (by omega) (by omega)
    have st : ∀ (s2 w : Int32), s2 = kv (b (tSk b n p + c)) + 1 → I 46 2 + w = nI (k0 + kq b (tSk b n p) (c + 1)) → wp S (d + 1) 170 143 [some (.ref 43), some (.int (nI R)), some (.int l2), some (.int (nI c + 1)), none] [] (wv x (mSet (mSet I 46 (((6 : Int32) + I 43 11 * nI R + nI c).toNatClampNeg) s2) 46 ((2 : Int32).toNatClampNeg) ((mSet I 46 (((6 : Int32) + I 43 11 * nI R + nI c).toNatClampNeg) s2) 46 ((2 : Int32).toNatClampNeg) + w)) J) (rI x Q) := by
      intro s2 w hs hw
      have i2 : (2 : Int32).toNatClampNeg = 2 := by decide
      rw [ix, nI_clamp (by omega), i2, ← nI_succ, mSet_x (by omega), hw]
      refine ih (c + 1) _ (by omega) (u.cg (by rw [mSet_ne (by decide), mSet_ne (by decide)]) (fun k hk => by rw [mSet_ne (by decide), mSet_ne (by decide)])) (by unfold mSet va_up; rw [if_pos rfl, if_pos rfl]) (fun I' o f g e => k I' (fun a ha => by rw [o a ha, mSet_ne ha, mSet_ne ha]) (fun j q1 q2 => by rw [f j (by omega) q2, mSet_x (by omega), mSet_x (by omega)]) (fun k q1 q2 => ?_) e)
      rcases (show k = c ∨ c + 1 ≤ k by omega) with q | q
      · rw [q, f (6 + R * uL b n p + c) (by omega) (by omega), mSet_x (by omega)]
        unfold mSet va_up
        rw [if_pos rfl, if_pos rfl]
        exact hs
      · exact g k q q2
    have kc1 := ok c (by omega)
    refine v170_43_143 ⟨fun _ => octS h2 (by omega) u ⟨fun z => v170_43_194 ⟨hin, by decide, fun _ => ⟨by decide, st _ _ ?_ ?_⟩, fun q => absurd z q⟩, fun z => v170_43_194 ⟨hin, by decide, fun q => absurd q z, fun _ => ⟨by decide, st _ _ ?_ ?_⟩⟩⟩, fun q => absurd (by rw [e11]; exact nI_lt (by omega) (by omega)) q⟩
    · rw [kv_1 kc1, if_pos z]
    · show _ = nI (k0 + (kq b (tSk b n p) c + (if b (tSk b n p + c) = 120 then 0 else 1)))
      rw [if_pos z, hcn]
      exact nI_add _ 0
    · rw [kv_1 kc1, if_neg z]
    · show _ = nI (k0 + (kq b (tSk b n p) c + (if b (tSk b n p + c) = 120 then 0 else 1)))
      rw [if_neg z, hcn]
      exact nI_add _ 1
theorem kc_kq {K L : Nat → Int32} {q a : Nat} : ∀ m, (∀ i, i < a → L i = K i) → (∀ k, k < m → okL (b (q + k)) ∧ L (a + k) = kv (b (q + k))) → kc L (a + m) = kc K a + kq b q m := by
  intro m
  induction m with
  | zero => intro h _; exact kc_cg a h
  | succ m ih =>
    intro h g
    have e := ih h (fun k hk => g k (by omega))
    obtain ⟨g1, g2⟩ := g m (by omega)
    show kc L (a + m) + (if L (a + m) = -1 then 0 else 1) = kc K a + (kq b q m + (if b (q + m) = 120 then 0 else 1))
    rw [e, g2]
    rcases kv_n g1 with ⟨z, w⟩ | ⟨z, k, hk, w, -⟩
    · rw [w, if_pos rfl, if_pos z]; omega
    · rw [w, if_neg (m1_p (by omega)), if_neg z]; omega
theorem lnRow {Q : Int32 → rI0 → rJ0 → Prop} (h : HRl R C I I') (t : Tck b n lim p I) (h8 : I 28 8 = 0) (u : Nck b n lim p I' J') (hw : uW b n lim p = 7499639) (k : ∀ v I1, hcF I I1 → RefL b n lim p I' J' v I1 → Q v I1 J) : wcI S (d + 3) 38 [.ref 29] x I J Q := by
  obtain ⟨ha, hp, hl, ho, ht⟩ := h
  have hR := ha.1
  have h460 := ha.2.2.2.2.2.1
  have g1 := uE_le (b := b) (lim := lim) t.1
  have g2 := uE_le (b := b) (lim := lim) g1.2
  have g3 := uE_le (b := b) (lim := lim) g2.2
  obtain ⟨v, hv⟩ := uV_e b n lim (uE b n lim p)
  obtain ⟨y, hy⟩ := uV_e b n lim (uE b n lim (uE b n lim p))
  have pg := (uE_gt (b := b) (n := n) (lim := lim) (p := p) (fun q => by rw [uW_n (by rw [q]; decide)] at hw; exact absurd hw (by decide)) (fun q => by rw [uW_n (by rw [q]; decide)] at hw; exact absurd hw (by decide))).1
  obtain ⟨a1, a2, a3, a4, a5, a6, a7, a8, a9, a10, a11⟩ := ha
  have rr : ∀ {S : Nat × (Nat → Int32)} {d : Nat} {x : mX} {Q' : Int32 → rI0 → rJ0 → Prop}, wcI S (d + 8) 170 [.ref 43] x I' J' (fun r I2 J2 => (r = 0 ∨ r = 1) ∧ Q' r I2 J2) → wcI S (d + 9) 167 [.ref 43] x I' J' Q' := fun kk => c167_43 (wordR (by decide) u (fun _ => ⟨fun q => absurd q (by decide), fun _ => kk⟩) (fun q => absurd hw q))
  have i0 : (0 : Int32).toNatClampNeg = 0 := by decide
  have i1 : (1 : Int32).toNatClampNeg = 1 := by decide
  refine c38_29 ⟨fun z => ?_, fun z => ?_⟩
  · have hR7 : R ≤ 7 := by
      rw [a5] at z
      rcases Nat.lt_or_ge R 8 with w | w
      · omega
      · exact absurd z (nI_nlt (b := 8) w (by omega))
    have n8 : ¬ I' 46 ((0 : Int32).toNatClampNeg) = 8 := by
      rw [i0, a6]
      intro q
      have := nI_inj (c := 8) (by omega) (by omega) q
      omega
    -- the reference up to its word
    have go : ∀ {S : Nat × (Nat → Int32)} {d : Nat} {x : mX} {Q' : Int32 → rI0 → rJ0 → Prop}, (∀ I2 J2, Nf5 I' J' I2 J2 → Nck b n lim (uE b n lim p) I2 J2 → (¬ uK b n lim (uE b n lim p) = 2 → Q' 0 (bdI I2 1) J2) ∧ (uK b n lim (uE b n lim p) = 2 → ∀ A : Int32, ((A = 1 ∧ (R = 0 ∨ uL b n (uE b n lim p) = C)) ∨ (A = 0 ∧ ¬ (R = 0 ∨ uL b n (uE b n lim p) = C))) → wp S (d + 8) 170 62 [some (.ref 43), some (.int (nI R)), some (.int A), some (.int (0 : Int32)), none] [] (wv x I2 J2) (rI x (fun r I2 J2 => (r = 0 ∨ r = 1) ∧ Q' r I2 J2)))) → wcI S (d + 9) 167 [.ref 43] x I' J' Q' := by
      intro S d x Q' kk
      refine rr (c170_43 ⟨by decide, fun q => absurd q n8, fun _ => nextS u.2.1 (fun I2 J2 f2 t2 => ?_)⟩)
      obtain ⟨kn, ky⟩ := kk I2 J2 f2 t2
      rw [i0, a6]
      refine ⟨fun q => ?_, fun q => badR ⟨Or.inl rfl, Or.inl rfl, kn (fun w => q (by rw [t2.2.2.1, w]; rfl))⟩⟩
      have k2 : uK b n lim (uE b n lim p) = 2 := tokOf_2.mp (t2.2.2.1.symm.trans q)
      have e11 : I2 43 11 = nI (uL b n (uE b n lim p)) := (t2.2.2.2.2.1 k2).1
      have l8 := (uK_2 k2).2.2.1
      have e461 : I2 46 ((1 : Int32).toNatClampNeg) = nI C := by rw [i1, f2.1 46 (by decide)]; exact a8
      refine ⟨fun w => ky k2 1 (Or.inl ⟨rfl, Or.inl (nI_inj (c := 0) (by omega) (by omega) w)⟩), fun w => ⟨by decide, ?_⟩⟩
      have w0 : ¬ R = 0 := fun q => w (by rw [q]; rfl)
      rw [e11, e461]
      refine ⟨fun y => ky k2 1 (Or.inl ⟨rfl, Or.inr (nI_inj (by omega) (by omega) y)⟩), fun y => ky k2 0 (Or.inr ⟨rfl, fun q => ?_⟩)⟩
      rcases q with q | q
      · exact w0 q
      · exact y (by rw [q])
    refine readS t.2.1 (fun I1 o1 t1 => ?_)
    have e8 : I1 28 8 = 0 := by rw [o1.2 8 (by omega)]; exact h8
    have f1 : hcF I I1 := hcF.o o1.1
    refine ⟨fun z2 => ?_, fun z2 => failS ⟨Or.inl rfl, k 0 _ (f1.tr (hcF.s (by omega))) (fun S d x Q' kk => go (fun I2 J2 f2 t2 => ⟨fun _ => kk _ _ ((hrF.nx f2).tr hrF.bd) (lo0 (f := 1) (by decide) rfl rfl t1.2.2.2.1 t2.2.2.2.1), fun q => absurd (t1.2.2.1.trans q) z2⟩))⟩⟩
    have k2 : uK b n lim (uE b n lim p) = 2 := t1.2.2.1.symm.trans z2
    have l8 := (uK_2 k2).2.2.1
    have l1 := (uK_2 k2).2.1
    -- a fault in the letters or their number
    have bad : ∀ I3, hcF I I3 → I3 28 4 = I1 28 4 → ¬ ((R = 0 ∨ uL b n (uE b n lim p) = C) ∧ ∀ k, k < uL b n (uE b n lim p) → okL (b (tSk b n (uE b n lim p) + k))) → Q 0 (mSet I3 28 8 2) J := by
      intro I3 f3 e4 hb
      refine k 0 _ (f3.tr (hcF.s (by omega))) (fun S d x Q' kk => go (fun I2 J2 f2 t2 => ⟨fun q => absurd k2 q, fun _ A hA => ?_⟩))
      refine rowT (G := R = 0 ∨ uL b n (uE b n lim p) = C) k2 t2 (fun _ => ⟨Or.inl rfl, kk _ _ ((hrF.nx f2).tr hrF.bd) (lo0 (f := 2) (q := uA b n lim (uE b n lim p)) (by decide) rfl rfl (by rw [mSet_x (by omega), e4]; exact t1.2.2.2.1) t2.2.2.2.1)⟩) (fun A2 q1 q2 => absurd ⟨q1, q2⟩ hb) (uL b n (uE b n lim p)) 0 A (by omega) ?_
      rcases hA with hA | hA
      · exact Or.inl ⟨hA.1, hA.2, fun k hk => absurd hk (by omega)⟩
      · exact Or.inr ⟨hA.1, fun w => hA.2 w.1⟩
    have eR : I1 16 0 = nI R := by rw [o1.1 16 (by decide)]; exact a5
    have eC : I1 16 1 = nI C := by rw [o1.1 16 (by decide)]; exact a7
    -- the letters, both sides
    have lp : (R = 0 ∨ uL b n (uE b n lim p) = C) → wp S (d + 3) 38 102 [some (.ref 29), some (.int (nI (uL b n (uE b n lim p)))), some (.int (0 : Int32)), none] [] (wv x (mSet I1 16 1 (nI (uL b n (uE b n lim p)))) J) (rI x Q) := by
      intro hG
      have eq1 : R * uL b n (uE b n lim p) = R * C := by
        rcases hG with q | q
        · rw [q, Nat.zero_mul, Nat.zero_mul]
        · rw [q]
      have hm7 : R * C ≤ 56 := by rw [← eq1]; exact Nat.mul_le_mul (n₂ := 7) (m₂ := 8) hR7 l8
      have fx : hcF I (mSet I1 16 1 (nI (uL b n (uE b n lim p)))) := f1.tr (hcF.s (by omega))
      refine rowLC (R := R) k2 rfl hR7 (uL b n (uE b n lim p)) 0 _ (by omega) (t1.o (mSet_ne (by decide)) (mSet_ne (by decide))) (by rw [mSet_x (by omega)]; exact eR) (fun k hk => absurd hk (by omega)) (fun e I3 o3 => bad I3 (fx.tr (fun a ha => o3 a (by omega))) (by rw [o3 28 (by decide), mSet_ne (by decide)]) (fun w => by obtain ⟨j, j1, j2⟩ := e; exact j2 (w.2 j j1))) (fun ok I3 o3 s3 w3 => ?_)
      have t3 : Tck b n lim (uE b n lim p) I3 := t1.o (by rw [o3 2 (by decide), mSet_ne (by decide)]) (by rw [o3 28 (by decide), mSet_ne (by decide)])
      refine readS (b := b) (n := n) (lim := lim) (p := uE b n lim (uE b n lim p)) (by
        have q := t3.2.1
        unfold Tst at *
        rw [mSet_ne (by decide), mSet_ne (by decide)]
        exact q) (fun I4 o4 t4 => ?_)
      have e84 : I4 28 8 = 0 := by rw [o4.2 8 (by omega), mSet_ne (by decide), o3 28 (by decide), mSet_ne (by decide)]; exact e8
      refine k 1 _ (fx.tr ((show hcF _ I3 from fun a ha => o3 a (by omega)).tr ((hcF.s (by omega)).tr (hcF.o o4.1)))) (fun S d x Q' kk => go (fun I2 J2 f2 t2 => ⟨fun q => absurd k2 q, fun _ A hA => ?_⟩))
      refine rowT (G := R = 0 ∨ uL b n (uE b n lim p) = C) k2 t2 (fun q => absurd ⟨hG, ok⟩ q) (fun A2 _ _ => ?_) (uL b n (uE b n lim p)) 0 A (by omega) ?_
      · have kl := kc_le (K := I 17) (R * C)
        have c46 : I2 46 = I' 46 := f2.1 46 (by decide)
        refine rowLR (R := R) (k0 := kc (I 17) (R * C)) k2 hR7 (by omega) ok (uL b n (uE b n lim p)) 0 _ (by omega) (t2.cg (mSet_ne (by decide)) (fun k hk => by rw [mSet_ne (by decide)])) (by rw [mSet_x (by omega), c46]; exact a11) (fun I5 o5 s5 w5 c5 => ?_)
        refine nextS (t2.2.1.mv t2.2.1.2.2.1 (by rw [mSet_ne (by decide), o5 44 (by decide), mSet_ne (by decide)]) (by rw [mSet_ne (by decide), o5 43 (by decide), mSet_ne (by decide)]) (by rw [mSet_ne (by decide), o5 43 (by decide), mSet_ne (by decide)]) (by rw [mSet_ne (by decide), o5 43 (by decide), mSet_ne (by decide)]; exact t2.2.1.2.2.2.2.2.2)) (fun I6 J6 f6 t6 => ⟨Or.inr rfl, ?_⟩)
        have fr5 : hrF I2 J2 I5 J2 := ⟨fun a ha => by rw [o5 a (by omega), mSet_ne (by omega)], fun k hk => by rw [o5 43 (by decide), mSet_ne (by decide)], fun _ _ => rfl, fun _ _ => rfl⟩
        refine kk I6 J6 ((hrF.nx f2).tr (fr5.tr (hrF.h.tr (hrF.nx f6)))) (Or.inr ⟨rfl, (by rw [f6.2.1 13 (by omega), mSet_ne (by decide), o5 43 (by decide), mSet_ne (by decide), f2.2.1 13 (by omega)]), _, R + 1, uL b n (uE b n lim p), by omega, g2.2, t4, e84, t6, ?_⟩)
        have eL : (R + 1) * uL b n (uE b n lim p) = R * C + uL b n (uE b n lim p) := by rw [Nat.add_mul, Nat.one_mul, eq1]
        have r46 : ∀ j, ¬ (j = 0 ∨ j = 1 ∨ j = 2) → ¬ (6 + R * C ≤ j ∧ j < 6 + R * C + uL b n (uE b n lim p)) → I6 46 j = I' 46 j := fun j q1 q2 => by rw [f6.1 46 (by decide), mSet_x (by omega), s5 j (by rw [eq1]; omega) (by omega), mSet_x (by omega), c46]
        have r43 : ∀ j, 20 ≤ j → j ≤ 22 → I6 43 j = I' 43 j := fun j q1 q2 => by rw [f6.2.1 j (by omega), mSet_ne (by decide), o5 43 (by decide), mSet_ne (by decide), f2.2.1 j (by omega)]
        have c4 : ∀ a, a ≠ 16 → a ≠ 17 → a ≠ 28 → I4 a = I a := fun a q1 q2 q3 => by rw [o4.1 a q3, mSet_ne q1, o3 a q2, mSet_ne q1, o1.1 a q3]
        have c16 : ∀ j, 2 ≤ j → I4 16 j = I 16 j := fun j q => by rw [o4.1 16 (by decide), mSet_x (by omega), o3 16 (by decide), mSet_x (by omega), o1.1 16 (by decide)]
        have c17 : I4 17 = I3 17 := by rw [o4.1 17 (by decide), mSet_ne (by decide)]
        have e017 : ∀ s, ¬ (R * C ≤ s ∧ s < R * C + uL b n (uE b n lim p)) → I3 17 s = I 17 s := fun s hs => by rw [s3 s (by rw [eq1]; omega), mSet_ne (by decide), o1.1 17 (by decide)]
        refine ⟨⟨by omega, l8, fun q => absurd q (by omega), fun _ => l1, ?_, ?_, ?_, ?_, fun s hs => ?_, fun s q1 q2 => ?_, ?_⟩, hp.cg (by rw [c4 29 (by decide) (by decide) (by decide)]) (r43 20 (by omega) (by omega)) (c4 19 (by decide) (by decide) (by decide)) (fun j q1 q2 => r46 j (by omega) (by omega)), hl.cg (r43 21 (by omega) (by omega)) (c4 20 (by decide) (by decide) (by decide)) (fun j q1 q2 => r46 j (by omega) (by omega)), ho.cg (fun j _ => by rw [c4 29 (by decide) (by decide) (by decide)]) (fun j q1 q2 => c16 j q1) (r43 22 (by omega) (by omega)) (fun j q1 q2 => r46 j (by omega) (by omega)), ht.cg (c4 21 (by decide) (by decide) (by decide)) (c4 22 (by decide) (by decide) (by decide)) (fun j q1 q2 => r46 j (by omega) (by omega))⟩
        · rw [o4.1 16 (by decide)]
          show I3 16 0 + 1 = _
          rw [o3 16 (by decide), mSet_x (by omega), eR, nI_succ]
        · rw [f6.1 46 (by decide)]
          show I5 46 0 + 1 = _
          rw [s5 0 (by omega) (by omega), mSet_x (by omega), c46, a6, nI_succ]
        · rw [o4.1 16 (by decide), mSet_x (by omega), o3 16 (by decide)]
          rfl
        · rw [f6.1 46 (by decide), mSet_x (by omega), s5 1 (by omega) (by omega)]
          rfl
        · rw [eL] at hs
          rw [c17]
          rcases Nat.lt_or_ge s (R * C) with q | q
          · rw [e017 s (by omega), r46 (6 + s) (by omega) (by omega)]
            exact a9 s q
          · have w1 := w3 (s - R * C) (by omega) (by omega)
            have w2 := w5 (s - R * C) (by omega) (by omega)
            rw [eq1, show R * C + (s - R * C) = s by omega] at w1
            rw [eq1, show 6 + R * C + (s - R * C) = 6 + s by omega] at w2
            rw [w1, f6.1 46 (by decide), mSet_x (by omega), w2]
            refine ⟨?_, rfl⟩
            rcases kv_n (ok (s - R * C) (by omega)) with ⟨-, e⟩ | ⟨-, j, hj, e, -⟩
            · exact Or.inl e
            · exact Or.inr ⟨j, hj, e⟩
        · rw [eL] at q1
          rw [r46 (6 + s) (by omega) (by omega)]
          exact a10 s (by omega) q2
        · rw [f6.1 46 (by decide), mSet_x (by omega), c5, c17, eL]
          congr 1
          refine (kc_kq (b := b) (q := tSk b n (uE b n lim p)) (uL b n (uE b n lim p)) (fun i hi => e017 i (by omega)) (fun j hj => ⟨ok j hj, ?_⟩)).symm
          have w1 := w3 j (by omega) hj
          rw [eq1] at w1
          exact w1
      · rcases hA with hA | hA
        · exact Or.inl ⟨hA.1, hA.2, fun k hk => absurd hk (by omega)⟩
        · exact Or.inr ⟨hA.1, fun w => hA.2 w.1⟩
    refine sizeS t1 k2 ⟨fun q => absurd q (nI_nlt (a := 8) (by omega) (by omega)), fun _ => ⟨fun w => ⟨fun y => ?_, fun y => ?_⟩, fun w => ?_⟩⟩
    · rw [eC] at y
      exact lp (Or.inr (nI_inj (by omega) (by omega) y))
    · rw [eC] at y
      rw [eR] at w
      refine failS ⟨Or.inl rfl, bad I1 f1 rfl (fun q => ?_)⟩
      rcases q.1 with q | q
      · rw [q] at w; exact absurd w (by decide)
      · exact y (by rw [q])
    · refine lp (Or.inl ?_)
      rw [eR] at w
      rcases Nat.eq_zero_or_pos R with q | q
      · exact q
      · exact absurd (nI_lt (a := 0) q (by omega)) w
  · have hR8 : R = 8 := by
      rw [a5] at z
      rcases Nat.lt_or_ge R 8 with w | w
      · exact absurd (nI_lt (b := 8) w (by omega)) z
      · omega
    refine failS ⟨Or.inl rfl, k 0 _ (hcF.s (by omega)) (fun S d x Q' kk => rr (c170_43 ⟨by decide, fun _ => badR ⟨Or.inl rfl, Or.inl rfl, kk _ _ hrF.bd (lo0 (f := 4) (by decide) rfl rfl t.2.2.2.1 u.2.2.2.1)⟩, fun q => absurd (by rw [i0, a6, hR8]; rfl) q⟩))⟩
end PH0
end
section
section PI0
variable {S : Nat × (Nat → Int32)} {d : Nat} {x : mX} {I I' : rI0} {J J' : rJ0} {b : Nat → Int32} {n lim p R C : Nat}
theorem tPk1 {q : Nat} : (tPk b q 1).toInt32 = b q := by
  show (((0 : Int64) <<< ((8 : Int32).toInt64 &&& 63)) ||| (b (q + 0)).toInt64).toInt32 = b q
  have e : (0 : Int64) <<< ((8 : Int32).toInt64 &&& 63) = 0 := by decide
  rw [e, Nat.add_zero]
  simp
theorem copyR {l1 l2 : Int32} {to : Nat} {Rl : List Int32} {Q : Int32 → rI0 → rJ0 → Prop} (ht : l2 = nI to) (hto : to + 42 ≤ 590) (hl : Rl.length ≤ 40) : ∀ (m c : Nat) (I : rI0), c + m = Rl.length → I 43 26 = nI Rl.length → (∀ I', (∀ a, a ≠ 46 → I' a = I a) → (∀ j, ¬ (to + 2 + c ≤ j ∧ j < to + 2 + Rl.length) → I' 46 j = I 46 j) → (∀ k, c ≤ k → k < Rl.length → I' 46 (to + 2 + k) = I 48 k) → Q 1 I' J) → wp S (d + 1) 171 133 [some (.ref 43), some (.int l1), some (.int l2), some (.int (nI c))] [] (wv x I J) (rI x Q) := by
  subst ht
  intro m
  induction m with
  | zero =>
    intro c I hc e k
    have hc : c = Rl.length := by omega
    subst hc
    exact v171_43_133 ⟨fun z => absurd z (by rw [e]; exact nI_nlt (Nat.le_refl _) (by omega)), fun _ => k I (fun _ _ => rfl) (fun _ _ => rfl) (fun k q1 q2 => absurd q1 (by omega))⟩
  | succ m ih =>
    intro c I hc e k
    have ix : nI to + 2 + nI c = nI (to + 2 + c) := by
      show nI to + nI 2 + nI c = _
      rw [nI_add, nI_add]
    refine v171_43_133 ⟨fun _ => ⟨nI_in (by omega) (by omega), by rw [ix]; exact nI_in (by omega) (by omega), ?_⟩, fun q => absurd (by rw [e]; exact nI_lt (by omega) (by omega)) q⟩
    rw [ix, nI_clamp (by omega), nI_clamp (by omega), ← nI_succ]
    refine ih (c + 1) _ (by omega) (by rw [mSet_ne (by decide)]; exact e) (fun I' o f g => k I' (fun a ha => by rw [o a ha, mSet_ne ha]) (fun j hj => by rw [f j (by omega), mSet_x (by omega)]) (fun k' q1 q2 => ?_))
    rcases (show k' = c ∨ c + 1 ≤ k' by omega) with q | q
    · rw [q, f (to + 2 + c) (by omega)]
      unfold mSet va_up
      rw [if_pos rfl, if_pos rfl]
    · rw [g k' q q2, mSet_ne (by decide)]
theorem lnLaw {w : Nat} {Q : Int32 → rI0 → rJ0 → Prop} (h : HRl R C I I') (t : Tck b n lim p I) (h8 : I 28 8 = 0) (u : Nck b n lim p I' J') (hw2 : (w = 0 ∧ uW b n lim p = 30064) ∨ (w = 1 ∧ uW b n lim p = 1685026670)) (k : ∀ v I1, hcF I I1 → RefL b n lim p I' J' v I1 → Q v I1 J) : wcI S (d + 28) 40 [.ref 29, .int (nI w)] x I J Q := by
  have w1 : w ≤ 1 := by omega
  have hw0 : ¬ uW b n lim p = 0 := by
    rcases hw2 with ⟨-, q⟩ | ⟨-, q⟩ <;> rw [q] <;> decide
  obtain ⟨ha, hp, hl, ho, ht⟩ := h
  have g1 := uE_le (b := b) (lim := lim) t.1
  have g2 := uE_le (b := b) (lim := lim) g1.2
  have pg := (uE_gt (b := b) (n := n) (lim := lim) (p := p) (fun q => hw0 (uW_n (by rw [q]; decide))) (fun q => hw0 (uW_n (by rw [q]; decide)))).1
  have rr : ∀ {S : Nat × (Nat → Int32)} {d : Nat} {x : mX} {Q' : Int32 → rI0 → rJ0 → Prop}, wcI S (d + 8) 171 [.ref 43, .int (nI w)] x I' J' (fun r I2 J2 => (r = 0 ∨ r = 1) ∧ Q' r I2 J2) → wcI S (d + 9) 167 [.ref 43] x I' J' Q' := by
    intro S d x Q' kk
    rcases hw2 with ⟨e, hw⟩ | ⟨e, hw⟩
    · subst e
      exact c167_43 (wordR (by decide) u (fun q => absurd (hw.symm.trans q) (by decide)) (fun _ => ⟨fun _ => wordR (by decide) u (fun _ => ⟨fun q => absurd q (by decide), fun _ => kk⟩) (fun q => absurd hw q), fun q => absurd rfl q⟩))
    · subst e
      exact c167_43 (wordR (by decide) u (fun q => absurd (hw.symm.trans q) (by decide)) (fun _ => ⟨fun _ => wordR (by decide) u (fun q => absurd (hw.symm.trans q) (by decide)) (fun _ => ⟨fun _ => wordR (by decide) u (fun _ => ⟨fun q => absurd q (by decide), fun _ => kk⟩) (fun q => absurd hw q), fun q => absurd rfl q⟩), fun q => absurd rfl q⟩))
  -- the reference up to its letter
  have go : ∀ {S : Nat × (Nat → Int32)} {d : Nat} {x : mX} {Q' : Int32 → rI0 → rJ0 → Prop}, (∀ I2 J2, Nf5 I' J' I2 J2 → Nck b n lim (uE b n lim p) I2 J2 →
      (¬ uK b n lim (uE b n lim p) = 2 → Q' 0 (bdI I2 1) J2) ∧ (uK b n lim (uE b n lim p) = 2 → ¬ uL b n (uE b n lim p) = 1 → Q' 0 (bdI I2 2) J2) ∧ (uK b n lim (uE b n lim p) = 2 → uL b n (uE b n lim p) = 1 → ¬ (¬ b (tSk b n (uE b n lim p)) < 97 ∧ ¬ 102 < b (tSk b n (uE b n lim p))) → Q' 0 (bdI I2 2) J2)
      ∧ (∀ a, uK b n lim (uE b n lim p) = 2 → uL b n (uE b n lim p) = 1 → a ≤ 5 → b (tSk b n (uE b n lim p)) = nI (97 + a) → (¬ I' 46 (86 + 42 * (2 * a + w)) = 0 → Q' 0 (bdI I2 3) J2) ∧ (I' 46 (86 + 42 * (2 * a + w)) = 0 → ∀ I5 J5, Nf5 I2 J2 I5 J5 → Nck b n lim (uE b n lim (uE b n lim p)) I5 J5 → wcI S (d + 7) 177 [.ref 43] x (mSet (mSet (mSet I5 43 26 (0 : Int32)) 43 27 (0 : Int32)) 43 28 (0 : Int32)) J5 (fun r6 I6 J6 => (r6 = 0 → Q' 0 I6 J6) ∧ (¬ r6 = 0 → wp S (d + 8) 171 133 [some (.ref 43), some (.int (nI w)), some (.int (nI (86 + 42 * (2 * a + w)))), some (.int (0 : Int32))] [] (wv x (mSet (mSet I6 46 (86 + 42 * (2 * a + w)) (I6 43 28)) 46 (86 + 42 * (2 * a + w) + 1) (I6 43 26)) J6) (rI x (fun r I2 J2 => (r = 0 ∨ r = 1) ∧ Q' r I2 J2))))))) → wcI S (d + 9) 167 [.ref 43] x I' J' Q' := by
    intro S d x Q' kk
    refine rr (c171_43 (nextS u.2.1 (fun I2 J2 f2 t2 => ?_)))
    obtain ⟨k1, k2, k3, k4⟩ := kk I2 J2 f2 t2
    refine ⟨fun q => ?_, fun q => badR ⟨Or.inl rfl, Or.inl rfl, k1 (fun y => q (by rw [t2.2.2.1, y]; rfl))⟩⟩
    have z2 : uK b n lim (uE b n lim p) = 2 := tokOf_2.mp (t2.2.2.1.symm.trans q)
    have l8 := (uK_2 z2).2.2.1
    have e11 := (t2.2.2.2.2.1 z2).1
    have e15 := (t2.2.2.2.2.1 z2).2
    rw [e11]
    refine ⟨fun y => ?_, fun y => badR ⟨Or.inl rfl, Or.inl rfl, k2 z2 (fun q => y (by rw [q]; rfl))⟩⟩
    have y : uL b n (uE b n lim p) = 1 := nI_inj (c := 1) (by omega) (by omega) y
    have ec : (J2 43 15).toInt32 = b (tSk b n (uE b n lim p)) := by rw [e15, y, tPk1]
    rw [ec]
    refine okR (fun c => ⟨fun q => absurd q (by decide), fun _ => ?_⟩) (fun c => ⟨fun _ => badR ⟨Or.inl rfl, Or.inl rfl, k3 z2 y c⟩, fun q => absurd rfl q⟩)
    rcases kv_n (Or.inr c) with ⟨q, -⟩ | ⟨-, a, ha5, -, ea⟩
    · rw [q] at c; exact absurd c (by decide)
    have k4 := k4 a z2 y ha5 ea
    have ix : (86 : Int32) + 42 * (2 * ((J2 43 15).toInt32 - 97) + nI w) = nI (86 + 42 * (2 * a + w)) := by
      rw [ec, ea]
      show nI 86 + nI 42 * (nI 2 * (nI (97 + a) - nI 97) + nI w) = _
      rw [pk_sub (by omega), nI_mu, nI_add, nI_mu, nI_add]
      congr 1
      omega
    rw [ix]
    have c46 : I2 46 = I' 46 := f2.1 46 (by decide)
    have hn := ht (2 * a + w) (by omega)
    refine ⟨nI_in (by omega) (by omega), fun q => ?_, fun q => nextS t2.2.1 (fun I5 J5 f5 t5 => ?_)⟩
    · refine badR ⟨Or.inl rfl, Or.inl rfl, k4.1 (fun e => ?_)⟩
      rw [nI_clamp (by omega), c46, e] at q
      exact absurd q (by decide)
    · rw [nI_clamp (by omega), c46] at q
      have e0 : I' 46 (86 + 42 * (2 * a + w)) = 0 := by
        rcases hn with e | ⟨sz, -, e, e2⟩
        · exact e.2
        · rw [e] at q
          exact absurd (nI_lt (a := 0) e2.1 (by have := e2.2.1; omega)) q
      refine wcI_mono (k4.2 e0 I5 J5 f5 t5) (fun r6 I6 J6 g => ⟨fun y => ⟨Or.inl rfl, g.1 y⟩, fun y => ⟨nI_in (by omega) (by omega), ?_, ?_⟩⟩)
      · rw [← nI_succ]
        exact nI_in (by omega) (by omega)
      · have i1 : nI (86 + 42 * (2 * a + w)) + 1 = nI (86 + 42 * (2 * a + w) + 1) := (nI_succ _).symm
        rw [i1, nI_clamp (by omega), nI_clamp (by omega)]
        exact g.2 y
  refine c40_29 (readS t.2.1 (fun I1 o1 t1 => ?_))
  have e8 : I1 28 8 = 0 := by rw [o1.2 8 (by omega)]; exact h8
  have f1 : hcF I I1 := hcF.o o1.1
  refine ⟨fun z => ?_, fun z => failS ⟨Or.inl rfl, k 0 _ (f1.tr (hcF.s (by omega))) (fun S d x Q' kk => go (fun I2 J2 f2 t2 => ⟨fun _ => kk _ _ ((hrF.nx f2).tr hrF.bd) (lo0 (f := 1) (by decide) rfl rfl t1.2.2.2.1 t2.2.2.2.1), fun q => absurd (t1.2.2.1.trans q) z, fun q => absurd (t1.2.2.1.trans q) z, fun a q => absurd (t1.2.2.1.trans q) z⟩))⟩⟩
  have z2 : uK b n lim (uE b n lim p) = 2 := t1.2.2.1.symm.trans z
  have l8 := (uK_2 z2).2.2.1
  refine sizeS t1 z2 ⟨fun y => ?_, fun y => ?_⟩
  · have y : uL b n (uE b n lim p) = 1 := nI_inj (c := 1) (by omega) (by omega) y
    have sg : ∀ {Q : Int32 → rI0 → rJ0 → Prop}, Q (b (tSk b n (uE b n lim p))) I1 J → wcI S (d + 27) 72 [.ref 28, .int (0 : Int32)] x I1 J Q := by
      intro Q kk
      refine signS (c := 0) (by omega) t1 z2 ?_
      rw [if_pos (by omega), Nat.add_zero]
      exact kk
    refine sg (isKindS (fun c => ⟨fun q => absurd q (by decide), fun _ => sg ?_⟩) (fun c => ⟨fun _ => ?_, fun q => absurd rfl q⟩))
    · rcases kv_n (Or.inr c) with ⟨q, -⟩ | ⟨-, a, ha5, -, ea⟩
      · rw [q] at c; exact absurd c (by decide)
      have ix : (2 : Int32) * (b (tSk b n (uE b n lim p)) - 97) + nI w = nI (2 * a + w) := by
        rw [ea]
        show nI 2 * (nI (97 + a) - nI 97) + nI w = _
        rw [pk_sub (by omega), nI_mu, nI_add]
        congr 1
        omega
      rw [ix, nI_clamp (by omega)]
      have e21 : I1 21 (2 * a + w) = I 21 (2 * a + w) := by rw [o1.1 21 (by decide)]
      rw [e21]
      have hn := ht (2 * a + w) (by omega)
      refine ⟨nI_in (by omega) (by omega), fun e => ?_, fun e => ?_⟩
      · have e0 : I' 46 (86 + 42 * (2 * a + w)) = 0 := by
          rcases hn with q | ⟨sz, q1, -, q2⟩
          · exact q.2
          · rw [q1] at e
            exact absurd e (m1_p (by have := q2.2.1; omega))
        refine readS t1.2.1 (fun I2 o2 t2 => ?_)
        have e82 : I2 28 8 = 0 := by rw [o2.2 8 (by omega)]; exact e8
        have f2 : hcF I I2 := f1.tr (hcF.o o2.1)
        obtain ⟨f, p', o', s, V, q0, q1, q2⟩ := pj1 (b := b) (lim := lim) (m := 8) (by omega) (po1 8 (by omega)) (o := 0) g2.2 (by omega)
        have ed : nI (2 * a + w) * 20 = nI (20 * (2 * a + w)) := by
          show nI (2 * a + w) * nI 20 = _
          rw [nI_mu, Nat.mul_comm]
        rw [ed]
        have cj := q1 S d x (mSet I2 29 2 0) J (20 * (2 * a + w))
        have cf : ∀ I4, cFr (20 * (2 * a + w)) 0 (mSet I2 29 2 0) I4 → hcF I I4 := fun I4 c4 => f2.tr ((hcF.s (by omega)).tr (fun r hr => c4.1 r (by omega) (by omega) (by omega)))
        refine cj _ (by omega) t2.s29 (by rw [mSet_ne (by decide)]; exact e82) rfl (fun y1 I4 c1 c2 c3 => ⟨fun _ => k 0 I4 (cf I4 c1) (fun S d x Q' kk => go (fun I5 J5 f5 t5 => ⟨fun q => absurd z2 q, fun _ q => absurd y q, fun _ _ q => absurd c q, fun a' _ _ ha' ea' => ?_⟩)), fun q => absurd rfl q⟩) (fun y1 I4 c1 c2 c3 c4 c5 => ⟨fun q => absurd q (by decide), fun _ => ⟨nI_in (by omega) (by omega), k 1 _ ((cf I4 c1).tr (hcF.s (by omega))) (fun S d x Q' kk => go (fun I5 J5 f5 t5 => ⟨fun q => absurd z2 q, fun _ q => absurd y q, fun _ _ q => absurd c q, fun a' _ _ ha' ea' => ?_⟩))⟩⟩)
        · have ea2 : a' = a := by have := nI_inj (by omega) (by omega) (ea'.symm.trans ea); omega
          subst ea2
          refine ⟨fun q => absurd e0 q, fun _ I6 J6 f6 t6 => c177_43 ?_⟩
          have r6 : RS b n lim (uE b n lim (uE b n lim p)) 0 [] [] (mSet (mSet (mSet I6 43 26 0) 43 27 0) 43 28 0) J6 := ⟨t6.cg (by rw [mSet_ne (by decide), mSet_ne (by decide), mSet_ne (by decide)]) (fun k hk => by rw [mSet_x (by omega), mSet_x (by omega), mSet_x (by omega)]), rfl, rfl, True.intro, rfl, True.intro⟩
          have fr : pFr I6 J6 (mSet (mSet (mSet I6 43 26 0) 43 27 0) 43 28 0) J6 := (pFr.s (by omega)).tr ((pFr.s (by omega)).tr (pFr.s (by omega)))
          exact q2 S (d + 1) x _ J6 [] [] (fun r6 I6 J6 => (r6 = 0 → Q' 0 I6 J6) ∧ (¬ r6 = 0 → wp S (d + 8) 171 133 [some (.ref 43), some (.int (nI w)), some (.int (nI (86 + 42 * (2 * a' + w)))), some (.int (0 : Int32))] [] (wv x (mSet (mSet I6 46 (86 + 42 * (2 * a' + w)) (I6 43 28)) 46 (86 + 42 * (2 * a' + w) + 1) (I6 43 26)) J6) (rI x (fun r I2 J2 => (r = 0 ∨ r = 1) ∧ Q' r I2 J2)))) r6 (by decide) (by decide) (by decide) (Or.inl rfl) (fun _ I7 J7 d1 d2 => ⟨fun _ => kk _ _ (((hrF.nx f5).tr ((hrF.nx f6).tr (hrF.pf (fr.tr d1)))).tr hrF.bd) (lo0 (f := f) (q := uA b n lim p') y1 c2 rfl c3 d2), fun q => absurd rfl q⟩) (fun q => absurd q y1)
        · have ea2 : a' = a := by have := nI_inj (by omega) (by omega) (ea'.symm.trans ea); omega
          subst ea2
          obtain ⟨b1, b2, b3, b4, b5, b6, b7, b8⟩ := q0 y1
          refine ⟨fun q => absurd e0 q, fun _ I6 J6 f6 t6 => c177_43 ?_⟩
          have r6 : RS b n lim (uE b n lim (uE b n lim p)) 0 [] [] (mSet (mSet (mSet I6 43 26 0) 43 27 0) 43 28 0) J6 := ⟨t6.cg (by rw [mSet_ne (by decide), mSet_ne (by decide), mSet_ne (by decide)]) (fun k hk => by rw [mSet_x (by omega), mSet_x (by omega), mSet_x (by omega)]), rfl, rfl, True.intro, rfl, True.intro⟩
          have fr : pFr I6 J6 (mSet (mSet (mSet I6 43 26 0) 43 27 0) 43 28 0) J6 := (pFr.s (by omega)).tr ((pFr.s (by omega)).tr (pFr.s (by omega)))
          refine q2 S (d + 1) x _ J6 [] [] (fun r6 I6 J6 => (r6 = 0 → Q' 0 I6 J6) ∧ (¬ r6 = 0 → wp S (d + 8) 171 133 [some (.ref 43), some (.int (nI w)), some (.int (nI (86 + 42 * (2 * a' + w)))), some (.int (0 : Int32))] [] (wv x (mSet (mSet I6 46 (86 + 42 * (2 * a' + w)) (I6 43 28)) 46 (86 + 42 * (2 * a' + w) + 1) (I6 43 26)) J6) (rI x (fun r I2 J2 => (r = 0 ∨ r = 1) ∧ Q' r I2 J2)))) r6 (by decide) (by decide) (by decide) (Or.inl rfl) (fun q => absurd y1 q) (fun _ I7 J7 d1 d2 => endR d2 b7 b8 (by omega) (fun I8 d3 d4 => ⟨fun q => absurd q (by decide), fun _ => ?_⟩))
          refine copyR (Rl := eF s) (to := 86 + 42 * (2 * a' + w)) rfl (by omega) (by omega) (eF s).length 0 _ (by omega) (by rw [mSet_ne (by decide), mSet_ne (by decide)]; exact d4.2.2.1) (fun I9 o9 s9 w9 => ⟨Or.inr rfl, ?_⟩)
          have fr9 : hrF I8 J7 I9 J7 := ⟨fun r hr => by rw [o9 r (by omega), mSet_ne (by omega), mSet_ne (by omega)], fun k hk => by rw [o9 43 (by decide), mSet_ne (by decide), mSet_ne (by decide)], fun _ _ => rfl, fun _ _ => rfl⟩
          refine kk I9 J7 ((hrF.nx f5).tr ((hrF.nx f6).tr ((hrF.pf (fr.tr (d1.tr d3))).tr fr9))) (Or.inr ⟨rfl, (by rw [o9 43 (by decide), mSet_ne (by decide), mSet_ne (by decide), d3.2.1 13 (by omega), d1.2.1 13 (by omega), fr.2.1 13 (by omega), f6.2.1 13 (by omega), f5.2.1 13 (by omega)]), p', R, C, by omega, b4, c2.o (mSet_ne (by decide)) (mSet_ne (by decide)), by rw [mSet_ne (by decide)]; exact c3, d4.1.cg (by rw [o9 44 (by decide), mSet_ne (by decide), mSet_ne (by decide)]) (fun k hk => by rw [o9 43 (by decide), mSet_ne (by decide), mSet_ne (by decide)]), ?_⟩)
          rw [c4]
          have e846 : I8 46 = I' 46 := by rw [d3.1 46 (by decide) (by decide) (by decide), d1.1 46 (by decide) (by decide) (by decide), fr.1 46 (by decide) (by decide) (by decide), f6.1 46 (by decide), f5.1 46 (by decide)]
          have r46 : ∀ j, ¬ (86 + 42 * (2 * a' + w) ≤ j ∧ j < 128 + 42 * (2 * a' + w)) → I9 46 j = I' 46 j := fun j hj => by rw [s9 j (by omega), mSet_x (by omega), mSet_x (by omega), e846]
          have r43 : ∀ j, 20 ≤ j → j ≤ 22 → I9 43 j = I' 43 j := fun j q1 q2 => by rw [o9 43 (by decide), mSet_ne (by decide), mSet_ne (by decide), d3.2.1 j (by omega), d1.2.1 j (by omega), fr.2.1 j (by omega), f6.2.1 j (by omega), f5.2.1 j (by omega)]
          have cc : ∀ r, r ≠ 22 → r ≠ 28 → r ≠ 29 → I4 r = I r := fun r q1 q2 q3 => by rw [c1.1 r q1 q2 q3, mSet_ne q3, o2.1 r q2, o1.1 r q2]
          have c29 : ∀ j, j ≠ 2 → j ≠ 6 → I4 29 j = I 29 j := fun j q1 q2 => by rw [c1.2.1 j q1 q2, mSet_x (by omega), o2.1 29 (by decide), o1.1 29 (by decide)]
          have c22 : ∀ i, ¬ (20 * (2 * a' + w) ≤ i ∧ i < 20 * (2 * a' + w) + 20) → I4 22 i = I 22 i := fun i hi => by rw [c1.2.2 i (by omega), mSet_ne (by decide), o2.1 22 (by decide), o1.1 22 (by decide)]
          refine ⟨ha.cg (by rw [mSet_ne (by decide), cc 16 (by decide) (by decide) (by decide)]) (by rw [mSet_ne (by decide), cc 16 (by decide) (by decide) (by decide)]) (fun i _ => by rw [mSet_ne (by decide), cc 17 (by decide) (by decide) (by decide)]) (fun j q1 q2 => r46 j (by omega)), hp.cg (by rw [mSet_ne (by decide), c29 3 (by decide) (by decide)]) (r43 20 (by omega) (by omega)) (by rw [mSet_ne (by decide), cc 19 (by decide) (by decide) (by decide)]) (fun j q1 q2 => r46 j (by omega)), hl.cg (r43 21 (by omega) (by omega)) (by rw [mSet_ne (by decide), cc 20 (by decide) (by decide) (by decide)]) (fun j q1 q2 => r46 j (by omega)), ho.cg (fun j q => by rw [mSet_ne (by decide), c29 j (by omega) (by omega)]) (fun j _ _ => by rw [mSet_ne (by decide), cc 16 (by decide) (by decide) (by decide)]) (r43 22 (by omega) (by omega)) (fun j q1 q2 => r46 j (by omega)), fun l hl12 => ?_⟩
          have e22 : (mSet I4 21 (2 * a' + w) (nI o')) 22 = I4 22 := mSet_ne (by decide)
          rw [e22]
          by_cases el : l = 2 * a' + w
          · rw [el]
            refine Or.inr ⟨o', ?_, ?_, by omega, b2, V, eF s, ?_, b5, by omega, ?_, ?_⟩
            · unfold mSet va_up; rw [if_pos rfl, if_pos rfl]
            · rw [s9 _ (by omega), mSet_x (by omega)]
              have l0 : (mSet I8 46 (86 + 42 * (2 * a' + w)) (I8 43 28)) 46 (86 + 42 * (2 * a' + w)) = I8 43 28 := by unfold mSet va_up; rw [if_pos rfl, if_pos rfl]
              rw [l0]
              exact d4.2.1
            · exact c5
            · rw [s9 _ (by omega), show 87 + 42 * (2 * a' + w) = 86 + 42 * (2 * a' + w) + 1 by omega]
              have l0 : (mSet (mSet I8 46 (86 + 42 * (2 * a' + w)) (I8 43 28)) 46 (86 + 42 * (2 * a' + w) + 1) (I8 43 26)) 46 (86 + 42 * (2 * a' + w) + 1) = I8 43 26 := by unfold mSet va_up; rw [if_pos rfl, if_pos rfl]
              rw [l0]
              exact d4.2.2.1
            · refine arr_cg (A := I8 48) (eF s) (fun i hi => ?_) d4.2.2.2.1
              have q := w9 i (by omega) hi
              rw [mSet_ne (by decide), mSet_ne (by decide)] at q
              show I9 46 (88 + 42 * (2 * a' + w) + i) = I8 48 i
              rw [← q, show 86 + 42 * (2 * a' + w) + 2 + i = 88 + 42 * (2 * a' + w) + i by omega]
          · rw [mSet_x (by omega), cc 21 (by decide) (by decide) (by decide), r46 (86 + 42 * l) (by omega)]
            rcases ht l hl12 with g | ⟨sz, g1', g2', g3'⟩
            · exact Or.inl g
            · exact Or.inr ⟨sz, g1', g2', g3'.cg (fun i q1 q2 => c22 i (by omega)) (fun j q1 q2 => r46 j (by omega))⟩
      · refine failS ⟨Or.inl rfl, k 0 _ (f1.tr (hcF.s (by omega))) (fun S d x Q' kk => go (fun I2 J2 f2 t2 => ⟨fun q => absurd z2 q, fun _ q => absurd y q, fun _ _ q => absurd c q, fun a' _ _ ha' ea' => ?_⟩))⟩
        have ea2 : a' = a := by have := nI_inj (by omega) (by omega) (ea'.symm.trans ea); omega
        subst ea2
        have e0 : ¬ I' 46 (86 + 42 * (2 * a' + w)) = 0 := by
          rcases hn with q | ⟨sz, -, q, q2⟩
          · exact absurd q.1 e
          · rw [q]
            exact nI_ne0 q2.1 (by have := q2.2.1; omega)
        exact ⟨fun _ => kk _ _ ((hrF.nx f2).tr hrF.bd) (lo0 (f := 3) (by decide) rfl rfl t1.2.2.2.1 t2.2.2.2.1), fun q => absurd q e0⟩
    · refine failS ⟨Or.inl rfl, k 0 _ (f1.tr (hcF.s (by omega))) (fun S d x Q' kk => go (fun I2 J2 f2 t2 => ⟨fun q => absurd z2 q, fun _ q => absurd y q, fun _ _ _ => kk _ _ ((hrF.nx f2).tr hrF.bd) (lo0 (f := 2) (by decide) rfl rfl t1.2.2.2.1 t2.2.2.2.1), fun a' _ _ ha' ea' => absurd ?_ c⟩))⟩
      rw [ea']
      exact ⟨nI_nlt (a := 97 + a') (b := 97) (by omega) (by omega), nI_nlt (a := 102) (b := 97 + a') (by omega) (by omega)⟩
  · have y : ¬ uL b n (uE b n lim p) = 1 := fun q => y (by rw [q]; rfl)
    exact failS ⟨Or.inl rfl, k 0 _ (f1.tr (hcF.s (by omega))) (fun S d x Q' kk => go (fun I2 J2 f2 t2 => ⟨fun q => absurd z2 q, fun _ _ => kk _ _ ((hrF.nx f2).tr hrF.bd) (lo0 (f := 2) (by decide) rfl rfl t1.2.2.2.1 t2.2.2.2.1), fun _ q => absurd q y, fun a' _ q => absurd q y⟩))⟩
end PI0
end
