section MD0
variable {S : Nat × (Nat → Int32)} {d : Nat} {x : mX} {I I0 : rI0} {J J0 : rJ0} {Tl : Int32 × Option Int32} {R C : Int}
theorem lg_o {v : Int64} : lg_cmp v 1 = 0 ↔ v = 1 := by
  constructor
  · intro h
    unfold lg_cmp at h
    split at h
    · exact absurd h (by decide)
    · split at h
      · assumption
      · exact absurd h (by decide)
  · rintro rfl
    decide
theorem smo : ∀ c, c < 64 → (((nI c).toInt64 &&& 63).toBitVec.smod 64).toNat = c := by decide +kernel
theorem hb_iff {w : Int64} {u : Nat} (hu : u < 64) : lg_cmp ((w >>> ((nI u).toInt64 &&& 63)) &&& 1) 1 = 0 ↔ SB w u := by
  rw [lg_o, ← Int64.toBitVec_inj, Int64.toBitVec_and, Int64.toBitVec_shiftRight]
  have e : (w.toBitVec.sshiftRight' (((nI u).toInt64 &&& 63).toBitVec.smod 64)).getLsbD 0 = w.toBitVec.getLsbD u := by
    rw [BitVec.getLsbD_sshiftRight', smo u hu]
    simp [hu]
  unfold SB
  rw [← e]
  generalize w.toBitVec.sshiftRight' (((nI u).toInt64 &&& 63).toBitVec.smod 64) = y
  show y &&& 1#64 = 1#64 ↔ _
  constructor
  · intro h
    have t := congrArg (fun x => x.getLsbD 0) h
    simpa using t
  · intro h
    apply BitVec.eq_of_getLsbD_eq
    intro i hi
    cases i with
    | zero => simp [h]
    | succ i => simp
def cb (p : Nat → Bool) : Nat → Int
  | 0 => 0
  | n + 1 => cb p n + (if p n = true then 1 else 0)
theorem cb_s (p : Nat → Bool) (n : Nat) : cb p (n + 1) = cb p n + (if p n = true then 1 else 0) := rfl
theorem cb_rm {p q : Nat → Bool} {v : Nat} (hv : p v = true) (qv : q v = false) (h : ∀ u, u ≠ v → q u = p u) : ∀ n, cb q n = cb p n - (if v < n then 1 else 0) := by
  intro n
  induction n with
  | zero => rfl
  | succ n ih =>
    rw [cb_s, cb_s, ih]
    by_cases z : n = v
    · subst z
      have a1 : (if q n = true then (1 : Int) else 0) = 0 := by rw [qv]; rfl
      have a2 : (if p n = true then (1 : Int) else 0) = 1 := by rw [hv]; rfl
      have a3 : (if n < n then (1 : Int) else 0) = 0 := if_neg (by omega)
      have a4 : (if n < n + 1 then (1 : Int) else 0) = 1 := if_pos (by omega)
      rw [a1, a2, a3, a4]
      omega
    · rw [h n z]
      by_cases y : v < n
      · rw [if_pos y, if_pos (show v < n + 1 by omega)]
        omega
      · rw [if_neg y, if_neg (show ¬ v < n + 1 by omega)]
        omega
def fb (g : Nat → Int32) (w : Int64) (u : Nat) : Bool := decide (0 < (g (6 + u)).toInt) && !(w.toBitVec.getLsbD u)
theorem fb_t {g : Nat → Int32} {w : Int64} {u : Nat} (h : 0 < (g (6 + u)).toInt) (hb : ¬ SB w u) : fb g w u = true := by
  unfold fb
  unfold SB at hb
  rw [decide_eq_true h, ts_nt hb]
  rfl
theorem fb_f {g : Nat → Int32} {w : Int64} {u : Nat} (h : ¬ 0 < (g (6 + u)).toInt ∨ SB w u) : fb g w u = false := by
  unfold fb
  rcases h with h | h
  · rw [decide_eq_false h]
    rfl
  · unfold SB at h
    rw [h]
    cases decide (0 < (g (6 + u)).toInt) <;> rfl
theorem cb_0 {g : Nat → Int32} : ∀ n, cb (fb g 0) n = cnt g n := by
  intro n
  induction n with
  | zero => rfl
  | succ n ih =>
    rw [cb_s, ih]
    show _ = cnt g n + _
    by_cases z : 0 < (g (6 + n)).toInt
    · rw [fb_t z (fun y => SB_0 y), if_pos rfl, if_pos z]
    · rw [fb_f (Or.inl z), if_neg (by decide), if_neg z]
theorem mSeatX {u : Nat} {Q : Int32 → rI0 → rJ0 → Prop} (h : Mz_ I0 J0 Tl R C I J) (hu : u < 64) (k0 : ¬ 0 < (I 45 (6 + u)).toInt → Q 0 I J) (k1 : 0 < (I 45 (6 + u)).toInt → Q 1 I J) : wcI S (d + 1) 183 [.ref 43, .int (nI u)] x I J Q := by
  have b := h.bnd
  have l0 : (0 : Int32).toInt = 0 := by decide
  have l1 : (1 : Int32).toInt = 1 := by decide
  have eu : (nI u).toInt = (u : Int) := nI_toInt (by omega)
  have m := i_mb (A := (I 45 0).toInt) (B := (I 45 1).toInt) (by omega) (by omega)
  have tm := i_mul (a := I 45 0) (b := I 45 1) rfl rfl (by omega)
  have ts := i_sub tm l1 (by omega)
  have e6 : (6 : Int32) + nI u = nI (6 + u) := nI_add 6 u
  have c6 : ((6 : Int32) + nI u).toNatClampNeg = 6 + u := by rw [e6, nI_clamp (by omega)]
  refine c183_43 ⟨i_in l0 (by omega), i_in l1 (by omega), c151 ⟨fun q => ?_, fun _ => ⟨fun q => ⟨fun _ => k0 ?_, fun z => absurd rfl z⟩, fun _ => ⟨fun z => absurd z (by decide), fun _ => ⟨?_, fun q => k1 ?_, fun q => k0 ?_⟩⟩⟩⟩⟩
  · have q := i_lt q
    rw [eu] at q
    omega
  · have q : (I 45 0 * I 45 1 - 1).toInt < (nI u).toInt := i_lt q
    rw [ts, eu] at q
    have := h.1.2.1.1.2.2.2.2.1 u hu (by omega)
    omega
  · rw [e6]
    exact nI_in (by omega) (by omega)
  · have q := i_lt q
    rw [c6] at q
    omega
  · have q := i_nlt q
    rw [c6] at q
    omega
theorem dr55 {l1 l2 l5 : Int32} {w : Int64} {Q : Int32 → rI0 → rJ0 → Prop} (h : Mz_ I0 J0 Tl R C I J) (K : ∀ u, u < 64 → fb (I 45) w u = true → wp S (d + 2) 242 31 [some (.ref 43), some (.int l1), some (.int l2), some (.long (w ||| ((1 : Int64) <<< ((nI u).toInt64 &&& 63)))), none, some (.int (l5 + (1 : Int32))), none, none] [] (wv x I J) (rI x Q)) : ∀ (m u : Nat) (l6 : Int32), u + m = 64 → 0 ≤ l6.toInt → l6.toInt < cb (fb (I 45) w) 64 - cb (fb (I 45) w) u → wp S (d + 2) 242 55 [some (.ref 43), some (.int l1), some (.int l2), some (.long w), none, some (.int l5), some (.int l6), some (.int (nI u))] [] (wv x I J) (rI x Q) := by
  intro m
  have l0 : (0 : Int32).toInt = 0 := by decide
  have l1' : (1 : Int32).toInt = 1 := by decide
  induction m with
  | zero =>
    intro u l6 hu h0 h1
    have : u = 64 := by omega
    subst this
    omega
  | succ m ih =>
    intro u l6 hu h0 h1
    have cs := cb_s (fb (I 45) w) u
    have s0 : (l6 - (0 : Int32)).toInt = l6.toInt := by rw [i_sub (a := l6) rfl l0 (by have := i_rng l6; omega)]; omega
    have nofree : fb (I 45) w u = false → wp S (d + 2) 242 55 [some (.ref 43), some (.int l1), some (.int l2), some (.long w), none, some (.int l5), some (.int (l6 - (0 : Int32))), some (.int (nI u + 1))] [] (wv x I J) (rI x Q) := by
      intro hf
      rw [hf, if_neg (by decide)] at cs
      rw [← nI_succ]
      exact ih (u + 1) _ (by omega) (by omega) (by omega)
    refine v242_43_55 (mSeatX h (by omega) (fun n1 => ⟨fun _ => ?_, fun z => absurd rfl z⟩) (fun p1 => ⟨fun z => absurd z (by decide), fun _ => c153 ⟨fun q => ⟨fun z => absurd z (by decide), fun _ => ?_⟩, fun q => ⟨fun _ => ⟨fun q6 => ?_, fun q6 => ?_⟩, fun z => absurd rfl z⟩⟩⟩))
    · exact v242_43_78 (mSeatX h (by omega) (fun _ => ⟨fun _ => nofree (fb_f (Or.inl n1)), fun z => absurd rfl z⟩) (fun p1 => absurd p1 n1))
    · have hb := (hb_iff (by omega)).mp q
      exact v242_43_78 (mSeatX h (by omega) (fun n1 => absurd p1 n1) (fun _ => ⟨fun z => absurd z (by decide), fun _ => c153 ⟨fun _ => ⟨fun z => absurd z (by decide), fun _ => nofree (fb_f (Or.inr hb))⟩, fun z => absurd q z⟩⟩))
    · have hb : ¬ SB w u := fun z => q ((hb_iff (by omega)).mpr z)
      have hf := fb_t p1 hb
      rw [hf, if_pos rfl] at cs
      have q6 := i_lt q6
      have s1 := i_sub (a := l6) rfl l1' (by have := i_rng l6; omega)
      refine v242_43_78 (mSeatX h (by omega) (fun n1 => absurd p1 n1) (fun _ => ⟨fun z => absurd z (by decide), fun _ => c153 ⟨fun z => absurd z q, fun _ => ⟨fun _ => ?_, fun z => absurd rfl z⟩⟩⟩))
      rw [← nI_succ]
      exact ih (u + 1) _ (by omega) (by omega) (by omega)
    · have hb : ¬ SB w u := fun z => q ((hb_iff (by omega)).mpr z)
      exact K u (by omega) (fb_t p1 hb)
theorem dr31 {l1 l2 : Int32} {g : Nat → Int32} {Q : Int32 → rI0 → rJ0 → Prop} (hl : l1.toInt ≤ (g 2).toInt) (k : ∀ I J, Mz_ I0 J0 Tl R C I J → Q 1 I J) : ∀ (m : Nat) (w : Int64) (l5 : Int32) (I : rI0) (J : rJ0), (l1.toInt - l5.toInt).toNat = m → Mz_ I0 J0 Tl R C I J → I 45 = g → 0 ≤ l5.toInt → cb (fb g w) 64 = (g 2).toInt - l5.toInt → wp S (d + 2) 242 31 [some (.ref 43), some (.int l1), some (.int l2), some (.long w), none, some (.int l5), none, none] [] (wv x I J) (rI x Q) := by
  refine lpn ?_
  intro m ih w l5 I J hm h hg h0 hc
  have l2' : (2 : Int32).toInt = 2 := by decide
  have l1' : (1 : Int32).toInt = 1 := by decide
  have r2 : (I 45 2).toInt = (g 2).toInt := by rw [hg]
  have rr := i_rng (g 2)
  refine v242_43_31 ⟨fun q => ⟨i_in l2' (by omega), ?_⟩, fun _ => k _ _ (h.sj (by decide))⟩
  have q := i_lt q
  have ts := i_sub (a := I 45 2) (b := l5) r2 rfl (by omega)
  have ta := i_add (a := l5) (b := 1) rfl l1' (by omega)
  refine mDraw h (by show 1 ≤ (I 45 2 - l5).toInt; omega) (fun r I1 J1 h1 hr e1 => ?_)
  have hr : 0 ≤ r.toInt ∧ r.toInt < (I 45 2 - l5).toInt := hr
  have eg : I1 45 = g := e1.trans hg
  refine dr55 h1 (fun u hu hf => ?_) 64 0 r rfl hr.1 ?_
  · refine ih (l1.toInt - (l5 + 1).toInt).toNat (by omega) _ _ I1 J1 rfl h1 eg (by omega) ?_
    rw [eg] at hf
    have hq : fb g (w ||| ((1 : Int64) <<< ((nI u).toInt64 &&& 63))) u = false := by
      refine fb_f (Or.inr ?_)
      unfold SB
      rw [Int64.toBitVec_or, BitVec.getLsbD_or, sh1 u hu, BitVec.getLsbD_twoPow]
      simp [hu]
    have hne : ∀ v, v ≠ u → fb g (w ||| ((1 : Int64) <<< ((nI u).toInt64 &&& 63))) v = fb g w v := by
      intro v hv
      unfold fb
      rw [Int64.toBitVec_or, BitVec.getLsbD_or, sh1 u hu, BitVec.getLsbD_twoPow]
      have : decide (u = v) = false := decide_eq_false (fun z => hv z.symm)
      rw [this]
      simp
    rw [cb_rm hf hq hne 64, if_pos hu]
    omega
  · rw [eg, hc]
    show r.toInt < _ - 0
    omega
theorem mDrawn {p1 p2 : Int32} {Q : Int32 → rI0 → rJ0 → Prop} (h : Mz_ I0 J0 Tl R C I J) (k : ∀ r I J, Mz_ I0 J0 Tl R C I J → Q r I J) : wcI S (d + 2) 242 [.ref 43, .int p1, .int p2] x I J Q := by
  have l2' : (2 : Int32).toInt = 2 := by decide
  have l0 : (0 : Int32).toInt = 0 := by decide
  have h1 : Mz_ I0 J0 Tl R C (mSet I 43 0 0) J := h.si (by decide)
  refine c242_43 ⟨i_in l2' (by omega), mIn (fun r g1 => ⟨fun _ => k _ _ _ h1, fun n1 => ?_⟩)⟩
  have n1 := i_ne n1
  have hl : p1.toInt ≤ (I 45 2).toInt := by
    have : (I 45 ((2 : Int32).toNatClampNeg)).toInt = (I 45 2).toInt := rfl
    omega
  exact dr31 (g := I 45) hl (fun I J h => k _ _ _ h) _ 0 0 _ _ rfl (h1.si (by decide)) rfl (by omega) (by rw [cb_0, ← h.1.2.1.1.2.2.2.1, l0]; omega)
/-! image and restore -/
theorem dpt_congr {c c' : Nat → Int32} {n : Nat} (h : ∀ j, j < n → c' j = c j) : ∀ j, j ≤ n → dpt c' j = dpt c j := by
  intro j
  induction j with
  | zero => intro _; rfl
  | succ j ih =>
    intro hj
    show dpt c' j + _ = dpt c j + _
    rw [ih (by omega), h j (by omega)]
theorem cok_congr' {c c' : Nat → Int32} {n : Nat} (h : ∀ j, j < n → c' j = c j) (o : cok c n) : cok c' n := by
  intro j hj
  rw [h j hj, dpt_congr h j (by omega)]
  exact o j hj
theorem HW_congr {g g' : Nat → Int32} (h : ∀ i, i < 590 → g' i = g i) (o : HW g) : HW g' := by
  obtain ⟨h0, h1, h2, h3, h4, h5⟩ := o
  refine ⟨by rw [h 0 (by omega)]; exact h0, by rw [h 1 (by omega)]; exact h1, fun v hv => by rw [h _ (by omega)]; exact h2 v hv, ?_, fun v hv => by rw [h 0 (by omega), h 1 (by omega), h _ (by omega)]; exact h4 v hv, fun l hl => ?_⟩
  · rw [h 2 (by omega), h3]
    exact cnt_congr 64 (fun v hv => by rw [h _ (by omega)])
  · have w := h5 l hl
    refine ⟨by rw [h _ (by omega)]; exact w.1, ?_⟩
    rw [h (87 + 42 * l) (by omega)]
    exact cok_congr' (fun j hj => h _ (by have := w.1; omega)) w.2
theorem KW_congr {g g' : Nat → Int32} (h : ∀ i, i < 591 → g' i = g i) (o : KW g) : KW g' := ⟨HW_congr (fun i hi => h i (by omega)) o.1, by rw [h 590 (by omega)]; exact o.2⟩
def Mf (I0 : rI0) (J0 : rJ0) (Tl : Int32) (I : rI0) (J : rJ0) : Prop := MV I J ∧ FW I0 Tl I ∧ ∀ b, ¬ (43 ≤ b ∧ b ≤ 62) → J b = J0 b
def Mfi (I0 : rI0) (J0 : rJ0) (Tl : Int32) (t : Nat) (I : rI0) (J : rJ0) : Prop := MV I J ∧ (∀ b, ¬ (43 ≤ b ∧ b ≤ 66 ∧ b ≠ 44) → I b = I0 b) ∧ (∀ b, ¬ (43 ≤ b ∧ b ≤ 66) → J b = J0 b) ∧ ¬ I 66 t = 0 ∧ (∀ s, s ≠ t → I 66 s = I0 66 s) ∧ I 43 2 = Tl ∧ PK (I0 45) (I 45) ∧ PQ (I0 45) (I 45) ∧ (∀ i, i < 681 → I 63 (681 * t + i) = I 45 i) ∧ ∀ j, ¬ (681 * t ≤ j ∧ j < 681 * t + 681) → I 63 j = I0 63 j
theorem Mf.z {Tl : Int32} (h : Mf I0 J0 Tl I J) : Mz_ (va_up I0 45 (I 45)) J0 (Tl, none) (I 45 0).toInt (I 45 1).toInt I J := ⟨h.1, rfl, rfl, ⟨⟨fun b hb => by rw [vu_ne (by omega)]; exact h.2.1.1 b hb, h.2.1.2⟩, by unfold va_up; rw [if_pos rfl]; exact ⟨PK.rf, fun _ _ _ => rfl⟩, fun v e => (by cases e)⟩, h.2.2⟩
theorem Mf.b {Tl : Int32} {g : Nat → Int32} (h : Mf (va_up I0 45 g) J0 Tl I J) : Mf I0 J0 Tl I J := ⟨h.1, ⟨fun b hb => (h.2.1.1 b hb).trans (vu_ne (by omega)), h.2.1.2⟩, h.2.2⟩
theorem Mz_.f (h : Mz_ I0 J0 Tl R C I J) : Mf I0 J0 Tl.1 I J := ⟨h.1, h.2.2.2.1.1, h.2.2.2.2⟩
theorem Mz_.pk (h : Mz_ I0 J0 Tl R C I J) : PK (I0 45) (I 45) := h.2.2.2.1.2.1.1
theorem Mz_.pq (h : Mz_ I0 J0 Tl R C I J) : PQ (I0 45) (I 45) := h.2.2.2.1.2.1.2
theorem Mz_.f13 {t v : Int32} (h : Mz_ I0 J0 (t, some v) R C I J) : I 43 13 = v := h.2.2.2.1.2.2 v rfl
/-- behind cues -/
def Mc (I0 : rI0) (J0 : rJ0) (Tl : Int32) (I : rI0) (J : rJ0) : Prop := Mf I0 J0 Tl I J ∧ PK (I0 45) (I 45)
theorem Mz_.c (h : Mz_ I0 J0 Tl R C I J) : Mc I0 J0 Tl.1 I J := ⟨h.f, h.pk⟩
theorem img_lp {t : Nat} {Q : Int32 → rI0 → rJ0 → Prop} (ht : t < 2) : ∀ (m c : Nat) (I : rI0), c + m = 681 → (∀ I', (∀ b, b ≠ 63 → I' b = I b) → (∀ i, c ≤ i → i < 681 → I' 63 (681 * t + i) = I 45 i) → (∀ j, ¬ (681 * t + c ≤ j ∧ j < 681 * t + 681) → I' 63 j = I 63 j) → Q 1 (mSet I' 66 t (vp_nar .boolean 1)) (mSet (mSet J 64 t (J 43 16)) 65 t (J 43 17))) → wp S (d + 1) 243 18 [some (.ref 43), some (.int (nI t)), some (.int (nI c))] [] (wv x I J) (rI x Q) := by
  intro m
  induction m with
  | zero =>
    intro c I hc k
    have hc : c = 681 := by omega
    subst hc
    have hi : ¬ mOut (nI t) 2 := nI_in (by omega) (by omega)
    refine v243_43_18 ⟨fun q => absurd q (by decide), fun _ => ⟨hi, hi, hi, ?_⟩⟩
    rw [nI_clamp (by omega)]
    exact k I (fun _ _ => rfl) (fun i h1 h2 => absurd h1 (by omega)) (fun _ _ => rfl)
  | succ m ih =>
    intro c I hc k
    have e : (681 : Int32) * nI t + nI c = nI (681 * t + c) := by
      show nI 681 * nI t + nI c = _
      rw [nI_mu, nI_add]
    refine v243_43_18 ⟨fun _ => ⟨nI_in (by omega) (by omega), ?_, ?_⟩, fun q => absurd (nI_lt (by omega) (by omega) : nI c < nI 681) q⟩
    · rw [e]
      exact nI_in (by omega) (by omega)
    · rw [e, nI_clamp (by omega), nI_clamp (by omega), ← nI_succ]
      refine ih (c + 1) _ (by omega) (fun I' o1 o2 o3 => k I' (fun b hb => (o1 b hb).trans (mSet_ne hb)) (fun i h1 h2 => ?_) (fun j hj => ?_))
      · rcases (show i = c ∨ c + 1 ≤ i by omega) with z | z
        · subst z
          rw [o3 _ (by omega)]
          unfold mSet va_up
          rw [if_pos rfl, if_pos rfl]
        · rw [o2 i z h2, mSet_ne (by decide)]
      · rw [o3 j (by omega)]
        exact mSet_x (by omega)
theorem mImage {p : Int32} {Q : Int32 → rI0 → rJ0 → Prop} (h : Mz_ I0 J0 Tl R C I J) (k0 : p < 0 ∨ 1 < p → ∀ I' J', Mz_ I0 J0 Tl R C I' J' → Q 0 I' J') (k1 : ¬ p < 0 → ¬ 1 < p → ∀ I' J', Mfi I0 J0 Tl.1 p.toNatClampNeg I' J' → I' 43 13 = I 43 13 → Q 1 I' J') : wcI S (d + 1) 243 [.ref 43, .int p] x I J Q := by
  have h1 : Mz_ I0 J0 Tl R C (mSet I 43 0 0) J := h.si (by decide)
  refine c243_43 (c151 ⟨fun q => ⟨fun _ => k0 (Or.inl q) _ _ h1, fun z => absurd rfl z⟩, fun q0 => ⟨fun q => ⟨fun _ => k0 (Or.inr q) _ _ h1, fun z => absurd rfl z⟩, fun q1 => ⟨fun z => absurd z (by decide), fun _ => ?_⟩⟩⟩)
  obtain ⟨t, ht, et⟩ := i_nat (n := 1) (by omega) q0 q1
  subst et
  refine img_lp (by omega) 681 0 _ (by omega) (fun I' o1 o2 o3 => k1 q0 q1 _ _ ?_ (by rw [mSet_ne (by decide), o1 43 (by decide)]; rfl))
  obtain ⟨⟨m, a1, b1, c1, e1, f1, g1⟩, e0, e2, u, w⟩ := h1
  have q : ∀ b, b ≠ 63 → b ≠ 66 → (mSet I' 66 t (vp_nar .boolean 1)) b = (mSet I 43 0 0) b := fun b hb hc => by rw [mSet_ne hc]; exact o1 b hb
  rw [nI_clamp (by omega)]
  refine ⟨?_, fun b hb => (q b (by omega) (by omega)).trans (u.1.1 b (by omega)), fun b hb => by rw [mSet_ne (by omega), mSet_ne (by omega)]; exact w b (by omega), by unfold mSet va_up; rw [if_pos rfl, if_pos rfl]; decide, fun s hs => by rw [mSet_x (by omega), o1 66 (by decide)]; exact congrFun (u.1.1 66 (by omega)) s, (congrFun (q 43 (by decide) (by decide)) 2).trans u.1.2, by rw [q 45 (by decide) (by decide)]; exact u.2.1.1, by rw [q 45 (by decide) (by decide)]; exact u.2.1.2, fun i hi => by rw [q 45 (by decide) (by decide), mSet_ne (show 63 ≠ 66 by decide)]; exact o2 i (by omega) hi, fun j hj => by rw [mSet_ne (show 63 ≠ 66 by decide)]; exact (o3 j (by omega)).trans (congrFun (u.1.1 63 (by omega)) j)⟩
  unfold MV MN TKm at *
  rw [q 43 (by decide) (by decide), q 45 (by decide) (by decide), q 46 (by decide) (by decide), q 56 (by decide) (by decide), q 50 (by decide) (by decide)]
  refine ⟨m, a1, b1, c1, e1, f1, fun s hs => ?_⟩
  by_cases z : s = t
  · subst z
    exact Or.inr (KW_congr (fun i hi => by show I' 63 (681 * s + i) = _; rw [o2 i (by omega) (by omega)]) a1)
  · rcases g1 s hs with y | y
    · refine Or.inl ?_
      rw [mSet_x (by omega), o1 66 (by decide)]
      exact y
    · exact Or.inr (KW_congr (fun i hi => by show I' 63 (681 * s + i) = _; rw [o3 _ (by omega)]) y)
theorem rst_lp {t : Nat} {Q : Int32 → rI0 → rJ0 → Prop} (ht : t < 2) : ∀ (m c : Nat) (I : rI0), c + m = 681 → (∀ I', (∀ b, b ≠ 45 → I' b = I b) → (∀ i, c ≤ i → i < 681 → I' 45 i = I 63 (681 * t + i)) → (∀ i, i < c → I' 45 i = I 45 i) → Q 1 (mSet I' 43 30 1) (mSet (mSet J 43 16 (J 64 t)) 43 17 (J 65 t))) → wp S (d + 1) 244 27 [some (.ref 43), some (.int (nI t)), some (.int (nI c))] [] (wv x I J) (rI x Q) := by
  intro m
  induction m with
  | zero =>
    intro c I hc k
    have hc : c = 681 := by omega
    subst hc
    have hi : ¬ mOut (nI t) 2 := nI_in (by omega) (by omega)
    refine v244_43_27 ⟨fun q => absurd q (by decide), fun _ => ⟨hi, hi, ?_⟩⟩
    rw [nI_clamp (by omega)]
    exact k I (fun _ _ => rfl) (fun i h1 h2 => absurd h1 (by omega)) (fun _ _ => rfl)
  | succ m ih =>
    intro c I hc k
    have e : (681 : Int32) * nI t + nI c = nI (681 * t + c) := by
      show nI 681 * nI t + nI c = _
      rw [nI_mu, nI_add]
    refine v244_43_27 ⟨fun _ => ⟨?_, nI_in (by omega) (by omega), ?_⟩, fun q => absurd (nI_lt (by omega) (by omega) : nI c < nI 681) q⟩
    · rw [e]
      exact nI_in (by omega) (by omega)
    · rw [e, nI_clamp (by omega), nI_clamp (by omega), ← nI_succ]
      refine ih (c + 1) _ (by omega) (fun I' o1 o2 o3 => k I' (fun b hb => (o1 b hb).trans (mSet_ne hb)) (fun i h1 h2 => ?_) (fun i hi => ?_))
      · rcases (show i = c ∨ c + 1 ≤ i by omega) with z | z
        · subst z
          rw [o3 i (by omega)]
          unfold mSet va_up
          rw [if_pos rfl, if_pos rfl]
        · rw [o2 i z h2, mSet_ne (by decide)]
      · rw [o3 i (by omega)]
        exact mSet_x (by omega)
theorem mRestore {p : Int32} {Q : Int32 → rI0 → rJ0 → Prop} (h : Mz_ I0 J0 Tl R C I J) (k0 : p < 0 ∨ 1 < p ∨ I 66 p.toNatClampNeg = 0 → ∀ I' J', Mz_ I0 J0 Tl R C I' J' → Q 0 I' J') (k1 : ¬ p < 0 → ¬ 1 < p → ¬ I 66 p.toNatClampNeg = 0 → ∀ I' J', Mf I0 J0 Tl.1 I' J' → (∀ i, i < 681 → I' 45 i = I 63 (681 * p.toNatClampNeg + i)) → I' 43 13 = I 43 13 → Q 1 I' J') : wcI S (d + 1) 244 [.ref 43, .int p] x I J Q := by
  have h1 : Mz_ I0 J0 Tl R C (mSet I 43 0 0) J := h.si (by decide)
  refine c244_43 (c151 ⟨fun q => ⟨fun _ => k0 (Or.inl q) _ _ h1, fun z => absurd rfl z⟩, fun q0 => ⟨fun q => ⟨fun _ => k0 (Or.inr (Or.inl q)) _ _ h1, fun z => absurd rfl z⟩, fun q1 => ⟨fun z => absurd z (by decide), fun _ => ?_⟩⟩⟩)
  obtain ⟨t, ht, et⟩ := i_nat (n := 1) (by omega) q0 q1
  subst et
  refine ⟨nI_in (by omega) (by omega), fun z => k0 (Or.inr (Or.inr z)) _ _ h1, fun nz => rst_lp (by omega) 681 0 _ (by omega) (fun I' o1 o2 _ => k1 q0 q1 nz _ _ ?_ (fun i hi => by rw [mSet_ne (by decide), nI_clamp (by omega)]; exact o2 i (by omega) hi) (by rw [mSet_x (by omega), o1 43 (by decide)]; rfl))⟩
  rw [nI_clamp (by omega)] at nz
  obtain ⟨⟨m, a1, b1, c1, e1, f1, g1⟩, e0, e2, u, w⟩ := h1
  have q : ∀ b, b ≠ 43 → b ≠ 45 → (mSet I' 43 30 1) b = (mSet I 43 0 0) b := fun b hb hc => by rw [mSet_ne hb]; exact o1 b hc
  have q3 : ∀ k, k ≠ 30 → (mSet I' 43 30 1) 43 k = (mSet I 43 0 0) 43 k := fun k hk => by rw [mSet_x (by omega), o1 43 (by decide)]
  refine ⟨?_, ⟨fun b hb => (q b (by omega) (by omega)).trans (u.1.1 b hb), (q3 2 (by decide)).trans u.1.2⟩, fun b hb => by rw [mSet_ne (by omega), mSet_ne (by omega)]; exact w b hb⟩
  unfold MV MN TKm at *
  rw [q 46 (by decide) (by decide), q 56 (by decide) (by decide), q 50 (by decide) (by decide), q 63 (by decide) (by decide), q 66 (by decide) (by decide), mSet_ne (show 45 ≠ 43 by decide)]
  rw [q3 2 (by decide), q3 3 (by decide), q3 4 (by decide), q3 9 (by decide), q3 10 (by decide), q3 11 (by decide), q3 12 (by decide), q3 42 (by decide), q3 43 (by decide), q3 47 (by decide), q3 52 (by decide)]
  refine ⟨m, ?_, b1, c1, e1, fun z => ?_, g1⟩
  · rcases g1 t (by omega) with y | y
    · exact absurd y nz
    · exact KW_congr (fun i hi => by rw [o2 i (by omega) (by omega)]) y
  · have := f1 z
    exact this
end MD0
