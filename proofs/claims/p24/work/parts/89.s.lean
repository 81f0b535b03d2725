section MS0
variable {S : Nat × (Nat → Int32)} {d : Nat} {x : mX} {I I' I0 B : rI0} {J J' J0 : rJ0} {Tl : Int32} {R C P Z : Int}
theorem cnt_z : ∀ n : Nat, cnt (fun _ => (0 : Int32)) n = 0 := by
  intro n
  induction n with
  | zero => rfl
  | succ n ih =>
    show cnt (fun _ => (0 : Int32)) n + _ = 0
    have z : ¬ 0 < (0 : Int32).toInt := by decide
    show cnt (fun _ => (0 : Int32)) n + (if 0 < (0 : Int32).toInt then 1 else 0) = 0
    rw [ih, if_neg z]
    rfl
theorem HW_z : HW (fun _ => (0 : Int32)) := by
  have z : (0 : Int32).toInt = 0 := by decide
  refine ⟨?_, ?_, fun v _ => ?_, ?_, fun v _ _ => ?_, fun l _ => ⟨?_, fun j hj => ?_⟩⟩
  · show 0 ≤ (0 : Int32).toInt ∧ (0 : Int32).toInt ≤ 8
    omega
  · show 0 ≤ (0 : Int32).toInt ∧ (0 : Int32).toInt ≤ 8
    omega
  · show 0 ≤ (0 : Int32).toInt ∧ (0 : Int32).toInt ≤ 6
    omega
  · rw [cnt_z]
    exact z
  · exact z
  · show 0 ≤ (0 : Int32).toInt ∧ (0 : Int32).toInt ≤ 40
    omega
  · have hj : j < ((0 : Int32).toInt).toNat := hj
    rw [z] at hj
    exact absurd hj (by omega)
theorem HW_plain (g : Nat → Int32) : HW (plainR g) := by
  have h : HW (fun i => if i < 590 then plainR g i else 0) := by
    refine HW.un (fun i hi => ?_) HW_z
    show (if i < 590 then plainR g i else 0) = 0
    by_cases z : i < 590
    · rw [if_pos z]
      unfold plainR
      rw [if_pos z, if_neg (by omega), if_neg (by omega), if_neg (by omega)]
    · rw [if_neg z]
  exact HW_congr (fun i hi => by show plainR g i = if i < 590 then plainR g i else 0; rw [if_pos hi]) h
theorem mPlain {Q : rI0 → rJ0 → Prop} (k : Q (va_up I 46 (plainR (I 46))) J) : wcV S d 157 [.ref 43] x I J Q := plainW (w := wv x I J) rfl rfl rfl ⟨_, _, rfl, rfl, k⟩
theorem Mf.r45 {g : Nat → Int32} (h : Mz_ I0 J0 (Tl, none) R C I J) (hg : KW g) : Mf I0 J0 Tl (va_up I 45 g) J := by
  obtain ⟨⟨m, a, b, c, e, f, q⟩, e0, e1, u, w⟩ := h
  refine ⟨⟨m, ?_, b, c, e, f, q⟩, ⟨fun b hb => by rw [vu_ne (by omega)]; exact u.1.1 b hb, by rw [vu_ne (by decide)]; exact u.1.2⟩, w⟩
  show KW (va_up I 45 g 45)
  unfold va_up
  rw [if_pos rfl]
  exact hg
theorem hs90 {Q : Int32 → rI0 → rJ0 → Prop} (h : Mz_ I0 J0 (Tl, none) R C B J) (k : ∀ r I J, Mf I0 J0 Tl I J → Q r I J) : ∀ (t c : Nat) (g : Nat → Int32), c + t = 681 → (∀ i, i < c → g i = if i < 590 then B 46 i else 0) → wp S (d + 1) 181 90 [some (.ref 43), some (.int (nI c))] [] (wv x (va_up B 45 g) J) (rI x Q) := by
  intro t
  induction t with
  | zero =>
    intro c g hc hg
    have hc : c = 681 := by omega
    subst hc
    refine v181_43_90 ⟨fun q => absurd q (by decide), fun _ => k _ _ _ ?_⟩
    have m := Mf.r45 h (g := g) ⟨HW_congr (fun i hi => by rw [hg i (by omega), if_pos hi]) h.1.2.2.1, by rw [hg 590 (by omega), if_neg (by omega)]; decide⟩
    exact (((m.z).si (n := 43) (k := 30) (by decide)).sj (n := 43) (k := 16) (by decide)).sj (n := 43) (k := 17) (by decide) |>.f |>.b
  | succ t ih =>
    intro c g hc hg
    have ml : (nI c).toNatClampNeg = c := nI_clamp (by omega)
    have st : ∀ v : Int32, v = (if c < 590 then B 46 c else 0) → wp S (d + 1) 181 90 [some (.ref 43), some (.int (nI c + (1 : Int32)))] [] (wv x (mSet (va_up B 45 g) 45 (nI c).toNatClampNeg v) J) (rI x Q) := by
      intro v hv
      rw [ml, ← nI_succ, mSet_up]
      refine ih (c + 1) _ (by omega) (fun i hi => ?_)
      unfold va_up
      rcases Nat.decEq i c with z | z
      · rw [if_neg z]
        exact hg i (by omega)
      · rw [if_pos z, z]
        exact hv
    refine v181_43_90 ⟨fun _ => ⟨fun q => ⟨?_, nI_in (by omega) (by omega), ?_⟩, fun q => ⟨nI_in (by omega) (by omega), ?_⟩⟩, fun q => absurd (nI_lt (by omega) (by omega) : nI c < nI 681) q⟩
    · have q : nI c < nI 590 := q
      have := i_lt q
      rw [nI_toInt (by omega), nI_toInt (by omega)] at this
      exact nI_in (by omega) (by omega)
    · have q : nI c < nI 590 := q
      have := i_lt q
      rw [nI_toInt (by omega), nI_toInt (by omega)] at this
      refine st _ ?_
      rw [if_pos (by omega), ml]
      rfl
    · have q : ¬ nI c < nI 590 := q
      have := i_nlt q
      rw [nI_toInt (by omega), nI_toInt (by omega)] at this
      refine st _ ?_
      rw [if_neg (by omega)]
theorem hs45 {Q : Int32 → rI0 → rJ0 → Prop} (k : ∀ r I J, Mf I0 J0 Tl I J → Q r I J) : ∀ (t : Nat) (I : rI0) (J : rJ0), (Z - (I 43 4).toInt).toNat = t → Mz_ I0 J0 (Tl, none) R C I J → (I 43 3).toInt = Z → wp S (d + 8) 181 45 [some (.ref 43), none] [] (wv x I J) (rI x Q) := by
  refine lpn ?_
  intro t ih I J ht h hz
  refine v181_43_45 ⟨fun _ => ?_, fun _ => pLine (P := (I 43 4).toInt) ⟨h, Int.le_refl _, hz⟩ (fun I1 J1 h1 => ⟨fun _ => k _ _ _ h1.1.f, fun z => absurd rfl z⟩) (fun I1 J1 h1 g1 => ⟨fun z => absurd z (by decide), fun _ => pSign h1 g1 (fun I2 J2 h2 => ⟨fun _ => k _ _ _ h2.1.f, fun z => absurd rfl z⟩) (fun I2 J2 h2 g2 _ => ⟨fun z => absurd z (by decide), fun _ => ?_⟩)⟩)⟩
  · have e := hs90 (S := S) (d := d + 7) (x := x) h k 681 0 (I 45) (by omega) (fun i hi => absurd hi (by omega))
    rw [up_self] at e
    exact e
  · have b := h2.1.bn2.2.1
    have z2 := h2.2.2
    refine ih (Z - (I2 43 4).toInt).toNat (by omega) _ _ rfl (h2.1.si (n := 43) (k := 19) (by decide)) z2
theorem mHouse {Q : Int32 → rI0 → rJ0 → Prop} (h : Mz_ I0 J0 (Tl, none) R C I J) (k : ∀ r I J, Mf I0 J0 0 I J → Q r I J) : wcI S (d + 8) 181 [.ref 43] x I J Q := by
  refine c181_43 (mTaken (h.si (by decide)) (fun I1 J1 h1 _ => mPlain ?_))
  have h2 := (((((h1.s13 (v := 0)).si (n := 43) (k := 19) (v := 0) (by decide)).si (n := 43) (k := 20) (v := 0) (by decide)).si (n := 43) (k := 21) (v := 0) (by decide)).si (n := 43) (k := 22) (v := 0) (by decide))
  have h3 := h2.r46 (HW_plain ((mSet (mSet (mSet (mSet (mSet I1 43 13 (0 : Int32)) 43 19 (0 : Int32)) 43 20 (0 : Int32)) 43 21 (0 : Int32)) 43 22 (0 : Int32)) 46))
  exact pNext ⟨h3, Int.le_refl _, rfl⟩ (fun I3 J3 h4 _ _ => hs45 k _ I3 J3 rfl h4.1 h4.2.2)
/-! cues -/
theorem rc140 {c : Nat} {s0 : Int32} {Q : Int32 → rI0 → rJ0 → Prop} (hc : c < 30) (h : Pz_ I0 J0 Tl R C P Z I J) (e31 : I 43 31 = nI c) (k0 : ∀ I' J', Pz_ I0 J0 Tl R C P Z I' J' → Q 0 I' J') (k1 : ∀ I' J', Pz_ I0 J0 Tl R C P Z I' J' → PGp P I' → I' 43 31 = nI c → Q 1 I' J') : wp S (d + 3) 192 140 [some (.ref 43), some (.int (nI (3 * c))), none, none] [.int s0] (wv x I J) (rI x Q) := by
  have e1 : nI (3 * c) + (1 : Int32) = nI (3 * c + 1) := (nI_succ _).symm
  have e2 : nI (3 * c) + (2 : Int32) = nI (3 * c + 2) := nI_add (3 * c) 2
  refine v192_43_140 ⟨fun _ => pBad h k0, fun _ => ⟨by rw [e1]; exact nI_in (by omega) (by omega), by rw [e2]; exact nI_in (by omega) (by omega), pNext ((h.sn (by decide)).sn (by decide)) (fun I2 J2 h2 g2 f2 => ?_)⟩⟩
  have e31' : I2 43 31 = nI c := (f2.2.1 31 (by decide)).trans e31
  refine ⟨fun _ => k1 _ _ h2 g2 e31', fun _ => ⟨by decide, pTakes h2 (fun I3 J3 h3 => ⟨fun _ => k0 _ _ h3, fun z => absurd rfl z⟩) (fun I3 J3 h3 g3 f3 _ => ⟨fun z => absurd z (by decide), fun _ => ⟨fun _ => mSeatAt h3.1 (fun r4 _ => ⟨fun _ => pBad h3 k0, fun _ => ⟨by decide, by rw [e2]; exact nI_in (by omega) (by omega), pNext (h3.sn (by decide)) (fun I6 J6 h6 g6 f6 => k1 _ _ h6 g6 ((f6.2.1 31 (by decide)).trans ((f3.2 31 (by decide)).trans e31')))⟩⟩), fun _ => pBad h3 k0⟩⟩)⟩⟩
theorem rc62 {c : Nat} {s1 : Int32} {Q : Int32 → rI0 → rJ0 → Prop} (hc : c < 30) (h : Pz_ I0 J0 Tl R C P Z I J) (e31 : I 43 31 = nI c) (k0 : ∀ I' J', Pz_ I0 J0 Tl R C P Z I' J' → Q 0 I' J') (k1 : ∀ I' J', Pz_ I0 J0 Tl R C P Z I' J' → PGp P I' → I' 43 31 = nI c → Q 1 I' J') : wp S (d + 3) 192 62 [some (.ref 43), some (.int (nI (3 * c))), none, none] [.int s1, .ref 43] (wv x I J) (rI x Q) := by
  refine v192_43_62 (pTakes h (fun I1 J1 h1 => ⟨fun _ => k0 _ _ h1, fun z => absurd rfl z⟩) (fun I1 J1 h1 g1 f1 _ => ⟨fun z => absurd z (by decide), fun _ => ⟨nI_in (by omega) (by omega), ?_⟩⟩))
  have h2 : Pz_ I0 J0 Tl R C P Z (mSet I1 47 (nI (3 * c)).toNatClampNeg (I1 43 18)) J1 := h1.sn (by decide)
  have e2 : (mSet I1 47 (nI (3 * c)).toNatClampNeg (I1 43 18)) 43 31 = nI c := (f1.2 31 (by decide)).trans e31
  exact mWord ⟨fun _ => mWord ⟨fun _ => mWord ⟨fun _ => mWord ⟨fun _ => rc140 hc h2 e2 k0 k1, fun z => absurd rfl z⟩ ⟨fun z => absurd z (by decide), fun _ => rc140 hc h2 e2 k0 k1⟩, fun z => absurd rfl z⟩ ⟨fun z => absurd z (by decide), fun _ => rc140 hc h2 e2 k0 k1⟩, fun z => absurd rfl z⟩ ⟨fun z => absurd z (by decide), fun _ => rc140 hc h2 e2 k0 k1⟩, fun z => absurd rfl z⟩ ⟨fun z => absurd z (by decide), fun _ => rc140 hc h2 e2 k0 k1⟩
theorem pReadCue {c : Nat} {Q : Int32 → rI0 → rJ0 → Prop} (hc : c ≤ 30) (h : Pz_ I0 J0 Tl R C P Z I J) (e31 : I 43 31 = nI c) (k0 : ∀ I' J', Pz_ I0 J0 Tl R C P Z I' J' → Q 0 I' J') (k1 : ∀ I' J', c < 30 → Pz_ I0 J0 Tl R C P Z I' J' → PGp P I' → I' 43 31 = nI c → Q 1 I' J') : wcI S (d + 3) 192 [.ref 43] x I J Q := by
  refine c192_43 (mWord ⟨fun _ => pBad h k0, fun z => absurd rfl z⟩ ⟨fun z => absurd z (by decide), fun _ => ⟨fun _ => pBad h k0, fun n30 => pNext h (fun I4 J4 h4 _ f4 => ?_)⟩⟩)
  have hc : c < 30 := by
    rcases (show c < 30 ∨ c = 30 by omega) with z | z
    · exact z
    · rw [e31, z] at n30
      exact absurd rfl n30
  have e4 : I4 43 31 = nI c := (f4.2.1 31 (by decide)).trans e31
  have e3 : (3 : Int32) * I4 43 31 = nI (3 * c) := by
    rw [e4]
    exact nI_mu 3 c
  rw [e3]
  refine ⟨fun _ => rc62 hc h4 e4 k0 (fun I' J' => k1 I' J' hc), fun n0 => ⟨?_, rc62 hc h4 e4 k0 (fun I' J' => k1 I' J' hc)⟩⟩
  have h0 : 1 ≤ c := by
    rcases (show 1 ≤ c ∨ c = 0 by omega) with z | z
    · exact z
    · rw [e4, z] at n0
      exact absurd rfl n0
  have l3 : (3 : Int32).toInt = 3 := by decide
  have t : (nI (3 * c)).toInt = ((3 * c : Nat) : Int) := nI_toInt (by omega)
  exact i_in (i_sub t l3 (by omega)) (by omega)
theorem cu83 {c : Nat} {Q : Int32 → rI0 → rJ0 → Prop} (hc : c ≤ 30) (h : Mz_ I0 J0 (Tl, none) R C B J) (e31 : B 43 31 = nI c) (k : ∀ r I J, Mc I0 J0 Tl I J → Q r I J) : ∀ (t u : Nat) (g : Nat → Int32), u + t = 3 * c → (∀ i, i < 590 → g i = B 45 i) → g 590 = nI c → wp S (d + 1) 193 83 [some (.ref 43), some (.int (nI u))] [] (wv x (va_up B 45 g) J) (rI x Q) := by
  intro t
  have e3 : ∀ g, (3 : Int32) * (va_up B 45 g) 43 31 = nI (3 * c) := fun g => by
    show (3 : Int32) * B 43 31 = _
    rw [e31]
    exact nI_mu 3 c
  induction t with
  | zero =>
    intro u g hu hg e
    refine v193_43_83 ⟨fun q => absurd q (by rw [e3]; exact nI_nlt (by omega) (by omega)), fun _ => k _ _ _ ⟨Mf.r45 h ⟨HW_congr hg h.1.2.1.1, ?_⟩, ?_⟩⟩
    · rw [e, nI_toInt (by omega)]
      omega
    · unfold va_up
      rw [if_pos rfl]
      exact h.pk.tr ⟨fun i hi _ => hg i hi, fun v hv => by rw [hg (6 + v) (by omega)]⟩
  | succ t ih =>
    intro u g hu hg e
    have ix : (591 : Int32) + nI u = nI (591 + u) := nI_add 591 u
    refine v193_43_83 ⟨fun _ => ⟨nI_in (by omega) (by omega), by rw [ix]; exact nI_in (by omega) (by omega), ?_⟩, fun q => absurd (by rw [e3]; exact nI_lt (by omega) (by omega)) q⟩
    rw [ix, nI_clamp (by omega), ← nI_succ, mSet_up]
    have f : ∀ v i, i ≠ 591 + u → va_up g (591 + u) v i = g i := fun v i hi => by
      unfold va_up
      rw [if_neg hi]
    exact ih (u + 1) _ (by omega) (fun i hi => (f _ i (by omega)).trans (hg i hi)) ((f _ 590 (by omega)).trans e)
theorem cu26 {Q : Int32 → rI0 → rJ0 → Prop} (k : ∀ r I J, Mc I0 J0 Tl I J → Q r I J) : ∀ (t : Nat) (c : Nat) (I : rI0) (J : rJ0), (Z - (I 43 4).toInt).toNat = t → c ≤ 30 → I 43 31 = nI c → Mz_ I0 J0 (Tl, none) R C I J → (I 43 3).toInt = Z → wp S (d + 4) 193 26 [some (.ref 43), none] [] (wv x I J) (rI x Q) := by
  refine lpn ?_
  intro t ih c I J ht hc e31 h hz
  refine v193_43_26 ⟨fun _ => ⟨by decide, ?_⟩, fun _ => pReadCue (P := (I 43 4).toInt) hc ⟨h, Int.le_refl _, hz⟩ e31 (fun I1 J1 h1 => ⟨fun _ => k _ _ _ h1.1.c, fun z => absurd rfl z⟩) (fun I1 J1 hc' h1 g1 e1 => ⟨fun z => absurd z (by decide), fun _ => pSign h1 g1 (fun I2 J2 h2 => ⟨fun _ => k _ _ _ h2.1.c, fun z => absurd rfl z⟩) (fun I2 J2 h2 g2 f2 => ⟨fun z => absurd z (by decide), fun _ => ?_⟩)⟩)⟩
  · show wp S (d + 4) 193 83 _ [] (wv x (mSet I 45 590 (I 43 31)) J) _
    rw [mSet_va, e31]
    refine cu83 hc h e31 k (3 * c) 0 _ (by omega) (fun i hi => ?_) ?_
    · unfold va_up
      rw [if_neg (by omega)]
    · unfold va_up
      rw [if_pos rfl]
  · have b := h2.1.bn2.2.1
    have z2 := h2.2.2
    have e2 : I2 43 31 = nI c := (f2.2.1 31 (by decide)).trans e1
    refine ih (Z - (I2 43 4).toInt).toNat (by omega) (c + 1) _ _ rfl (by omega) ?_ (h2.1.si (n := 43) (k := 31) (by decide)) z2
    rw [e2, ← nI_succ]
    rfl
theorem mCues {Q : Int32 → rI0 → rJ0 → Prop} (h : Mz_ I0 J0 (Tl, none) R C I J) (k : ∀ r I J, Mc I0 J0 0 I J → Q r I J) : wcI S (d + 4) 193 [.ref 43] x I J Q := by
  refine c193_43 (mTaken (h.si (by decide)) (fun I1 J1 h1 _ => ?_))
  have h2 := (h1.s13 (v := 0)).si (n := 43) (k := 31) (v := 0) (by decide)
  exact pNext ⟨h2, Int.le_refl _, rfl⟩ (fun I3 J3 h4 _ f4 => cu26 k _ 0 I3 J3 rfl (by omega) (f4.2.1 31 (by decide)) h4.1 h4.2.2)
end MS0
