section CU3
variable {S S' : Nat × (Nat → Int32)} {d d' : Nat} {x x' : mX} {I I' : rI0} {J J' : rJ0} {b : Nat → Int32} {n lim p c R C : Nat}
theorem cueE {Q : Int32 → rI0 → rJ0 → Prop} (hR : R ≤ 8) (hC : C ≤ 8) (cR : I 4 0 = nI R) (cC : I 4 1 = nI C) (gC : I' 45 1 = nI C) (gR : I' 45 0 = nI R) (hs : ∀ s, s < 64 → (SB (J 4 5) s ↔ 0 < (I' 45 (6 + s)).toInt)) (hc : c ≤ 30) (t : Tck b n lim p I) (h8 : I 28 8 = 0) (u : Nck b n lim p I' J') (r : CRl c I I') (e15 : I 15 4 = nI c) (e31 : I' 43 31 = nI c) (k : ∀ v I1, ccF I I1 → RefC (fun Q => wcI S' (d' + 5) 192 [.ref 43] x' I' J' Q) S' d' x' b n lim p c I' J' v I1 → Q v I1 J) : wcI S (d + 9) 3 [.ref 30] x I J Q := by
  have l30 : (30 : Int32).toInt = 30 := by decide
  have l3 : (3 : Int32).toInt = 3 := by decide
  have l1 : (1 : Int32).toInt = 1 := by decide
  refine c3_30 (amongS_4 t (fun z => ⟨fun y => absurd y (by decide), fun _ => ⟨fun h30 => ?_, fun h30 => failS ⟨Or.inl rfl, k 0 _ (ccF.s (by omega)) (RefC.bad (by decide) t u crF.rf (fun Q q => ?_))⟩⟩⟩) (fun z => ⟨fun _ => failS ⟨Or.inl rfl, k 0 _ (ccF.s (by omega)) (RefC.bad (by decide) t u crF.rf (fun Q q => c192_43 (wordR (by decide) u (fun y => absurd y z) (fun _ => ⟨fun _ => badR ⟨Or.inl rfl, q⟩, fun z => absurd rfl z⟩))))⟩, fun y => absurd rfl y⟩))
  · have hc : c < 30 := by
      rw [e15] at h30
      have := i_lt h30
      rw [nI_toInt (by omega)] at this
      omega
    have pg := (uE_gt (b := b) (n := n) (lim := lim) (p := p) (fun q => by rw [uW_n (by rw [q]; decide)] at z; exact absurd z (by decide)) (fun q => by rw [uW_n (by rw [q]; decide)] at z; exact absurd z (by decide))).1
    have nx : wcV S' (d' + 4) 161 [.ref 43] x' I' J' (fun I4 J4 => Nf5 I' J' I4 J4 ∧ Nck b n lim (uE b n lim p) I4 J4) := nextS u.2.1 (fun I4 J4 f4 t4 => ⟨f4, t4⟩)
    obtain ⟨nn, oo, ww, x1, I4, J4, x2, x3, f4, t4⟩ := nx
    have e4 : I4 43 31 = nI c := (f4.2.1 31 (by omega)).trans e31
    have e3c : (3 : Int32) * nI c = nI (3 * c) := nI_mu 3 c
    have ev1 : ∀ (L : Int32) (Q : Int32 → rI0 → rJ0 → Prop), (c = 0 → L = 0) → (∀ e, c = e + 1 → L = I' 47 (3 * e)) → wp S' (d' + 5) 192 62 [some (.ref 43), some (.int (nI (3 * c))), none, none] [.int L, .ref 43] (wv x' I4 J4) (rI x' Q) → wcI S' (d' + 5) 192 [.ref 43] x' I' J' Q := fun L Q hL0 hL1 q => by
      refine c192_43 (wordR (by decide) u (fun _ => ⟨fun z => absurd z (by decide), fun _ => ⟨fun y => ?_, fun _ => ⟨nn, oo, ww, x1, I4, J4, x2, x3, fun y => ?_, fun y => ?_⟩⟩⟩) (fun y => absurd z y))
      · rw [e31] at y
        have := nI_ij (b := 30) (by omega) (by omega) y
        omega
      · rw [e4] at y
        have c0 := nI_ij (b := 0) (by omega) (by omega) y
        rw [e4, e3c]
        rw [hL0 c0] at q
        exact q
      · have hp : ∃ e, c = e + 1 := by
          rcases (show c = 0 ∨ ∃ e, c = e + 1 by rcases c with _ | e; exact Or.inl rfl; exact Or.inr ⟨e, rfl⟩) with y0 | y0
          · rw [e4, y0] at y
            exact absurd rfl y
          · exact y0
        obtain ⟨e, he⟩ := hp
        have ix : nI (3 * c) - (3 : Int32) = nI (3 * e) := by
          rw [← Int32.toInt_inj, i_sub (nI_toInt (by omega)) l3 (by omega), nI_toInt (by omega)]
          omega
        rw [e4, e3c, ix, nI_clamp (by omega)]
        refine ⟨nI_in (by omega) (by omega), ?_⟩
        have eL := hL1 e he
        rw [← congrFun (f4.1 47 (by decide)) (3 * e)] at eL
        rw [← eL]
        exact q
    refine readS t.2.1 (fun I3 o3 t3 => ?_)
    have h83 : I3 28 8 = 0 := (o3.2 8 (by omega)).trans h8
    have c34 : I3 4 = I 4 := o3.1 4 (by decide)
    have g45 : I4 45 = I' 45 := f4.1 45 (by decide)
    have r3 : CRl c I3 I4 := fun i hi => by
      rw [o3.1 24 (by decide), o3.1 25 (by decide), o3.1 26 (by decide), f4.1 47 (by decide)]
      exact r i hi
    have go : ∀ L : Int32, (c = 0 → L = 0) → (∀ e, c = e + 1 → L = I' 47 (3 * e)) → wp S (d + 9) 3 71 [some (.ref 30), some (.int (nI c)), none, none] [.int L] (wv x I3 J) (rI x Q) := fun L a0 a1 => cu71 (S' := S') (d' := d') (x' := x') (K := fun Q => wcI S' (d' + 5) 192 [.ref 43] x' I' J' Q) (p0 := p) (I0 := I') (J0 := J') (B := I) hR hC (by rw [c34]; exact cR) (by rw [c34]; exact cC) (by rw [g45]; exact gC) (by rw [g45]; exact gR) (by rw [g45]; exact hs) hc pg t3 h83 t4 r3 e4 (f4.2.1 13 (by omega)) (ccF.o o3.1) (crF.nx f4) (fun Q q => ev1 L Q a0 a1 q) k
    rw [e15]
    refine ⟨fun pos => ?_, fun npos => go 0 (fun _ => rfl) (fun e he => ?_)⟩
    · rcases c with _ | e
      · exact absurd pos (by decide)
      · have ix : nI (e + 1) - (1 : Int32) = nI e := by
          rw [← Int32.toInt_inj, i_sub (nI_toInt (by omega)) l1 (by omega), nI_toInt (by omega)]
          omega
        rw [ix, nI_clamp (by omega)]
        refine ⟨nI_in (by omega) (by omega), go _ (fun y => by omega) (fun e' he => ?_)⟩
        have : e' = e := by omega
        subst this
        rw [o3.1 24 (by decide)]
        exact (r e' (by omega)).2.1
    · refine absurd ?_ npos
      rw [he]
      exact nI_lt (a := 0) (by omega) (by omega)
  · have hc : c = 30 := by
      rw [e15] at h30
      have := i_nlt h30
      rw [nI_toInt (by omega)] at this
      omega
    exact c192_43 (wordR (by decide) u (fun _ => ⟨fun z => absurd z (by decide), fun _ => ⟨fun _ => badR ⟨Or.inl rfl, q⟩, fun y => absurd (by rw [e31, hc]; rfl) y⟩⟩) (fun y => absurd z y))
/-- the cues: how the reference comes out -/
def CLo (S : Nat × (Nat → Int32)) (d : Nat) (x : mX) (I' : rI0) (J' : rJ0) (I1 : rI0) : Prop := (¬ I1 28 8 = 0 ∧ ∃ I2 J2, crF I' J' I2 J2 ∧ I2 43 13 = I1 28 8 ∧ I2 43 14 = I1 28 4 ∧ ∀ Q' : Int32 → rI0 → rJ0 → Prop, Q' (-1 - I2 43 14) I2 J2 → wp S (d + 6) 193 26 [some (.ref 43), none] [] (wv x I' J') (rI x Q')) ∨ (I1 28 8 = 0 ∧ ∃ I2 J2 c, crF I' J' I2 J2 ∧ c ≤ 30 ∧ CRl c I1 I2 ∧ I1 15 4 = nI c ∧ I2 43 31 = nI c ∧ I2 43 13 = I' 43 13 ∧ ∀ Q' : Int32 → rI0 → rJ0 → Prop, wp S (d + 6) 193 83 [some (.ref 43), some (.int (0 : Int32))] [] (wv x (mSet I2 45 590 (nI c)) J2) (rI x Q') → wp S (d + 6) 193 26 [some (.ref 43), none] [] (wv x I' J') (rI x Q'))
theorem cuLp {Q : rI0 → rJ0 → Prop} (hR : R ≤ 8) (hC : C ≤ 8) : ∀ (m c p : Nat) (I I' : rI0) (J' : rJ0), c + m = 31 → (I 4 0 = nI R ∧ I 4 1 = nI C ∧ I' 45 1 = nI C ∧ I' 45 0 = nI R ∧ ∀ s, s < 64 → (SB (J 4 5) s ↔ 0 < (I' 45 (6 + s)).toInt)) → c ≤ 30 → Tck b n lim p I → I 28 8 = 0 → Nck b n lim p I' J' → CRl c I I' → I 15 4 = nI c → I' 43 31 = nI c → (∀ I1, ccF I I1 → CLo S' d' x' I' J' I1 → Q I1 J) → wp S (d + 10) 2 10 [some (.ref 30), some (.int (nI c))] [] (wv x I J) (rV x Q) := by
  intro m
  induction m with
  | zero =>
    intro c p I I' J' hm _ hc
    omega
  | succ m ih =>
    intro c p I I' J' hm hf hc t h8 u r e15 e31 k
    obtain ⟨cR, cC, gC, gR, hs⟩ := hf
    refine v2_30_10 ⟨fun _ => ⟨fun z => ?_, fun z => ?_⟩, fun q => absurd (nI_lt (b := 400) (by omega) (by omega)) q⟩
    · have z : uK b n lim p = 1 := t.2.2.1.symm.trans z
      refine k I ccF.rf (Or.inr ⟨h8, I', J', c, crF.rf, hc, r, e15, e31, rfl, fun Q' q => v193_43_26 ⟨fun _ => ⟨by decide, ?_⟩, fun y => absurd (by rw [u.2.2.1, z]; rfl) y⟩⟩)
      rw [e31]
      exact q
    · have z : ¬ uK b n lim p = 1 := fun q => z (t.2.2.1.trans q)
      have z0 : ¬ I' 43 9 = 0 := fun q => z (tokOf_1.mp (u.2.2.1.symm.trans q))
      refine cueE (S' := S') (d' := d') (x' := x') hR hC cR cC gC gR hs hc t h8 u r e15 e31 (fun v I1 f1 rc => ?_)
      obtain ⟨I2, J2, fr, out, ev⟩ := rc
      have lift : ∀ Q' : Int32 → rI0 → rJ0 → Prop, ((v = 0 → Q' (-1 - I2 43 14) I2 J2) ∧ (v = 1 → wp S' (d' + 6) 193 26 [some (.ref 43), none] [] (wv x' I2 J2) (rI x' Q'))) → wp S' (d' + 6) 193 26 [some (.ref 43), none] [] (wv x' I' J') (rI x' Q') := fun Q' q => by
        refine v193_43_26 ⟨fun y => absurd y z0, fun _ => ?_⟩
        refine wcI_mono (ev (fun v A D => (v = 0 → Q' (-1 - A 43 14) A D) ∧ (v = 1 → wp S' (d' + 6) 193 26 [some (.ref 43), none] [] (wv x' A D) (rI x' Q'))) q) (fun r1 A D g => ⟨fun y => (g.1 y).1 rfl, fun y => wcI_mono (g.2 y) (fun r2 A2 D2 g2 => ⟨fun y2 => (g2.1 y2).1 rfl, fun y2 => (g2.2 y2).2 rfl⟩)⟩)
      rcases out with ⟨v0, f, a1, a2, a3, a4⟩ | ⟨v1, e13, hc30, a1, a2, a3, p1, b1, b2, b3, b4, b5⟩
      · subst v0
        exact ⟨fun _ => k I1 f1 (Or.inl ⟨by rw [a2]; exact a1, I2, J2, fr, by rw [a3, a2], a4.symm, fun Q' q => lift Q' ⟨fun _ => q, fun y => absurd y (by decide)⟩⟩), fun y => absurd rfl y⟩
      · subst v1
        refine ⟨fun y => absurd y (by decide), fun _ => ?_⟩
        rw [← nI_succ]
        have c4 : I1 4 = I 4 := f1 4 (by omega)
        have g45 : I2 45 = I' 45 := fr.1 45 (by omega)
        refine ih (c + 1) p1 I1 I2 J2 (by omega) ⟨by rw [c4]; exact cR, by rw [c4]; exact cC, by rw [g45]; exact gC, by rw [g45]; exact gR, by rw [g45]; exact hs⟩ (by omega) b3 b4 b5 a3 a1 a2 (fun I3 f3 lo => k I3 (f1.tr f3) ?_)
        rcases lo with ⟨w1, I4, J4, w2, w3, w4, w5⟩ | ⟨w1, I4, J4, c4', w2, w3, w4, w5, w6, w7, w8⟩
        · exact Or.inl ⟨w1, I4, J4, fr.tr w2, w3, w4, fun Q' q => lift Q' ⟨fun y => absurd y (by decide), fun _ => w5 Q' q⟩⟩
        · exact Or.inr ⟨w1, I4, J4, c4', fr.tr w2, w3, w4, w5, w6, w7.trans e13, fun Q' q => lift Q' ⟨fun y => absurd y (by decide), fun _ => w8 Q' q⟩⟩
/-- the reference's cues, written into s -/
theorem s83 {Q : Int32 → rI0 → rJ0 → Prop} (hc : c ≤ 30) : ∀ (t j : Nat) (I : rI0), j + t = 3 * c → I 43 31 = nI c → (∀ I2, (∀ a, a ≠ 45 → I2 a = I a) → (∀ i, ¬ (591 + j ≤ i ∧ i < 591 + 3 * c) → I2 45 i = I 45 i) → (∀ i, j ≤ i → i < 3 * c → I2 45 (591 + i) = I 47 i) → Q (nI c) I2 J) → wp S (d + 1) 193 83 [some (.ref 43), some (.int (nI j))] [] (wv x I J) (rI x Q) := by
  have e3 : (3 : Int32) * nI c = nI (3 * c) := nI_mu 3 c
  intro t
  induction t with
  | zero =>
    intro j I hj e k
    refine v193_43_83 ⟨fun q => absurd q (by rw [e, e3]; exact nI_nlt (by omega) (by omega)), fun _ => ?_⟩
    rw [e]
    exact k I (fun _ _ => rfl) (fun _ _ => rfl) (fun i h1 h2 => absurd h1 (by omega))
  | succ t ih =>
    intro j I hj e k
    have ix : (591 : Int32) + nI j = nI (591 + j) := nI_add 591 j
    refine v193_43_83 ⟨fun _ => ⟨nI_in (by omega) (by omega), by rw [ix]; exact nI_in (by omega) (by omega), ?_⟩, fun q => absurd (by rw [e, e3]; exact nI_lt (by omega) (by omega)) q⟩
    rw [ix, nI_clamp (by omega), nI_clamp (by omega), ← nI_succ]
    refine ih (j + 1) _ (by omega) (by rw [mSet_ne (by decide)]; exact e) (fun I2 o f g => k I2 (fun a ha => by rw [o a ha, mSet_ne ha]) (fun i hi => by rw [f i (by omega), mSet_x (by omega)]) (fun i h1 h2 => ?_))
    rcases (show i = j ∨ j + 1 ≤ i by omega) with z | z
    · subst z
      rw [f (591 + i) (by omega)]
      unfold mSet va_up
      rw [if_pos rfl, if_pos rfl]
    · rw [g i z h2, mSet_ne (by decide)]
/-- cues(): both answer alike -/
def CuOut (S : Nat × (Nat → Int32)) (d : Nat) (x : mX) (I : rI0) (I' : rI0) (J' : rJ0) (v : Int32) (I1 : rI0) : Prop := ∃ I2 J2, I1 0 9 = I2 43 13 ∧ ((¬ I1 0 9 = 0 ∧ (∀ b, 3 ≤ b → b ≤ 14 → I1 b = I b) ∧ I2 45 = I' 45) ∨ (I1 0 9 = 0 ∧ NCu 3 I1 (I2 45))) ∧ ∀ Q' : Int32 → rI0 → rJ0 → Prop, Q' v I2 J2 → wcI S (d + 6) 193 [.ref 43] x I' J' Q'
theorem cuesE {Q : Int32 → rI0 → rJ0 → Prop} (hn : n ≤ 940) (e1 : I 1 1 = nI n) (e2 : I' 43 2 = nI n) (hb : ∀ i, i < 940 → I' 44 i &&& 255 = I 2 i) (hw : NRw 3 I J (I' 45)) (k : ∀ v I1, CuOut S' d' x' I I' J' v I1 → Q v I1 J) : wcI S (d + 11) 107 [.ref 0] x I J Q := by
  obtain ⟨⟨R, C, hR, hC, cR, gR, cC, gC, ho⟩, hs, -⟩ := hw
  refine c107_0 (c67_1 ?_)
  rw [e1]
  refine openS (lim := 400) hn rfl (by omega) (fun I2 o2 _ e8 t2 => c2_30 ?_)
  have e22 : (mSet I 1 1 0) 2 = I 2 := mSet_ne (by decide)
  rw [e22] at t2
  have cI : ∀ a, ¬ (a = 1 ∨ a = 28) → I2 a = I a := fun a ha => by rw [o2 a (by omega), mSet_ne (by omega)]
  -- the reference's start
  have st : ∃ I3 J3, I3 43 13 = 0 ∧ I3 43 31 = 0 ∧ Nck (I 2) n 400 0 I3 J3 ∧ I3 45 = I' 45 ∧ ∀ Q' : Int32 → rI0 → rJ0 → Prop, wp S' (d' + 6) 193 26 [some (.ref 43), none] [] (wv x' I3 J3) (rI x' Q') → wcI S' (d' + 6) 193 [.ref 43] x' I' J' Q' := by
    have key : wcV S' (d' + 5) 161 [.ref 43] x' (mSet (mSet (mSet (mSet (mSet (mSet (mSet I' 43 0 0) 43 3 (nI n)) 43 2 0) 43 4 0) 43 5 400) 43 13 0) 43 31 0) J' (fun I3 J3 => Nf5 (mSet (mSet (mSet (mSet (mSet (mSet (mSet I' 43 0 0) 43 3 (nI n)) 43 2 0) 43 4 0) 43 5 400) 43 13 0) 43 31 0) J' I3 J3 ∧ Nck (I 2) n 400 0 I3 J3) := by
      refine nextS (b := I 2) (n := n) (lim := 400) (p := 0) ⟨hn, by omega, by omega, fun i hi => ?_, rfl, rfl, rfl⟩ (fun I3 J3 f3 t3 => ⟨f3, t3⟩)
      rw [mSet_ne (by decide), mSet_ne (by decide), mSet_ne (by decide), mSet_ne (by decide), mSet_ne (by decide), mSet_ne (by decide), mSet_ne (by decide)]
      exact hb i hi
    obtain ⟨nn, oo, ww, x1, I3, J3, x2, x3, f3, t3⟩ := key
    refine ⟨I3, J3, (f3.2.1 13 (by omega)).trans rfl, (f3.2.1 31 (by omega)).trans rfl, t3, ?_, fun Q' q => c193_43 (c150_43 ?_)⟩
    · rw [f3.1 45 (by decide), mSet_ne (by decide), mSet_ne (by decide), mSet_ne (by decide), mSet_ne (by decide), mSet_ne (by decide), mSet_ne (by decide), mSet_ne (by decide)]
    · have e2' : (mSet I' 43 0 0) 43 2 = nI n := e2
      rw [e2']
      exact ⟨nn, oo, ww, x1, I3, J3, x2, x3, q⟩
  obtain ⟨I3, J3, y13, y31, t3, y45, ev⟩ := st
  have c4 : (mSet I2 15 4 0) 4 = I 4 := by rw [mSet_ne (by decide)]; exact cI 4 (by omega)
  refine cuLp (S' := S') (d' := d') (x' := x') (b := I 2) (n := n) (lim := 400) hR hC 31 0 0 (mSet I2 15 4 0) I3 J3 (by omega) ⟨by rw [c4]; exact cR, by rw [c4]; exact cC, by rw [y45]; exact gC, by rw [y45]; exact gR, by rw [y45]; exact hs⟩ (by omega) (t2.w (by decide) (by decide)) (by rw [mSet_ne (by decide)]; exact e8) t3 (fun i hi => absurd hi (by omega)) rfl y31 (fun I4 f4 lo => ?_)
  have r4 : ∀ a, 3 ≤ a → a ≤ 14 → I4 a = I a := fun a h1 h2 => by rw [f4 a (by omega), mSet_ne (by omega)]; exact cI a (by omega)
  rcases lo with ⟨b1, I5, J5, b2, b3, b4, b5⟩ | ⟨b1, I5, J5, c, b2, hc, b3, b4, b5, b6, b7⟩
  · refine ⟨fun q => absurd q b1, fun _ => k _ _ ⟨I5, J5, b3.symm, Or.inl ⟨b1, fun a h1 h2 => by rw [mSet_ne (by omega)]; exact r4 a h1 h2, (b2.1 45 (by omega)).trans y45⟩, fun Q' q => ev _ (b5 _ ?_)⟩⟩
    rw [b4]
    exact q
  · have fin : ∃ I6 J6, I6 43 13 = 0 ∧ NCu 3 (fun a => if a = 3 then I4 15 else if a = 12 then I4 24 else if a = 13 then I4 25 else I4 26) (I6 45) ∧ ∀ Q' : Int32 → rI0 → rJ0 → Prop, Q' (nI c) I6 J6 → wcI S' (d' + 6) 193 [.ref 43] x' I' J' Q' := by
      have w : wp S' (d' + 6) 193 83 [some (.ref 43), some (.int (nI 0))] [] (wv x' (mSet I5 45 590 (nI c)) J5) (rI x' (fun v I6 J6 => v = nI c ∧ I6 43 13 = 0 ∧ NCu 3 (fun a => if a = 3 then I4 15 else if a = 12 then I4 24 else if a = 13 then I4 25 else I4 26) (I6 45))) := by
        refine s83 hc (3 * c) 0 _ (by omega) (by rw [mSet_ne (by decide)]; exact b5) (fun I6 o6 f6 g6 => ⟨rfl, ?_, ⟨c, hc, b4, ?_, fun i hi => ?_⟩⟩)
        · rw [o6 43 (by decide), mSet_ne (by decide), b6]
          exact y13
        · rw [f6 590 (by omega)]
          unfold mSet va_up
          rw [if_pos rfl, if_pos rfl]
        · have g : ∀ j, j < 3 * c → I6 45 (591 + j) = I5 47 j := fun j hj => by rw [g6 j (by omega) hj, mSet_ne (by decide)]
          obtain ⟨-, w1, w2, w3⟩ := b3 i hi
          have h1 := g (3 * i) (by omega)
          have h2 := g (3 * i + 1) (by omega)
          have h3 := g (3 * i + 2) (by omega)
          rw [show 591 + (3 * i + 1) = 592 + 3 * i by omega] at h2
          rw [show 591 + (3 * i + 2) = 593 + 3 * i by omega] at h3
          exact ⟨w1.trans h1.symm, w2.trans h2.symm, w3.trans h3.symm⟩
      obtain ⟨nn, oo, ww, x1, v, I6, J6, x2, x3, rfl, x5, x6⟩ := w
      exact ⟨I6, J6, x5, x6, fun Q' q => ev _ (b7 _ ⟨nn, oo, ww, x1, _, I6, J6, x2, x3, q⟩)⟩
    obtain ⟨I6, J6, e6, nc6, ev6⟩ := fin
    refine ⟨fun _ => takeCuesE (fun I9 i9 e9 c9 => c6_31 ?_), fun q => absurd b1 q⟩
    have e34 : (mSet I9 31 6 0) 3 4 = nI c := by
      show I9 3 4 = _
      rw [e9, mSet_ne (by decide)]
      exact b4
    rw [e34]
    refine k _ _ ⟨I6, J6, ?_, Or.inr ⟨?_, ?_⟩, ev6⟩
    · rw [mSet_ne (by decide), i9 0 (by decide) (by decide) (by decide) (by decide), e6]
      exact b1
    · rw [mSet_ne (by decide), i9 0 (by decide) (by decide) (by decide) (by decide)]
      exact b1
    · obtain ⟨m, m1, m2, m3, m4⟩ := nc6
      refine ⟨m, m1, ?_, m3, fun i hi => ?_⟩
      · rw [e34]
        exact b4.symm.trans m2
      · obtain ⟨q1, q2, q3⟩ := c9 i (by omega)
        obtain ⟨w1, w2, w3⟩ := m4 i hi
        refine ⟨?_, ?_, ?_⟩
        · show I9 12 i = _
          rw [q1, mSet_ne (by decide)]
          exact w1
        · show I9 13 i = _
          rw [q2, mSet_ne (by decide)]
          exact w2
        · show I9 14 i = _
          rw [q3, mSet_ne (by decide)]
          exact w3
end CU3
