section
/-! a comparison: both readers alike -/
section AT0
variable {S : Nat × (Nat → Int32)} {d : Nat} {x : mX} {I : rI0} {J : rJ0} {b : Nat → Int32} {n lim p : Nat}
def cF1 (I I' : rI0) : Prop := (∀ a, a ≠ 28 → a ≠ 29 → I' a = I a) ∧ ∀ k, k ≠ 6 → I' 29 k = I 29 k
theorem cF1.rf : cF1 I I := ⟨fun _ _ _ => rfl, fun _ _ => rfl⟩
theorem cF1.tr {I1 I2 : rI0} (h : cF1 I I1) (h2 : cF1 I1 I2) : cF1 I I2 := ⟨fun a h3 h4 => (h2.1 a h3 h4).trans (h.1 a h3 h4), fun k hk => (h2.2 k hk).trans (h.2 k hk)⟩
theorem cF1.o {I' : rI0} (h : ∀ a, a ≠ 28 → I' a = I a) : cF1 I I' := ⟨fun a h3 _ => h a h3, fun k _ => by rw [h 29 (by decide)]⟩
theorem cF1.s {v : Int32} : cF1 I (mSet I 29 6 v) := ⟨fun a _ h4 => mSet_ne h4, fun k hk => mSet_x (by omega)⟩
theorem cF1.f {v : Int32} : cF1 I (mSet I 28 8 v) := cF1.o (fun a ha => mSet_ne ha)
theorem Tck.s29 {k : Nat} {v : Int32} (h : Tck b n lim p I) : Tck b n lim p (mSet I 29 k v) := h.o (mSet_ne (by decide)) (mSet_ne (by decide))
theorem Tst.s29 {k : Nat} {v : Int32} (h : Tst b n lim p I) : Tst b n lim p (mSet I 29 k v) := by
  unfold Tst at *
  rw [mSet_ne (by decide), mSet_ne (by decide)]
  exact h
theorem k60 {K : Int32} (h1 : ¬ K < 60) (h2 : ¬ 62 < K) : ∃ sg, sg ≤ 2 ∧ K = nI (60 + sg) := by
  have a := i_nlt h1
  have c := i_nlt h2
  have v60 : (60 : Int32).toInt = 60 := by decide
  have v62 : (62 : Int32).toInt = 62 := by decide
  refine ⟨(K.toInt - 60).toNat, by omega, ?_⟩
  rw [← Int32.toInt_inj, nI_toInt (by omega)]
  omega
def CmC (b : Nat → Int32) (n lim : Nat) (lev p : Nat) (f : Int32) (p' sg num : Nat) : Prop := ∀ (S : Nat × (Nat → Int32)) (d : Nat) (x : mX) (I : rI0) (J : rJ0) (l1 : Int32) (Q : Int32 → rI0 → rJ0 → Prop), Tck b n lim p I → I 28 8 = 0 → I 29 6 = nI lev <<< ((12 : Int32) &&& 31) → (¬ f = 0 → ∀ I', cF1 I I' → I' 28 8 = f → I' 28 4 = nI (uA b n lim p') → Q 0 I' J) → (f = 0 → ∀ I', cF1 I I' → Tck b n lim p' I' → I' 28 8 = 0 → I' 29 6 = nI (lev * 4096 + sg * 1024 + num) → Q 1 I' J) → wp S (d + 2) 43 37 [some (.ref 29), some (.int l1)] [] (wv x I J) (rI x Q)
def AsR (b : Nat → Int32) (n lim : Nat) (a lev p : Nat) (f : Int32) (p' sg num : Nat) : Prop := ∀ (S : Nat × (Nat → Int32)) (d : Nat) (x : mX) (I : rI0) (J : rJ0) (o : Nat) (C P : List Int32) (Q : Int32 → rI0 → rJ0 → Prop), RS b n lim p o C P I J → P.length ≤ 30 → C.length + P.length < 63 → (¬ f = 0 → ∀ I' J', pFr I J I' J' → I' 43 10 = nI (uA b n lim p') → Q 0 (bdI I' f) J') → (f = 0 → ∀ I' J', pFr I J I' J' → RS b n lim p' o (wdC 3 P ++ (nI (rWd a lev sg num) :: C)) (wdP 3 P) I' J' → Q 1 I' J') → wp S (d + 3) 180 24 [some (.ref 43), some (.int (nI a)), some (.int (nI lev)), none, none] [] (wv x I J) (rI x Q)
theorem tok60 {sg : Nat} (h : sg ≤ 2) : tokOf (nI (60 + sg)) = 3 ∧ ¬ nI (60 + sg) < 60 ∧ ¬ 62 < nI (60 + sg) := by
  rcases (show sg = 0 ∨ sg = 1 ∨ sg = 2 by omega) with z | z | z <;> subst z <;> decide
theorem eq60 {sg : Nat} (h : sg ≤ 2) : nI (60 + sg) = 60 ∨ nI (60 + sg) = 61 ∨ nI (60 + sg) = 62 := by
  rcases (show sg = 0 ∨ sg = 1 ∨ sg = 2 by omega) with z | z | z <;> subst z <;> decide
theorem cmp2 (hp : p ≤ n) : ∃ f p' sg num, (f = 0 → sg ≤ 2 ∧ num ≤ 999 ∧ p ≤ p' ∧ p' ≤ n) ∧ (∀ lev, lev ≤ 2 → CmC b n lim lev p f p' sg num) ∧ (∀ a lev, a < 8 → lev ≤ 2 → AsR b n lim a lev p f p' sg num) := by
  by_cases z : ¬ uK b n lim p < 60 ∧ ¬ 62 < uK b n lim p
  · obtain ⟨sg, hs, es⟩ := k60 z.1 z.2
    have t60 := tok60 hs
    have p1 := uE_le (b := b) (lim := lim) hp
    by_cases y : uK b n lim (uE b n lim p) = 3
    · obtain ⟨num, hn, en⟩ := uV_b y
      have p2 := uE_le (b := b) (lim := lim) p1.2
      refine ⟨0, uE b n lim (uE b n lim p), sg, num, fun _ => ⟨hs, hn, by omega, p2.2⟩, fun lev hl => ?_, fun a lev ha hl => ?_⟩
      · intro S d x I J l1 Q h h8 h6 _ k
        refine v43_29_37 ⟨fun q => absurd (h.2.2.1 ▸ q) z.1, fun _ => ⟨fun q => absurd (h.2.2.1 ▸ q) z.2, fun _ => readS h.2.1.s29 (fun I1 o1 t1 => takeS t1 (by rw [o1.2 8 (by omega), mSet_ne (by decide)]; exact h8) (fun q => absurd y q) (fun _ q => ?_) (fun _ _ _ I2 o2 e7 e8 t2 => ⟨fun q => absurd q (by decide), fun _ => k rfl _ ((cF1.s.tr ⟨fun r h3 _ => o1.1 r h3, fun k _ => by rw [o1.1 29 (by decide)]⟩).tr ((cF1.o o2).tr cF1.s)) t2.s29 (by rw [mSet_ne (by decide)]; exact e8) ?_⟩))⟩⟩
        · rw [en] at q
          rcases q with q | q
          · exact absurd q (nI_nlt (a := num) (b := 0) (by omega) (by omega))
          · exact absurd q (nI_nlt (a := 999) (b := num) (by omega) (by omega))
        · show I2 29 6 ||| I2 28 7 = _
          rw [e7, en, o2 29 (by decide), o1.1 29 (by decide)]
          show (I 29 6 ||| (I 28 3 - 60) <<< ((10 : Int32) &&& 31)) ||| nI num = _
          have e : I 28 3 - 60 = nI sg := by
            rw [h.2.2.1, es]
            show nI (60 + sg) - nI 60 = _
            rw [pk_sub (by omega)]
            congr 1
            omega
          rw [h6, e, cw_n (by omega) (by omega) (by omega)]
      · intro S d x I J o C P Q h hP hC _ k
        have go : wp S (d + 3) 180 57 [some (.ref 43), some (.int (nI a)), some (.int (nI lev)), none, none] [] (wv x I J) (rI x Q) := by
          refine v180_43_57 (nextS h.1.2.1 (fun I1 J1 f1 t1 => ?_))
          have r1 := h.nx f1 t1
          have e3 : I 43 12 - 60 = nI sg := by
            rw [h.1.2.2.2.2.2.2 (by rw [es]; exact t60.1), es]
            show nI (60 + sg) - nI 60 = _
            rw [pk_sub (by omega)]
            congr 1
            omega
          have e12 : I1 43 12 = nI num := by rw [t1.2.2.2.2.2.1 y, en]
          have fin : ∀ (s1 s2 : Nat) (l4 : Int32), s1 ≤ 2 → s2 ≤ 7 → s1 + s2 * 8 = (if a < 6 then a * 8 else a - 5) → wp S (d + 3) 180 120 [some (.ref 43), some (.int (nI a)), some (.int (nI lev)), some (.int (I 43 12 - 60)), some (.int l4)] [.int (nI s2), .int (nI s1), .ref 43] (wv x I1 J1) (rI x Q) := by
            intro s1 s2 l4 h1 h2 h3
            refine v180_43_120 ?_
            rw [e3, e12, rWd_n h1 h2 (by omega) (by omega) (by omega)]
            have ew : s1 + s2 * 8 + lev * 64 + sg * 256 + num * 1024 = rWd a lev sg num := by unfold rWd; rw [← h3]
            rw [ew]
            refine writeR (by omega) r1 (fun I2 f2 r2 => nextS r2.1.2.1 (fun I3 J3 f3 t3 => downR (l := 3) (by omega) P _ I3 (r2.nx f3 t3) hP (by show C.length + 1 + P.length < 64; omega) (fun I4 f4 r4 => k rfl I4 J3 ((pFr.nx f1).tr (f2.tr ((pFr.nx f3).tr f4))) r4)))
          refine ⟨fun _ => ⟨fun q6 => ⟨fun q => ?_, fun _ => fin 1 0 _ (by omega) (by omega) ?_⟩, fun q6 => ⟨fun q7 => ⟨fun q => ?_, fun _ => fin 2 0 _ (by omega) (by omega) ?_⟩, fun q7 => ⟨fun q => fin 0 a _ (by omega) (by omega) ?_, fun q => ?_⟩⟩⟩, fun q => absurd (by rw [t1.2.2.1, y]; rfl) q⟩
          · rw [q6] at q; exact absurd q (by decide)
          · have : a = 6 := by
              have := congrArg Int32.toInt q6
              rw [nI_toInt (by omega)] at this
              have v6 : (6 : Int32).toInt = 6 := by decide
              omega
            subst this; rfl
          · rw [q7] at q; exact absurd q (by decide)
          · have : a = 7 := by
              have := congrArg Int32.toInt q7
              rw [nI_toInt (by omega)] at this
              have v7 : (7 : Int32).toInt = 7 := by decide
              omega
            subst this; rfl
          · have : a < 6 := by
              rcases Nat.lt_or_ge a 6 with w | w
              · exact w
              · exact absurd q (nI_nlt (b := 6) w (by omega))
            rw [if_pos this]
            omega
          · have : a < 6 := by
              rcases (show a < 6 ∨ a = 6 ∨ a = 7 by omega) with w | w | w
              · exact w
              · subst w; exact absurd rfl q6
              · subst w; exact absurd rfl q7
            exact absurd (nI_lt (b := 6) this (by omega)) q
        refine v180_43_24 (signR (by decide) h.1 (fun q => ⟨fun q => absurd q (by decide), fun _ => go⟩) (fun q1 => ⟨fun _ => signR (by decide) h.1 (fun q => ⟨fun q => absurd q (by decide), fun _ => go⟩) (fun q2 => ⟨fun _ => signR (by decide) h.1 (fun q => ⟨fun q => absurd q (by decide), fun _ => go⟩) (fun q3 => ?_), fun q => absurd rfl q⟩), fun q => absurd rfl q⟩))
        rw [es] at q1 q2 q3
        rcases eq60 hs with w | w | w
        · exact absurd w q1
        · exact absurd w q2
        · exact absurd w q3
    · refine ⟨1, uE b n lim p, 0, 0, fun q => absurd q (by decide), fun lev hl => ?_, fun a lev ha hl => ?_⟩
      · intro S d x I J l1 Q h h8 h6 k _
        refine v43_29_37 ⟨fun q => absurd (h.2.2.1 ▸ q) z.1, fun _ => ⟨fun q => absurd (h.2.2.1 ▸ q) z.2, fun _ => readS h.2.1.s29 (fun I1 o1 t1 => takeS t1 (by rw [o1.2 8 (by omega), mSet_ne (by decide)]; exact h8) (fun _ => ⟨fun _ => k (by decide) _ ((cF1.s.tr ⟨fun r h3 _ => o1.1 r h3, fun k _ => by rw [o1.1 29 (by decide)]⟩).tr cF1.f) rfl t1.2.2.2.1, fun q => absurd rfl q⟩) (fun q => absurd q y) (fun q => absurd q y))⟩⟩
      · intro S d x I J o C P Q h hP hC k _
        have go : wp S (d + 3) 180 57 [some (.ref 43), some (.int (nI a)), some (.int (nI lev)), none, none] [] (wv x I J) (rI x Q) := by
          refine v180_43_57 (nextS h.1.2.1 (fun I1 J1 f1 t1 => ⟨fun q => absurd (tokOf_3.mp (t1.2.2.1.symm.trans q)) y, fun _ => badR ⟨Or.inl rfl, k (by decide) _ _ (pFr.nx f1) t1.2.2.2.1⟩⟩))
        refine v180_43_24 (signR (by decide) h.1 (fun q => ⟨fun q => absurd q (by decide), fun _ => go⟩) (fun q1 => ⟨fun _ => signR (by decide) h.1 (fun q => ⟨fun q => absurd q (by decide), fun _ => go⟩) (fun q2 => ⟨fun _ => signR (by decide) h.1 (fun q => ⟨fun q => absurd q (by decide), fun _ => go⟩) (fun q3 => ?_), fun q => absurd rfl q⟩), fun q => absurd rfl q⟩))
        rw [es] at q1 q2 q3
        rcases eq60 hs with w | w | w
        · exact absurd w q1
        · exact absurd w q2
        · exact absurd w q3
  · refine ⟨1, p, 0, 0, fun q => absurd q (by decide), fun lev hl => ?_, fun a lev ha hl => ?_⟩
    · intro S d x I J l1 Q h h8 h6 k _
      have f : wcI S (d + 1) 75 [.ref 28, .int (1 : Int32)] x I J (fun r1 I1 J1 => (r1 = 0 ∨ r1 = 1) ∧ Q r1 I1 J1) := failS ⟨Or.inl rfl, k (by decide) _ cF1.f rfl h.2.2.2.1⟩
      exact v43_29_37 ⟨fun _ => f, fun q1 => ⟨fun _ => f, fun q2 => absurd ⟨h.2.2.1 ▸ q1, h.2.2.1 ▸ q2⟩ z⟩⟩
    · intro S d x I J o C P Q h hP hC k _
      have no : ∀ c : Int32, (¬ c < 60 ∧ ¬ 62 < c) → ¬ uK b n lim p = c := fun c hc q => z (by rw [q]; exact hc)
      exact v180_43_24 (signR (by decide) h.1 (fun q => absurd q (no _ (by decide))) (fun q1 => ⟨fun _ => signR (by decide) h.1 (fun q => absurd q (no _ (by decide))) (fun q2 => ⟨fun _ => signR (by decide) h.1 (fun q => absurd q (no _ (by decide))) (fun q3 => ⟨fun _ => badR ⟨Or.inl rfl, k (by decide) _ _ pFr.rf h.1.2.2.2.1⟩, fun q => absurd rfl q⟩), fun q => absurd rfl q⟩), fun q => absurd rfl q⟩))
/-- with the LEVEL, where there is one -/
def CmA (b : Nat → Int32) (n lim : Nat) (a p : Nat) (f : Int32) (p' lev sg num : Nat) : Prop := ∀ (S : Nat × (Nat → Int32)) (d : Nat) (x : mX) (I : rI0) (J : rJ0) (Q : Int32 → rI0 → rJ0 → Prop), Tck b n lim p I → I 28 8 = 0 → (¬ f = 0 → ∀ I', cF1 I I' → I' 28 8 = f → I' 28 4 = nI (uA b n lim p') → Q 0 I' J) → (f = 0 → ∀ I', cF1 I I' → Tck b n lim p' I' → I' 28 8 = 0 → I' 29 6 = nI (lev * 4096 + sg * 1024 + num) → Q 1 I' J) → wcI S (d + 2) 43 [.ref 29, .int (if a < 6 then 1 else 0)] x I J Q
def AsA (b : Nat → Int32) (n lim : Nat) (a p : Nat) (f : Int32) (p' lev sg num : Nat) : Prop := ∀ (S : Nat × (Nat → Int32)) (d : Nat) (x : mX) (I : rI0) (J : rJ0) (o : Nat) (C P : List Int32) (Q : Int32 → rI0 → rJ0 → Prop), RS b n lim p o C P I J → P.length ≤ 30 → C.length + P.length < 63 → (¬ f = 0 → ∀ I' J', pFr I J I' J' → I' 43 10 = nI (uA b n lim p') → Q 0 (bdI I' f) J') → (f = 0 → ∀ I' J', pFr I J I' J' → RS b n lim p' o (wdC 3 P ++ (nI (rWd a lev sg num) :: C)) (wdP 3 P) I' J' → Q 1 I' J') → wcI S (d + 3) 180 [.ref 43, .int (nI a)] x I J Q
theorem atomE {a : Nat} (ha : a < 8) (hp : p ≤ n) : ∃ f p' lev sg num, (f = 0 → lev ≤ 2 ∧ sg ≤ 2 ∧ num ≤ 999 ∧ p ≤ p' ∧ p' ≤ n) ∧ CmA b n lim a p f p' lev sg num ∧ AsA b n lim a p f p' lev sg num := by
  by_cases a6 : a < 6
  · have l6 : nI a < 6 := nI_lt (b := 6) a6 (by omega)
    by_cases z : uK b n lim p = 3
    · obtain ⟨v, hv, ev⟩ := uV_b z
      have p1 := uE_le (b := b) (lim := lim) hp
      by_cases y : v = 1 ∨ v = 2
      · have y1 : ¬ uV b n p < 1 := by rw [ev]; exact nI_nlt (a := v) (b := 1) (by omega) (by omega)
        have y2 : ¬ 2 < uV b n p := by rw [ev]; exact nI_nlt (a := 2) (b := v) (by omega) (by omega)
        obtain ⟨f, p', sg, num, g0, g1, g2⟩ := cmp2 (b := b) (lim := lim) p1.2
        refine ⟨f, p', v, sg, num, fun q => ?_, ?_, ?_⟩
        · have := g0 q; omega
        · intro S d x I J Q h h8 kf ks
          rw [if_pos a6]
          refine c43_29 ⟨fun q => absurd q (by decide), fun _ => takeS h.s29 (by rw [mSet_ne (by decide)]; exact h8) (fun q => absurd z q) (fun _ q => ?_) (fun _ _ _ I1 o1 e7 e8 t1 => ⟨fun q => absurd q (by decide), fun _ => ?_⟩)⟩
          · rcases q with q | q
            · exact absurd q y1
            · exact absurd q y2
          · have fr : cF1 I (mSet I1 29 6 (I1 28 7 <<< ((12 : Int32) &&& 31))) := (cF1.s.tr (cF1.o o1)).tr cF1.s
            refine g1 v (by omega) S d x _ J _ Q t1.s29 (by rw [mSet_ne (by decide)]; exact e8) (by show I1 28 7 <<< _ = _; rw [e7, ev]) (fun hf I' c1 c2 c3 => kf hf I' (fr.tr c1) c2 c3) (fun hf I' c1 c2 c3 c4 => ks hf I' (fr.tr c1) c2 c3 c4)
        · intro S d x I J o C P Q h hP hC kf ks
          refine c180_43 ⟨fun _ => takesR h.1 (fun q => absurd z q) (fun _ q => ?_) (fun _ _ _ I1 J1 f1 t1 => ⟨fun q => absurd q (by decide), fun _ => ?_⟩), fun q => absurd l6 q⟩
          · rcases q with q | q
            · exact absurd q y1
            · exact absurd q y2
          · have e18 : I1 43 18 = nI v := by
              rw [f1.2.1 18 (by omega)]
              exact ev
            rw [e18]
            have r0 : RS b n lim p o C P (mSet I 43 18 (uV b n p)) J := ⟨h.1.cg (mSet_ne (by decide)) (fun k hk => mSet_x (by omega)), by rw [mSet_x (by omega)]; exact h.2.1, by rw [mSet_x (by omega)]; exact h.2.2.1, by rw [mSet_ne (by decide)]; exact h.2.2.2.1, by rw [mSet_x (by omega)]; exact h.2.2.2.2.1, by rw [mSet_ne (by decide)]; exact h.2.2.2.2.2⟩
            have fr : pFr I J I1 J1 := (pFr.s (by omega)).tr (pFr.nx f1)
            exact g2 a v ha (by omega) S d x I1 J1 o C P Q (r0.nx f1 t1) hP hC (fun hf I' J' c1 c2 => kf hf I' J' (fr.tr c1) c2) (fun hf I' J' c1 c2 => ks hf I' J' (fr.tr c1) c2)
      · have yo : uV b n p < 1 ∨ 2 < uV b n p := by
          rw [ev]
          rcases (show v = 0 ∨ 2 < v by omega) with w | w
          · exact Or.inl (nI_lt (a := v) (b := 1) (by omega) (by omega))
          · exact Or.inr (nI_lt (a := 2) (b := v) (by omega) (by omega))
        refine ⟨2, p, 0, 0, 0, fun q => absurd q (by decide), ?_, ?_⟩
        · intro S d x I J Q h h8 kf ks
          rw [if_pos a6]
          refine c43_29 ⟨fun q => absurd q (by decide), fun _ => takeS h.s29 (by rw [mSet_ne (by decide)]; exact h8) (fun q => absurd z q) (fun _ _ => ⟨fun _ => kf (by decide) _ (cF1.s.tr cF1.f) rfl ?_, fun q => absurd rfl q⟩) (fun _ q1 q2 => ?_)⟩
          · exact h.2.2.2.1
          · rcases yo with w | w
            · exact absurd w q1
            · exact absurd w q2
        · intro S d x I J o C P Q h hP hC kf ks
          refine c180_43 ⟨fun _ => takesR h.1 (fun q => absurd z q) (fun _ _ => ⟨fun _ => kf (by decide) _ _ pFr.rf h.1.2.2.2.1, fun q => absurd rfl q⟩) (fun _ q1 q2 => ?_), fun q => absurd l6 q⟩
          rcases yo with w | w
          · exact absurd w q1
          · exact absurd w q2
    · refine ⟨1, p, 0, 0, 0, fun q => absurd q (by decide), ?_, ?_⟩
      · intro S d x I J Q h h8 kf ks
        rw [if_pos a6]
        exact c43_29 ⟨fun q => absurd q (by decide), fun _ => takeS h.s29 (by rw [mSet_ne (by decide)]; exact h8) (fun _ => ⟨fun _ => kf (by decide) _ (cF1.s.tr cF1.f) rfl h.2.2.2.1, fun q => absurd rfl q⟩) (fun q => absurd q z) (fun q => absurd q z)⟩
      · intro S d x I J o C P Q h hP hC kf ks
        exact c180_43 ⟨fun _ => takesR h.1 (fun _ => ⟨fun _ => kf (by decide) _ _ pFr.rf h.1.2.2.2.1, fun q => absurd rfl q⟩) (fun q => absurd q z) (fun q => absurd q z), fun q => absurd l6 q⟩
  · have l6 : ¬ nI a < 6 := nI_nlt (a := a) (b := 6) (by omega) (by omega)
    obtain ⟨f, p', sg, num, g0, g1, g2⟩ := cmp2 (b := b) (lim := lim) hp
    refine ⟨f, p', 0, sg, num, fun q => ?_, ?_, ?_⟩
    · have := g0 q; omega
    · intro S d x I J Q h h8 kf ks
      rw [if_neg a6]
      refine c43_29 ⟨fun _ => ?_, fun q => absurd rfl q⟩
      exact g1 0 (by omega) S d x _ J _ Q h.s29 (by rw [mSet_ne (by decide)]; exact h8) (by show (0 : Int32) = _; decide) (fun hf I' c1 c2 c3 => kf hf I' (cF1.s.tr c1) c2 c3) (fun hf I' c1 c2 c3 c4 => ks hf I' (cF1.s.tr c1) c2 c3 c4)
    · intro S d x I J o C P Q h hP hC kf ks
      exact c180_43 ⟨fun q => absurd q l6, fun _ => g2 a 0 ha (by omega) S d x I J o C P Q h hP hC kf ks⟩
end AT0
end
section
/-! ONES and COND: both readers alike -/
section PA0
variable {S : Nat × (Nat → Int32)} {d : Nat} {x : mX} {I : rI0} {J : rJ0} {b : Nat → Int32} {n lim p : Nat}
theorem tw2z : ∀ w, w < 9 → ¬ (0 : Int64) = TW2.getD w 0 := by decide
theorem tw2_i : ∀ w, w < 9 → ∀ v, v < 9 → TW2.getD w 0 = TW2.getD v 0 → w = v := by decide
theorem amS_2 {Q : Int32 → rI0 → rJ0 → Prop} (h : Tck b n lim p I) (k1 : ∀ w, w < 9 → uW b n lim p = TW2.getD w 0 → Q (nI w) I J) (k0 : (∀ w, w < 9 → ¬ uW b n lim p = TW2.getD w 0) → Q (-1) I J) : wcI S (d + 8) 73 [.ref 28, .ref 1000002] x I J Q := by
  refine c73_28_1000002 ⟨fun z => amgS_2 h (h.2.2.1.symm.trans z) k1 9 0 rfl (fun g => k0 (fun w hw => g w (by omega) hw)), fun z => k0 (fun w hw => ?_)⟩
  rw [uW_n (fun q => z (h.2.2.1.trans q))]
  exact tw2z w hw
theorem atomR {Q : Int32 → rI0 → rJ0 → Prop} (h : Nck b n lim p I J) (k1 : ∀ w, w < 8 → uW b n lim p = TW2.getD w 0 → Q (nI w) I J) (k0 : (∀ w, w < 8 → ¬ uW b n lim p = TW2.getD w 0) → Q (-1) I J) : wcI S (d + 1) 178 [.ref 43] x I J Q := by
  refine c178_43 (wordR (by decide) h (fun z => ⟨fun q => absurd q (by decide), fun _ => k1 0 (by omega) z⟩) (fun z0 => ⟨fun _ => ?_, fun q => absurd rfl q⟩))
  refine wordR (by decide) h (fun z => ⟨fun q => absurd q (by decide), fun _ => k1 1 (by omega) z⟩) (fun z1 => ⟨fun _ => ?_, fun q => absurd rfl q⟩)
  refine wordR (by decide) h (fun z => ⟨fun q => absurd q (by decide), fun _ => k1 2 (by omega) z⟩) (fun z2 => ⟨fun _ => ?_, fun q => absurd rfl q⟩)
  refine wordR (by decide) h (fun z => ⟨fun q => absurd q (by decide), fun _ => k1 3 (by omega) z⟩) (fun z3 => ⟨fun _ => ?_, fun q => absurd rfl q⟩)
  refine wordR (by decide) h (fun z => ⟨fun q => absurd q (by decide), fun _ => k1 4 (by omega) z⟩) (fun z4 => ⟨fun _ => ?_, fun q => absurd rfl q⟩)
  refine wordR (by decide) h (fun z => ⟨fun q => absurd q (by decide), fun _ => k1 5 (by omega) z⟩) (fun z5 => ⟨fun _ => ?_, fun q => absurd rfl q⟩)
  refine wordR (by decide) h (fun z => ⟨fun q => absurd q (by decide), fun _ => k1 6 (by omega) z⟩) (fun z6 => ⟨fun _ => ?_, fun q => absurd rfl q⟩)
  refine wordR (by decide) h (fun z => ⟨fun q => absurd q (by decide), fun _ => k1 7 (by omega) z⟩) (fun z7 => ⟨fun _ => k0 (fun w hw => ?_), fun q => absurd rfl q⟩)
  match w, hw with
  | 0, _ => exact z0
  | 1, _ => exact z1
  | 2, _ => exact z2
  | 3, _ => exact z3
  | 4, _ => exact z4
  | 5, _ => exact z5
  | 6, _ => exact z6
  | 7, _ => exact z7
  | w + 8, hw => exact absurd hw (by omega)
def cFr (first o : Nat) (I I' : rI0) : Prop := (∀ a, a ≠ 22 → a ≠ 28 → a ≠ 29 → I' a = I a) ∧ (∀ k, k ≠ 2 → k ≠ 6 → I' 29 k = I 29 k) ∧ ∀ i, ¬ (first + o ≤ i ∧ i < first + 20) → I' 22 i = I 22 i
theorem cFr.tr {first o o1 : Nat} {I1 I2 : rI0} (h : cFr first o I I1) (ho : o ≤ o1) (h2 : cFr first o1 I1 I2) : cFr first o I I2 := ⟨fun a h3 h4 h5 => (h2.1 a h3 h4 h5).trans (h.1 a h3 h4 h5), fun k h3 h4 => (h2.2.1 k h3 h4).trans (h.2.1 k h3 h4), fun i hi => (h2.2.2 i (by omega)).trans (h.2.2 i hi)⟩
theorem cFr.rf {first o : Nat} : cFr first o I I := ⟨fun _ _ _ _ => rfl, fun _ _ _ => rfl, fun _ _ => rfl⟩
theorem cFr.o {first o : Nat} {I' : rI0} (h : ∀ a, a ≠ 28 → I' a = I a) : cFr first o I I' := ⟨fun a _ h4 _ => h a h4, fun k _ _ => by rw [h 29 (by decide)], fun i _ => by rw [h 22 (by decide)]⟩
theorem cFr.s {first o : Nat} {v : Int32} : cFr first o I (mSet I 29 2 v) := ⟨fun a _ _ h5 => mSet_ne h5, fun k h3 _ => mSet_x (by omega), fun i _ => by rw [mSet_ne (by decide)]⟩
theorem cFr.c {first o : Nat} {I' : rI0} (h : cF1 I I') : cFr first o I I' := ⟨fun a _ h4 h5 => h.1 a h4 h5, fun k _ h6 => h.2 k h6, fun i _ => by rw [h.1 22 (by decide) (by decide)]⟩
theorem cFr.w {first o : Nat} {v : Int32} (ho : o < 20) : cFr first o I (mSet I 22 (first + o) v) := ⟨fun a h3 _ _ => mSet_ne h3, fun k _ _ => by rw [mSet_ne (by decide)], fun i hi => mSet_x (by omega)⟩
def C1 (b : Nat → Int32) (n lim : Nat) (m p o : Nat) (f : Int32) (p' o' : Nat) (V : lV) : Prop := ∀ (S : Nat × (Nat → Int32)) (d : Nat) (x : mX) (I : rI0) (J : rJ0) (first j : Nat) (Q : Int32 → rI0 → rJ0 → Prop), first ≤ 220 → j ≤ 1 → Tck b n lim p I → I 28 8 = 0 → I 29 2 = nI o → (¬ f = 0 → ∀ I', cFr first o I I' → I' 28 8 = f → I' 28 4 = nI (uA b n lim p') → Q 0 I' J) → (f = 0 → ∀ I', cFr first o I I' → Tck b n lim p' I' → I' 28 8 = 0 → I' 29 2 = nI o' → lO (I' 22) m (first + o) (o' - o) j V → Q 1 I' J) → wcI S (d + 2 * m + 10) 42 [.ref 29, .int (nI first), .int (nI j), .int (nI (9 - m))] x I J Q
def R1 (b : Nat → Int32) (n lim : Nat) (m p o : Nat) (f : Int32) (p' o' : Nat) (R : List Int32) : Prop := ∀ (S : Nat × (Nat → Int32)) (d : Nat) (x : mX) (I : rI0) (J : rJ0) (C P : List Int32) (Q : Int32 → rI0 → rJ0 → Prop), RS b n lim p o C P I J → opn P + m = 8 → P.length ≤ 3 * opn P + 2 → C.length + P.length ≤ 2 * o + 1 → (¬ f = 0 → ∀ I' J', pFr I J I' J' → I' 43 10 = nI (uA b n lim p') → Q 0 (bdI I' f) J') → (f = 0 → ∀ I' J', pFr I J I' J' → RS b n lim p' o' (wdC 3 P ++ (R ++ C)) (wdP 3 P) I' J' → wp S (d + 6) 177 9 [some (.ref 43), none] [] (wv x I' J') (rI x Q)) → wp S (d + 5) 179 0 [some (.ref 43), none, none] [] (wv x I J) (rI x (fun r I1 J1 => (r = 0 → Q 0 I1 J1) ∧ (¬ r = 0 → wp S (d + 6) 177 9 [some (.ref 43), none] [] (wv x I1 J1) (rI x Q))))
def PO1 (b : Nat → Int32) (n lim : Nat) (m p o : Nat) : Prop := ∃ f p' o' R V, (f = 0 → o < o' ∧ o' ≤ 20 ∧ p < p' ∧ p' ≤ n ∧ rOk R V ∧ R.length + 1 ≤ 2 * (o' - o)) ∧ C1 b n lim m p o f p' o' V ∧ R1 b n lim m p o f p' o' R
def CLp (b : Nat → Int32) (n lim : Nat) (m c p o : Nat) (f : Int32) (p' o' : Nat) (l : lS) : Prop := ∀ (S : Nat × (Nat → Int32)) (d : Nat) (x : mX) (I : rI0) (J : rJ0) (first : Nat) (Q : Int32 → rI0 → rJ0 → Prop), first ≤ 220 → Tck b n lim p I → I 28 8 = 0 → I 29 2 = nI o → (¬ f = 0 → ∀ I', cFr first o I I' → I' 28 8 = f → I' 28 4 = nI (uA b n lim p') → Q 0 I' J) → (f = 0 → ∀ I', cFr first o I I' → Tck b n lim p' I' → I' 28 8 = 0 → I' 29 2 = nI o' → (∀ any all, lL (lO (I' 22) m) (c + 1) (first + o) (first + o') any all (vF l any all)) → Q 1 I' J) → wp S (d + 2 * m + 11) 41 14 [some (.ref 29), some (.int (nI first)), some (.int (nI (9 - m))), some (.int (nI (20 - c))), none] [] (wv x I J) (rI x Q)
def RLp (b : Nat → Int32) (n lim : Nat) (m p o : Nat) (f : Int32) (p' o' : Nat) (l : lS) : Prop := ∀ (S : Nat × (Nat → Int32)) (d : Nat) (x : mX) (I : rI0) (J : rJ0) (C B : List Int32) (s : Bool × Bool × List Int32) (Q : Int32 → rI0 → rJ0 → Prop), RS b n lim p o (s.2.2 ++ C) (aF s.2.1 ++ (oF s.1 ++ B)) I J → opn B + m = 8 → B.length ≤ 3 * opn B → (eF s).length + C.length + B.length ≤ 2 * o → (B = [] ∨ ∃ P, B = 6 :: P) → (¬ f = 0 → ∀ I' J', pFr I J I' J' → I' 43 10 = nI (uA b n lim p') → Q 0 (bdI I' f) J') → (f = 0 → ∀ I' J', pFr I J I' J' → RS b n lim p' o' ((sF l s).2.2 ++ C) (aF (sF l s).2.1 ++ (oF (sF l s).1 ++ B)) I' J' → wp S (d + 6) 177 9 [some (.ref 43), none] [] (wv x I' J') (rI x Q)) → wp S (d + 6) 177 9 [some (.ref 43), none] [] (wv x I J) (rI x Q)
/-! the pile's ends -/
theorem wd2 {a o : Bool} {B : List Int32} (hB : B = [] ∨ ∃ P, B = 6 :: P) : wdC 2 (aF a ++ (oF o ++ B)) = aF a ∧ wdP 2 (aF a ++ (oF o ++ B)) = oF o ++ B := by
  rcases hB with h | ⟨P, h⟩ <;> subst h <;> cases a <;> cases o <;> exact ⟨rfl, rfl⟩
theorem wd1 {a o : Bool} {B : List Int32} (hB : B = [] ∨ ∃ P, B = 6 :: P) : wdC 1 (aF a ++ (oF o ++ B)) = oF o ++ aF a ∧ wdP 1 (aF a ++ (oF o ++ B)) = B := by
  rcases hB with h | ⟨P, h⟩ <;> subst h <;> cases a <;> cases o <;> exact ⟨rfl, rfl⟩
theorem opn_s {a o : Bool} {B : List Int32} : opn (aF a ++ (oF o ++ B)) = opn B := by
  cases a <;> cases o <;> rfl
theorem eF_len {s : Bool × Bool × List Int32} {C B : List Int32} : (s.2.2 ++ C).length + (aF s.2.1 ++ (oF s.1 ++ B)).length = (eF s).length + C.length + B.length := by
  unfold eF
  simp only [List.length_append]
  omega
theorem af_len {a : Bool} : (aF a).length ≤ 1 := by cases a <;> decide
theorem of_len {o : Bool} : (oF o).length ≤ 1 := by cases o <;> decide
theorem mem6 {a o : Bool} {B : List Int32} : (6 : Int32) ∈ (aF a ++ (oF o ++ B)) ↔ (6 : Int32) ∈ B := by
  cases a <;> cases o <;> simp [aF, oF]
end PA0
end
section
section PB0
variable {S : Nat × (Nat → Int32)} {d : Nat} {x : mX} {I : rI0} {J : rJ0} {b : Nat → Int32} {n lim p : Nat}
theorem sF_len {j : Nat} {W : lV} {R : List Int32} {s : Bool × Bool × List Int32} : (eF (if j = 0 then (s.1, true, R ++ (aF s.2.1 ++ s.2.2)) else (true, false, R ++ (oF s.1 ++ (aF s.2.1 ++ s.2.2))))).length = (eF s).length + R.length + 1 := by
  split
  · show ([5] |> fun _ => (oF s.1 ++ ([4] ++ (R ++ (aF s.2.1 ++ s.2.2)))).length) = (oF s.1 ++ (aF s.2.1 ++ s.2.2)).length + R.length + 1
    simp only [List.length_append, List.length_cons, List.length_nil]
    omega
  · show ([5] ++ ([] ++ (R ++ (oF s.1 ++ (aF s.2.1 ++ s.2.2))))).length = (oF s.1 ++ (aF s.2.1 ++ s.2.2)).length + R.length + 1
    simp only [List.length_append, List.length_cons, List.length_nil]
    omega
theorem sF_cons {j : Nat} {W : lV} {R : List Int32} {l : lS} {s : Bool × Bool × List Int32} : sF ((j, W, R) :: l) s = sF l (if j = 0 then (s.1, true, R ++ (aF s.2.1 ++ s.2.2)) else (true, false, R ++ (oF s.1 ++ (aF s.2.1 ++ s.2.2)))) := by
  show (if j = 0 then sF l (s.1, true, R ++ (aF s.2.1 ++ s.2.2)) else sF l (true, false, R ++ (oF s.1 ++ (aF s.2.1 ++ s.2.2)))) = _
  split <;> rfl
/-- the join at p, to the head of the next ONE -/
theorem joinR {m o j : Nat} {C B : List Int32} {s : Bool × Bool × List Int32} {Q : Int32 → rI0 → rJ0 → Prop} (hj : (j = 0 ∧ uW b n lim p = 6385252) ∨ (j = 1 ∧ uW b n lim p = 28530)) (ho : o ≤ 20) (h : RS b n lim p o (s.2.2 ++ C) (aF s.2.1 ++ (oF s.1 ++ B)) I J) (hm : opn B + m = 8) (hB : B.length ≤ 3 * opn B) (hC : (eF s).length + C.length + B.length ≤ 2 * o) (h6 : B = [] ∨ ∃ P, B = 6 :: P) (k : ∀ I' J' C1 P1, pFr I J I' J' → RS b n lim (uE b n lim p) o C1 P1 I' J' → opn P1 + m = 8 → P1.length ≤ 3 * opn P1 + 2 → C1.length + P1.length ≤ 2 * o + 1 → (∀ R : List Int32, wdC 3 P1 ++ (R ++ C1) = (if j = 0 then (s.1, true, R ++ (aF s.2.1 ++ s.2.2)) else (true, false, R ++ (oF s.1 ++ (aF s.2.1 ++ s.2.2)))).2.2 ++ C ∧ wdP 3 P1 = aF (if j = 0 then (s.1, true, R ++ (aF s.2.1 ++ s.2.2)) else (true, false, R ++ (oF s.1 ++ (aF s.2.1 ++ s.2.2)))).2.1 ++ (oF (if j = 0 then (s.1, true, R ++ (aF s.2.1 ++ s.2.2)) else (true, false, R ++ (oF s.1 ++ (aF s.2.1 ++ s.2.2)))).1 ++ B)) → wp S (d + 5) 179 0 [some (.ref 43), none, none] [] (wv x I' J') (rI x (fun r I1 J1 => (r = 0 → Q 0 I1 J1) ∧ (¬ r = 0 → wp S (d + 6) 177 9 [some (.ref 43), none] [] (wv x I1 J1) (rI x Q))))) : wp S (d + 6) 177 9 [some (.ref 43), none] [] (wv x I J) (rI x Q) := by
  have k2 : uK b n lim p = 2 := by
    by_cases z : uK b n lim p = 2
    · exact z
    · rw [uW_n z] at hj
      rcases hj with ⟨-, q⟩ | ⟨-, q⟩ <;> exact absurd q (by decide)
  have hl := eF_len (s := s) (C := C) (B := B)
  have hop : opn (aF s.2.1 ++ (oF s.1 ++ B)) = opn B := opn_s
  have la := af_len (a := s.2.1)
  have lo := of_len (o := s.1)
  have lP : (aF s.2.1 ++ (oF s.1 ++ B)).length = (aF s.2.1).length + ((oF s.1).length + B.length) := by rw [List.length_append, List.length_append]
  refine v177_43_9 (signR (by decide) h.1 (fun q => absurd (k2.symm.trans q) (by decide)) (fun _ => ⟨fun _ => ?_, fun q => absurd rfl q⟩))
  rcases hj with ⟨rfl, hw⟩ | ⟨rfl, hw⟩
  · refine v177_43_52 (wordR (by decide) h.1 (fun _ => ⟨fun q => absurd q (by decide), fun _ => ⟨fun q => absurd q (by decide), fun _ => ?_⟩⟩) (fun q => absurd hw q))
    refine v177_43_104 (downR (l := 2) (by omega) _ _ I h (by omega) (by omega) (fun I1 f1 r1 => ⟨fun q => absurd q (by decide), fun _ => ?_⟩))
    rw [(wd2 h6).1, (wd2 h6).2] at r1
    have e27 := r1.2.2.2.2.1
    have lB : (oF s.1 ++ B).length = (oF s.1).length + B.length := List.length_append
    refine ⟨by rw [e27]; exact nI_in (by omega) (by omega), ?_⟩
    rw [e27, nI_clamp (by omega)]
    have r2 := r1.ps (v := 4)
    refine nextS r2.1.2.1 (fun I2 J2 f2 t2 => v177_43_0 ?_)
    refine k I2 J2 _ _ (f1.tr (((pFr.t (by omega)).tr (pFr.s (by omega))).tr (pFr.nx f2))) (r2.nx f2 t2) ?_ ?_ ?_ (fun R => ⟨?_, ?_⟩)
    · show opn (aF true ++ (oF s.1 ++ B)) + m = 8
      rw [opn_s]
      exact hm
    · show (oF s.1 ++ B).length + 1 ≤ 3 * opn (aF true ++ (oF s.1 ++ B)) + 2
      rw [opn_s]
      omega
    · show (aF s.2.1 ++ (s.2.2 ++ C)).length + ((oF s.1 ++ B).length + 1) ≤ 2 * o + 1
      rw [List.length_append]
      omega
    · show [] ++ (R ++ (aF s.2.1 ++ (s.2.2 ++ C))) = (R ++ (aF s.2.1 ++ s.2.2)) ++ C
      simp only [List.nil_append, List.append_assoc]
    · rfl
  · refine v177_43_52 (wordR (by decide) h.1 (fun q => absurd (hw.symm.trans q) (by decide)) (fun _ => ⟨fun _ => wordR (by decide) h.1 (fun _ => ⟨fun q => absurd q (by decide), fun _ => ⟨fun _ => ?_, fun q => absurd rfl q⟩⟩) (fun q => absurd hw q), fun q => absurd rfl q⟩))
    refine v177_43_104 (downR (l := 1) (by omega) _ _ I h (by omega) (by omega) (fun I1 f1 r1 => ⟨fun _ => ?_, fun q => absurd rfl q⟩))
    rw [(wd1 h6).1, (wd1 h6).2] at r1
    have e27 := r1.2.2.2.2.1
    refine ⟨by rw [e27]; exact nI_in (by omega) (by omega), ?_⟩
    rw [e27, nI_clamp (by omega)]
    have r2 := r1.ps (v := 5)
    refine nextS r2.1.2.1 (fun I2 J2 f2 t2 => v177_43_0 ?_)
    refine k I2 J2 _ _ (f1.tr (((pFr.t (by omega)).tr (pFr.s (by omega))).tr (pFr.nx f2))) (r2.nx f2 t2) ?_ ?_ ?_ (fun R => ⟨?_, ?_⟩)
    · show opn (aF false ++ (oF true ++ B)) + m = 8
      rw [opn_s]
      exact hm
    · show B.length + 1 ≤ 3 * opn (aF false ++ (oF true ++ B)) + 2
      rw [opn_s]
      omega
    · show ((oF s.1 ++ aF s.2.1) ++ (s.2.2 ++ C)).length + (B.length + 1) ≤ 2 * o + 1
      rw [List.length_append, List.length_append]
      omega
    · show [] ++ (R ++ ((oF s.1 ++ aF s.2.1) ++ (s.2.2 ++ C))) = (R ++ (oF s.1 ++ (aF s.2.1 ++ s.2.2))) ++ C
      simp only [List.nil_append, List.append_assoc]
    · rfl
theorem pl1 {m : Nat} (hm : m ≤ 8) (hG : ∀ p o, p ≤ n → o ≤ 20 → PO1 b n lim m p o) : ∀ c p o, p ≤ n → o ≤ 20 → 21 ≤ o + c → c ≤ 20 → ∃ f p' o' l, (f = 0 → o ≤ o' ∧ o' ≤ 20 ∧ p ≤ p' ∧ p' ≤ n ∧ (∀ q ∈ l, rOk q.2.2 q.2.1 ∧ q.1 ≤ 1) ∧ (∀ s, (eF (sF l s)).length + 2 * o ≤ (eF s).length + 2 * o') ∧ ¬ uW b n lim p' = 6385252 ∧ ¬ uW b n lim p' = 28530) ∧ CLp b n lim m c p o f p' o' l ∧ RLp b n lim m p o f p' o' l := by
  intro c
  induction c with
  | zero => intro p o _ h1 h2 _; omega
  | succ c ih =>
    intro p o hp ho hoc hc
    by_cases hj : ∃ j, (j = 0 ∧ uW b n lim p = 6385252) ∨ (j = 1 ∧ uW b n lim p = 28530)
    · obtain ⟨j, hj⟩ := hj
      have hj1 : j ≤ 1 := by omega
      have p1 := uE_le (b := b) (lim := lim) hp
      obtain ⟨f, p', o', R, V, g0, g1, g2⟩ := hG (uE b n lim p) o p1.2 ho
      -- the class's step
      have cs : ∀ (S : Nat × (Nat → Int32)) (d : Nat) (x : mX) (I : rI0) (J : rJ0) (first : Nat) (Q : Int32 → rI0 → rJ0 → Prop), first ≤ 220 → Tck b n lim p I → I 28 8 = 0 → I 29 2 = nI o → (¬ f = 0 → ∀ I', cFr first o I I' → I' 28 8 = f → I' 28 4 = nI (uA b n lim p') → Q 0 I' J) → (f = 0 → ∀ I', cFr first o I I' → Tck b n lim p' I' → I' 28 8 = 0 → I' 29 2 = nI o' → lO (I' 22) m (first + o) (o' - o) j V → wp S (d + 2 * m + 11) 41 14 [some (.ref 29), some (.int (nI first)), some (.int (nI (9 - m))), some (.int (nI (20 - c))), none] [] (wv x I' J) (rI x Q)) → wp S (d + 2 * m + 11) 41 14 [some (.ref 29), some (.int (nI first)), some (.int (nI (9 - m))), some (.int (nI (20 - (c + 1)))), none] [] (wv x I J) (rI x Q) := by
        intro S d x I J first Q hf h h8 h2 kf ks
        have one : ∀ I1, (∀ a, a ≠ 28 → I1 a = I a) → I1 28 8 = 0 → Tck b n lim (uE b n lim p) I1 → wcI S (d + 2 * m + 10) 42 [.ref 29, .int (nI first), .int (nI j), .int (nI (9 - m))] x I1 J (fun r3 I3 J3 => (r3 = 0 → Q 0 I3 J3) ∧ (¬ r3 = 0 → wp S (d + 2 * m + 11) 41 14 [some (.ref 29), some (.int (nI first)), some (.int (nI (9 - m))), some (.int (nI (20 - (c + 1)) + 1)), none] [] (wv x I3 J3) (rI x Q))) := by
          intro I1 o1 e8 t1
          refine g1 S d x I1 J first j _ hf hj1 t1 e8 (by rw [o1 29 (by decide)]; exact h2) (fun z I' c1 c2 c3 => ⟨fun _ => kf z I' ((cFr.o o1).tr (Nat.le_refl _) c1) c2 c3, fun q => absurd rfl q⟩) (fun z I' c1 c2 c3 c4 c5 => ⟨fun q => absurd q (by decide), fun _ => ?_⟩)
          rw [← nI_succ, show 20 - (c + 1) + 1 = 20 - c by omega]
          exact ks z I' ((cFr.o o1).tr (Nat.le_refl _) c1) c2 c3 c4 c5
        refine v41_29_14 ⟨fun _ => ?_, fun q => absurd (nI_lt (b := 20) (by omega) (by omega)) q⟩
        rcases hj with ⟨e, hw⟩ | ⟨e, hw⟩
        · subst e
          exact amongS_3 h (fun _ => ⟨fun q => absurd q (by decide), fun _ => readS h.2.1 (fun I1 o1 t1 => one I1 o1.1 ((o1.2 8 (by omega)).trans h8) t1)⟩) (fun q => absurd (hw.symm.trans q) (by decide)) (fun q => absurd hw q)
        · subst e
          exact amongS_3 h (fun q => absurd (hw.symm.trans q) (by decide)) (fun _ => ⟨fun q => absurd q (by decide), fun _ => readS h.2.1 (fun I1 o1 t1 => one I1 o1.1 ((o1.2 8 (by omega)).trans h8) t1)⟩) (fun _ q => absurd hw q)
      by_cases z : f = 0
      · obtain ⟨a1, a2, a3, a4, a5, a6⟩ := g0 z
        obtain ⟨f2, p2, o2, l, q0, q1, q2⟩ := ih p' o' a4 a2 (by omega) (by omega)
        refine ⟨f2, p2, o2, (j, V, R) :: l, fun y => ?_, ?_, ?_⟩
        · obtain ⟨b1, b2, b3, b4, b5, b6, b7⟩ := q0 y
          refine ⟨by omega, b2, by omega, b4, fun q hq => ?_, fun s => ?_, b7⟩
          · rcases List.mem_cons.mp hq with w | w
            · subst w; exact ⟨a5, hj1⟩
            · exact b5 q w
          · rw [sF_cons]
            have w := b6 (if j = 0 then (s.1, true, R ++ (aF s.2.1 ++ s.2.2)) else (true, false, R ++ (oF s.1 ++ (aF s.2.1 ++ s.2.2))))
            rw [sF_len (W := V)] at w
            omega
        · intro S d x I J first Q hf h h8 h2 kf ks
          refine cs S d x I J first Q hf h h8 h2 (fun y => absurd z y) (fun _ I1 c1 c2 c3 c4 c5 => ?_)
          refine q1 S d x I1 J first Q hf c2 c3 c4 (fun y I' e1 e2 e3 => kf y I' (c1.tr (by omega) e1) e2 e3) (fun y I' e1 e2 e3 e4 e5 => ks y I' (c1.tr (by omega) e1) e2 e3 e4 (fun any all => ?_))
          refine Or.inr ⟨o' - o, j, V, by omega, lO_cg _ _ _ _ _ (fun t h1 h2 => e1.2.2 t (by omega)) c5, ?_⟩
          rw [show first + o + (o' - o) = first + o' by omega]
          rcases (show j = 0 ∨ j = 1 by omega) with w | w
          · subst w
            exact Or.inl ⟨rfl, e5 _ _⟩
          · subst w
            exact Or.inr ⟨rfl, e5 _ _⟩
        · intro S d x I J C B s Q h hm8 hB hC h6 kf ks
          refine joinR (j := j) hj ho h hm8 hB hC h6 (fun I1 J1 C1 P1 f1 r1 n1 n2 n3 n4 => ?_)
          refine g2 S d x I1 J1 C1 P1 Q r1 n1 n2 n3 (fun y => absurd z y) (fun _ I2 J2 f2 r2 => ?_)
          rw [(n4 R).1, (n4 R).2] at r2
          have w := sF_len (j := j) (W := V) (R := R) (s := s)
          refine q2 S d x I2 J2 C B _ Q r2 hm8 hB (by omega) h6 (fun y I' J' e1 e2 => kf y I' J' (f1.tr (f2.tr e1)) e2) (fun y I' J' e1 e2 => ks y I' J' (f1.tr (f2.tr e1)) ?_)
          rw [sF_cons]
          exact e2
      · refine ⟨f, p', o', [], fun y => absurd y z, ?_, ?_⟩
        · intro S d x I J first Q hf h h8 h2 kf ks
          exact cs S d x I J first Q hf h h8 h2 kf (fun y => absurd y z)
        · intro S d x I J C B s Q h hm8 hB hC h6 kf ks
          refine joinR (j := j) hj ho h hm8 hB hC h6 (fun I1 J1 C1 P1 f1 r1 n1 n2 n3 n4 => ?_)
          exact g2 S d x I1 J1 C1 P1 Q r1 n1 n2 n3 (fun y I' J' e1 e2 => kf y I' J' (f1.tr e1) e2) (fun y => absurd y z)
    · have h1 : ¬ uW b n lim p = 6385252 := fun q => hj ⟨0, Or.inl ⟨rfl, q⟩⟩
      have h2 : ¬ uW b n lim p = 28530 := fun q => hj ⟨1, Or.inr ⟨rfl, q⟩⟩
      refine ⟨0, p, o, [], fun _ => ⟨Nat.le_refl _, ho, Nat.le_refl _, hp, fun q hq => absurd hq List.not_mem_nil, fun s => Nat.le_refl _, h1, h2⟩, ?_, ?_⟩
      · intro S d x I J first Q hf h h8 e2 kf ks
        refine v41_29_14 ⟨fun _ => amongS_3 h (fun q => absurd q h1) (fun q => absurd q h2) (fun _ _ => ⟨fun _ => ks rfl I cFr.rf h h8 e2 (fun any all => Or.inl ⟨rfl, rfl⟩), fun q => absurd rfl q⟩), fun q => absurd (nI_lt (b := 20) (by omega) (by omega)) q⟩
      · intro S d x I J C B s Q h hm8 hB hC h6 kf ks
        exact ks rfl I J pFr.rf h
end PB0
end
section
section PC0
variable {S : Nat × (Nat → Int32)} {d : Nat} {x : mX} {I : rI0} {J : rJ0} {b : Nat → Int32} {n lim p : Nat}
def CJ (b : Nat → Int32) (n lim : Nat) (m p o : Nat) (f : Int32) (p' o' : Nat) (V : lV) : Prop := ∀ (S : Nat × (Nat → Int32)) (d : Nat) (x : mX) (I : rI0) (J : rJ0) (first : Nat) (Q : Int32 → rI0 → rJ0 → Prop), first ≤ 220 → Tck b n lim p I → I 28 8 = 0 → I 29 2 = nI o → (¬ f = 0 → ∀ I', cFr first o I I' → I' 28 8 = f → I' 28 4 = nI (uA b n lim p') → Q 0 I' J) → (f = 0 → ∀ I', cFr first o I I' → Tck b n lim p' I' → I' 28 8 = 0 → I' 29 2 = nI o' → lJ (lO (I' 22) m) (first + o) (o' - o) V → Q 1 I' J) → wcI S (d + 2 * m + 11) 41 [.ref 29, .int (nI first), .int (nI (9 - m))] x I J Q
def RJ (b : Nat → Int32) (n lim : Nat) (m p o : Nat) (f : Int32) (p' o' : Nat) (s : Bool × Bool × List Int32) : Prop := ∀ (S : Nat × (Nat → Int32)) (d : Nat) (x : mX) (I : rI0) (J : rJ0) (C B : List Int32) (Q : Int32 → rI0 → rJ0 → Prop), RS b n lim p o C B I J → opn B + m = 8 → B.length ≤ 3 * opn B → C.length + B.length ≤ 2 * o + 1 → (B = [] ∨ ∃ P, B = 6 :: P) → (¬ f = 0 → ∀ I' J', pFr I J I' J' → I' 43 10 = nI (uA b n lim p') → Q 0 (bdI I' f) J') → (f = 0 → ∀ I' J', pFr I J I' J' → RS b n lim p' o' (s.2.2 ++ C) (aF s.2.1 ++ (oF s.1 ++ B)) I' J' → wp S (d + 6) 177 9 [some (.ref 43), none] [] (wv x I' J') (rI x Q)) → wp S (d + 5) 179 0 [some (.ref 43), none, none] [] (wv x I J) (rI x (fun r I1 J1 => (r = 0 → Q 0 I1 J1) ∧ (¬ r = 0 → wp S (d + 6) 177 9 [some (.ref 43), none] [] (wv x I1 J1) (rI x Q))))
theorem wd3 {B : List Int32} (hB : B = [] ∨ ∃ P, B = 6 :: P) : wdC 3 B = [] ∧ wdP 3 B = B := by
  rcases hB with h | ⟨P, h⟩ <;> subst h <;> exact ⟨rfl, rfl⟩
theorem pj1 {m : Nat} (hm : m ≤ 8) (hG : ∀ p o, p ≤ n → o ≤ 20 → PO1 b n lim m p o) {o : Nat} (hp : p ≤ n) (ho : o ≤ 20) : ∃ f p' o' s V, (f = 0 → o < o' ∧ o' ≤ 20 ∧ p < p' ∧ p' ≤ n ∧ rOk (eF s) V ∧ (eF s).length + 1 ≤ 2 * (o' - o) ∧ ¬ uW b n lim p' = 6385252 ∧ ¬ uW b n lim p' = 28530) ∧ CJ b n lim m p o f p' o' V ∧ RJ b n lim m p o f p' o' s := by
  obtain ⟨f, p', o', R, V, g0, g1, g2⟩ := hG p o hp ho
  by_cases z : f = 0
  · obtain ⟨a1, a2, a3, a4, a5, a6⟩ := g0 z
    obtain ⟨f2, p2, o2, l, q0, q1, q2⟩ := pl1 hm hG 20 p' o' a4 a2 (by omega) (by omega)
    refine ⟨f2, p2, o2, sF l (false, false, R), vF l (fun _ => false) V, fun y => ?_, ?_, ?_⟩
    · obtain ⟨b1, b2, b3, b4, b5, b6, b7⟩ := q0 y
      have w := b6 (false, false, R)
      have e : (eF (false, false, R)).length = R.length := rfl
      refine ⟨by omega, b2, by omega, b4, sOk_F l _ _ _ b5 (fun at_ dec hd st => ⟨fun _ => rfl, a5 at_ dec hd st⟩), by omega, b7⟩
    · intro S d x I J first Q hf h h8 h2 kf ks
      refine c41_29 (g1 S d x I J first 0 _ hf (by omega) h h8 h2 (fun y => absurd z y) (fun _ I1 c1 c2 c3 c4 c5 => ⟨fun q => absurd q (by decide), fun _ => ?_⟩))
      refine q1 S d x I1 J first Q hf c2 c3 c4 (fun y I' e1 e2 e3 => kf y I' (c1.tr (by omega) e1) e2 e3) (fun y I' e1 e2 e3 e4 e5 => ks y I' (c1.tr (by omega) e1) e2 e3 e4 ⟨o' - o, V, by omega, lO_cg _ _ _ _ _ (fun t h1 h2 => e1.2.2 t (by omega)) c5, ?_⟩)
      have b1 := (q0 y).1
      rw [show first + o + (o' - o) = first + o' by omega, show first + o + (o2 - o) = first + o2 by omega]
      exact e5 _ _
    · intro S d x I J C B Q h hm8 hB hC h6 kf ks
      refine g2 S d x I J C B Q h hm8 (by omega) (by omega) (fun y => absurd z y) (fun _ I1 J1 f1 r1 => ?_)
      rw [(wd3 h6).1, (wd3 h6).2] at r1
      have e : (eF (false, false, R)).length = R.length := rfl
      exact q2 S d x I1 J1 C B (false, false, R) Q r1 hm8 hB (by omega) h6 (fun y I' J' e1 e2 => kf y I' J' (f1.tr e1) e2) (fun y I' J' e1 e2 => ks y I' J' (f1.tr e1) e2)
  · refine ⟨f, p', o', (false, false, []), V, fun y => absurd y z, ?_, ?_⟩
    · intro S d x I J first Q hf h h8 h2 kf ks
      exact c41_29 (g1 S d x I J first 0 _ hf (by omega) h h8 h2 (fun y I' c1 c2 c3 => ⟨fun _ => kf y I' c1 c2 c3, fun q => absurd rfl q⟩) (fun y => absurd y z))
    · intro S d x I J C B Q h hm8 hB hC h6 kf ks
      exact g2 S d x I J C B Q h hm8 (by omega) (by omega) kf (fun y => absurd y z)
theorem closeR {o : Nat} {C P : List Int32} {s : Bool × Bool × List Int32} {Q : Int32 → rI0 → rJ0 → Prop} (h : RS b n lim p o (s.2.2 ++ C) (aF s.2.1 ++ (oF s.1 ++ 6 :: P)) I J) (hk : uK b n lim p = 41) (hP : P.length ≤ 26) (hC : (eF s).length + C.length + (P.length + 1) ≤ 41) (k : ∀ I' J', pFr I J I' J' → RS b n lim (uE b n lim p) o (wdC 3 P ++ (eF s ++ C)) (wdP 3 P) I' J' → wp S (d + 6) 177 9 [some (.ref 43), none] [] (wv x I' J') (rI x Q)) : wp S (d + 6) 177 9 [some (.ref 43), none] [] (wv x I J) (rI x Q) := by
  have h6 : (6 :: P) = [] ∨ ∃ P', (6 :: P) = 6 :: P' := Or.inr ⟨P, rfl⟩
  have hl := eF_len (s := s) (C := C) (B := 6 :: P)
  have la := af_len (a := s.2.1)
  have lo := of_len (o := s.1)
  have l6 : ((6 : Int32) :: P).length = P.length + 1 := rfl
  have lP : (aF s.2.1 ++ (oF s.1 ++ 6 :: P)).length = (aF s.2.1).length + ((oF s.1).length + (P.length + 1)) := by rw [List.length_append, List.length_append]; rfl
  refine v177_43_9 (signR (by decide) h.1 (fun _ => ⟨fun q => absurd q (by decide), fun _ => ?_⟩) (fun q => absurd hk q))
  refine isOpenR h (by omega) (fun _ => ⟨fun q => absurd q (by decide), fun _ => ?_⟩) (fun q => absurd (mem6.mpr List.mem_cons_self) q)
  refine downR (l := 1) (by omega) _ _ I h (by omega) (by omega) (fun I1 f1 r1 => ?_)
  rw [(wd1 h6).1, (wd1 h6).2] at r1
  have e27 : I1 43 27 - 1 = nI P.length := by
    rw [r1.2.2.2.2.1]
    exact nI_pr _
  rw [e27]
  have lc : ((oF s.1 ++ aF s.2.1) ++ (s.2.2 ++ C)).length = (eF s).length + C.length := by
    unfold eF
    simp only [List.length_append]
    omega
  refine downR (l := 3) (by omega) _ _ _ r1.pp (by omega) (by omega) (fun I2 f2 r2 => nextS r2.1.2.1 (fun I3 J3 f3 t3 => k I3 J3 (f1.tr ((pFr.s (by omega)).tr (f2.tr (pFr.nx f3)))) ?_))
  have r3 := r2.nx f3 t3
  have ec : (oF s.1 ++ aF s.2.1) ++ (s.2.2 ++ C) = eF s ++ C := by
    unfold eF
    simp only [List.append_assoc]
  rw [ec] at r3
  exact r3
theorem shutR {o : Nat} {C B : List Int32} {s : Bool × Bool × List Int32} {Q : Int32 → rI0 → rJ0 → Prop} (h : RS b n lim p o (s.2.2 ++ C) (aF s.2.1 ++ (oF s.1 ++ B)) I J) (hk : ¬ uK b n lim p = 41) (w1 : ¬ uW b n lim p = 6385252) (w2 : ¬ uW b n lim p = 28530) (hB : B.length ≤ 27) (h6 : (6 : Int32) ∈ B) (k : Q 0 (bdI I 1) J) : wp S (d + 6) 177 9 [some (.ref 43), none] [] (wv x I J) (rI x Q) := by
  have la := af_len (a := s.2.1)
  have lo := of_len (o := s.1)
  have lP : (aF s.2.1 ++ (oF s.1 ++ B)).length = (aF s.2.1).length + ((oF s.1).length + B.length) := by rw [List.length_append, List.length_append]
  exact v177_43_9 (signR (by decide) h.1 (fun q => absurd q hk) (fun _ => ⟨fun _ => v177_43_52 (wordR (by decide) h.1 (fun q => absurd q w1) (fun _ => ⟨fun _ => wordR (by decide) h.1 (fun q => absurd q w2) (fun _ => ⟨fun _ => isOpenR h (by omega) (fun _ => ⟨fun q => absurd q (by decide), fun _ => badR ⟨Or.inl rfl, k⟩⟩) (fun q => absurd (mem6.mpr h6) q), fun q => absurd rfl q⟩), fun q => absurd rfl q⟩)), fun q => absurd rfl q⟩))
/-- the end of a law's COND -/
theorem endR {o : Nat} {s : Bool × Bool × List Int32} {Q : Int32 → rI0 → rJ0 → Prop} (h : RS b n lim p o (s.2.2 ++ []) (aF s.2.1 ++ (oF s.1 ++ [])) I J) (w1 : ¬ uW b n lim p = 6385252) (w2 : ¬ uW b n lim p = 28530) (hC : (eF s).length ≤ 40) (k : ∀ I', pFr I J I' J → RS b n lim p o (eF s) [] I' J → Q 1 I' J) : wp S (d + 6) 177 9 [some (.ref 43), none] [] (wv x I J) (rI x Q) := by
  have hl := eF_len (s := s) (C := []) (B := [])
  have la := af_len (a := s.2.1)
  have lo := of_len (o := s.1)
  have l0 : ([] : List Int32).length = 0 := rfl
  have lP : (aF s.2.1 ++ (oF s.1 ++ [])).length = (aF s.2.1).length + ((oF s.1).length + 0) := by rw [List.length_append, List.length_append]; rfl
  have n6 : ¬ (6 : Int32) ∈ (aF s.2.1 ++ (oF s.1 ++ [])) := fun q => absurd (mem6.mp q) List.not_mem_nil
  have go : wp S (d + 6) 177 52 [some (.ref 43), none] [] (wv x I J) (rI x Q) := by
    refine v177_43_52 (wordR (by decide) h.1 (fun q => absurd q w1) (fun _ => ⟨fun _ => wordR (by decide) h.1 (fun q => absurd q w2) (fun _ => ⟨fun _ => isOpenR h (by omega) (fun q => absurd q n6) (fun _ => ⟨fun _ => ?_, fun q => absurd rfl q⟩), fun q => absurd rfl q⟩), fun q => absurd rfl q⟩))
    refine downR (l := 1) (by omega) _ _ I h (by omega) (by omega) (fun I1 f1 r1 => k I1 f1 ?_)
    rw [(wd1 (Or.inl rfl)).1, (wd1 (Or.inl rfl)).2] at r1
    have ec : (oF s.1 ++ aF s.2.1) ++ (s.2.2 ++ []) = eF s := by
      unfold eF
      simp only [List.append_assoc, List.append_nil]
    rw [ec] at r1
    exact r1
  exact v177_43_9 (signR (by decide) h.1 (fun _ => ⟨fun q => absurd q (by decide), fun _ => isOpenR h (by omega) (fun q => absurd q n6) (fun _ => ⟨fun _ => go, fun q => absurd rfl q⟩)⟩) (fun _ => ⟨fun _ => go, fun q => absurd rfl q⟩))
/-! what stands at p: w is 0 to 7 a comparison, 8 not, 9 a group -/
def wAt (b : Nat → Int32) (n lim p w : Nat) : Prop := (uK b n lim p = 40 ∧ w = 9) ∨ (¬ uK b n lim p = 40 ∧ w < 9 ∧ uW b n lim p = TW2.getD w 0)
theorem cOne {w : Nat} {p1 p2 p3 : Int32} {Q : Int32 → rI0 → rJ0 → Prop} (hw : wAt b n lim p w) (h : Tck b n lim p I) (k : wp S (d + 9) 42 26 [some (.ref 29), some (.int p1), some (.int p2), some (.int p3), none, none, none] [.int (nI w)] (wv x I J) (rI x Q)) : wcI S (d + 9) 42 [.ref 29, .int p1, .int p2, .int p3] x I J Q := by
  rcases hw with ⟨h1, rfl⟩ | ⟨h1, h2, h3⟩
  · exact c42_29 ⟨fun _ => k, fun q => absurd (h.2.2.1.trans h1) q⟩
  · refine c42_29 ⟨fun q => absurd (h.2.2.1.symm.trans q) h1, fun _ => amS_2 h (fun v hv y => ?_) (fun g => absurd h3 (g w h2))⟩
    have e := tw2_i v hv w h2 (y.symm.trans h3)
    subst e
    exact k
theorem cOne0 {p1 p2 p3 : Int32} {Q : Int32 → rI0 → rJ0 → Prop} (h4 : ¬ uK b n lim p = 40) (hw : ∀ w, w < 9 → ¬ uW b n lim p = TW2.getD w 0) (h : Tck b n lim p I) (k : Q 0 (mSet I 28 8 1) J) : wcI S (d + 9) 42 [.ref 29, .int p1, .int p2, .int p3] x I J Q :=
  c42_29 ⟨fun q => absurd (h.2.2.1.symm.trans q) h4, fun _ => amS_2 h (fun v hv y => absurd y (hw v hv)) (fun _ => v42_29_26 ⟨fun _ => failS ⟨Or.inl rfl, k⟩, fun q => absurd rfl q⟩)⟩
theorem rOne {w : Nat} {Q : Int32 → rI0 → rJ0 → Prop} (hw : wAt b n lim p w) (h : Nck b n lim p I J) (k : ∀ l1 l2 : Int32, (w = 9 → l1 = 0 ∧ l2 < 0) → (w = 8 → ¬ l1 = 0 ∧ l2 < 0) → (w < 8 → l2 = nI w) → wp S (d + 5) 179 36 [some (.ref 43), some (.int l1), some (.int l2)] [] (wv x I J) (rI x Q)) : wp S (d + 5) 179 0 [some (.ref 43), none, none] [] (wv x I J) (rI x Q) := by
  rcases hw with ⟨h1, rfl⟩ | ⟨h1, h2, h3⟩
  · have e0 : uW b n lim p = 0 := uW_n (by rw [h1]; decide)
    refine v179_43_0 (wordR (by decide) h (fun q => absurd (e0.symm.trans q) (by decide)) (fun _ => atomR h (fun v hv y => absurd (e0.symm.trans y) (tw2z v (by omega))) (fun _ => ⟨fun _ => ⟨fun _ => signR (by decide) h (fun _ => ⟨fun q => absurd q (by decide), fun _ => k 0 (-1) (fun _ => by decide) (fun q => absurd q (by decide)) (fun q => absurd q (by decide))⟩) (fun q => absurd h1 q), fun q => absurd (by decide) q⟩, fun q => absurd rfl q⟩)))
  · rcases (show w = 8 ∨ w < 8 by omega) with e | e
    · subst e
      refine v179_43_0 (wordR (by decide) h (fun _ => atomR h (fun v hv y => ?_) (fun _ => ⟨fun q => absurd q (by decide), fun _ => k 1 (-1) (fun q => absurd q (by decide)) (fun _ => by decide) (fun q => absurd q (by decide))⟩)) (fun q => absurd h3 q))
      have := tw2_i v (by omega) 8 (by omega) (y.symm.trans h3)
      omega
    · have n8 : ¬ uW b n lim p = 7237492 := fun q => by
        have : uW b n lim p = TW2.getD 8 0 := q
        have := tw2_i w (by omega) 8 (by omega) (h3.symm.trans this)
        omega
      refine v179_43_0 (wordR (by decide) h (fun q => absurd q n8) (fun _ => atomR h (fun v hv y => ?_) (fun g => absurd h3 (g w e))))
      have ev := tw2_i v (by omega) w h2 (y.symm.trans h3)
      subst ev
      exact ⟨fun _ => ⟨fun q => absurd q (nI_nlt (a := v) (b := 0) (by omega) (by omega)), fun _ => k 0 (nI v) (fun q => absurd q (by omega)) (fun q => absurd q (by omega)) (fun _ => rfl)⟩, fun q => absurd rfl q⟩
theorem rOne0 {Q : Int32 → rI0 → rJ0 → Prop} (h4 : ¬ uK b n lim p = 40) (hw : ∀ w, w < 9 → ¬ uW b n lim p = TW2.getD w 0) (h : Nck b n lim p I J) (k : Q 0 (bdI I 1) J) : wp S (d + 5) 179 0 [some (.ref 43), none, none] [] (wv x I J) (rI x Q) :=
  v179_43_0 (wordR (by decide) h (fun q => absurd q (hw 8 (by omega))) (fun _ => atomR h (fun v hv y => absurd y (hw v (by omega))) (fun _ => ⟨fun _ => ⟨fun _ => signR (by decide) h (fun q => absurd q h4) (fun _ => ⟨fun _ => badR ⟨Or.inl rfl, k⟩, fun q => absurd rfl q⟩), fun q => absurd (by decide) q⟩, fun q => absurd rfl q⟩)))
end PC0
end
