/-! a comparison: both readers alike -/
section AT0
variable {S : Nat × (Nat → Int32)} {d : Nat} {x : mX} {I : rI0} {J : rJ0} {b : Nat → Int32} {n lim p : Nat}
def cF1 (I I' : rI0) : Prop := (∀ a, a ≠ 28 → a ≠ 29 → I' a = I a) ∧ ∀ k, k ≠ 6 → I' 29 k = I 29 k
theorem cF1.rf : cF1 I I := ⟨fun _ _ _ => rfl, fun _ _ => rfl⟩
theorem cF1.tr {I1 I2 : rI0} (h : cF1 I I1) (h2 : cF1 I1 I2) : cF1 I I2 := ⟨fun a h3 h4 => (h2.1 a h3 h4).trans (h.1 a h3 h4), fun k hk => (h2.2 k hk).trans (h.2 k hk)⟩
theorem cF1.o {I' : rI0} (h : ∀ a, a ≠ 28 → I' a = I a) : cF1 I I' := ⟨fun a h3 _ => h a h3, fun k _ => by rw [h 29 (by decide)]⟩
theorem cF1.s {v : Int32} : cF1 I (mSet I 29 6 v) := ⟨fun a _ h4 => mSet_ne h4, fun k hk => mSet_x (by omega)⟩
theorem cF1.f {v : Int32} : cF1 I (mSet I 28 8 v) := cF1.o (fun a ha => mSet_ne ha)
theorem Tck.s29 {k : Nat} {v : Int32} (h : Tck b n lim p I) : Tck b n lim p (mSet I 29 k v) := h.o (mSet_ne (by decide)) (mSet_ne (by decide))
theorem Tst.s29 {k : Nat} {v : Int32} (h : Tst b n lim p I) : Tst b n lim p (mSet I 29 k v) := by
  unfold Tst at *
  rw [mSet_ne (by decide), mSet_ne (by decide)]
  exact h
theorem k60 {K : Int32} (h1 : ¬ K < 60) (h2 : ¬ 62 < K) : ∃ sg, sg ≤ 2 ∧ K = nI (60 + sg) := by
  have a := i_nlt h1
  have c := i_nlt h2
  have v60 : (60 : Int32).toInt = 60 := by decide
  have v62 : (62 : Int32).toInt = 62 := by decide
  refine ⟨(K.toInt - 60).toNat, by omega, ?_⟩
  rw [← Int32.toInt_inj, nI_toInt (by omega)]
  omega
def CmC (b : Nat → Int32) (n lim : Nat) (lev p : Nat) (f : Int32) (p' sg num : Nat) : Prop := ∀ (S : Nat × (Nat → Int32)) (d : Nat) (x : mX) (I : rI0) (J : rJ0) (l1 : Int32) (Q : Int32 → rI0 → rJ0 → Prop), Tck b n lim p I → I 28 8 = 0 → I 29 6 = nI lev <<< ((12 : Int32) &&& 31) → (¬ f = 0 → ∀ I', cF1 I I' → I' 28 8 = f → I' 28 4 = nI (uA b n lim p') → Q 0 I' J) → (f = 0 → ∀ I', cF1 I I' → Tck b n lim p' I' → I' 28 8 = 0 → I' 29 6 = nI (lev * 4096 + sg * 1024 + num) → Q 1 I' J) → wp S (d + 2) 43 37 [some (.ref 29), some (.int l1)] [] (wv x I J) (rI x Q)
def AsR (b : Nat → Int32) (n lim : Nat) (a lev p : Nat) (f : Int32) (p' sg num : Nat) : Prop := ∀ (S : Nat × (Nat → Int32)) (d : Nat) (x : mX) (I : rI0) (J : rJ0) (o : Nat) (C P : List Int32) (Q : Int32 → rI0 → rJ0 → Prop), RS b n lim p o C P I J → P.length ≤ 30 → C.length + P.length < 63 → (¬ f = 0 → ∀ I' J', pFr I J I' J' → I' 43 10 = nI (uA b n lim p') → Q 0 (bdI I' f) J') → (f = 0 → ∀ I' J', pFr I J I' J' → RS b n lim p' o (wdC 3 P ++ (nI (rWd a lev sg num) :: C)) (wdP 3 P) I' J' → Q 1 I' J') → wp S (d + 3) 180 24 [some (.ref 43), some (.int (nI a)), some (.int (nI lev)), none, none] [] (wv x I J) (rI x Q)
theorem tok60 {sg : Nat} (h : sg ≤ 2) : tokOf (nI (60 + sg)) = 3 ∧ ¬ nI (60 + sg) < 60 ∧ ¬ 62 < nI (60 + sg) := by
  rcases (show sg = 0 ∨ sg = 1 ∨ sg = 2 by omega) with z | z | z <;> subst z <;> decide
theorem eq60 {sg : Nat} (h : sg ≤ 2) : nI (60 + sg) = 60 ∨ nI (60 + sg) = 61 ∨ nI (60 + sg) = 62 := by
  rcases (show sg = 0 ∨ sg = 1 ∨ sg = 2 by omega) with z | z | z <;> subst z <;> decide
theorem cmp2 (hp : p ≤ n) : ∃ f p' sg num, (f = 0 → sg ≤ 2 ∧ num ≤ 999 ∧ p ≤ p' ∧ p' ≤ n) ∧ (∀ lev, lev ≤ 2 → CmC b n lim lev p f p' sg num) ∧ (∀ a lev, a < 8 → lev ≤ 2 → AsR b n lim a lev p f p' sg num) := by
  by_cases z : ¬ uK b n lim p < 60 ∧ ¬ 62 < uK b n lim p
  · obtain ⟨sg, hs, es⟩ := k60 z.1 z.2
    have t60 := tok60 hs
    have p1 := uE_le (b := b) (lim := lim) hp
    by_cases y : uK b n lim (uE b n lim p) = 3
    · obtain ⟨num, hn, en⟩ := uV_b y
      have p2 := uE_le (b := b) (lim := lim) p1.2
      refine ⟨0, uE b n lim (uE b n lim p), sg, num, fun _ => ⟨hs, hn, by omega, p2.2⟩, fun lev hl => ?_, fun a lev ha hl => ?_⟩
      · intro S d x I J l1 Q h h8 h6 _ k
        refine v43_29_37 ⟨fun q => absurd (h.2.2.1 ▸ q) z.1, fun _ => ⟨fun q => absurd (h.2.2.1 ▸ q) z.2, fun _ => readS h.2.1.s29 (fun I1 o1 t1 => takeS t1 (by rw [o1.2 8 (by omega), mSet_ne (by decide)]; exact h8) (fun q => absurd y q) (fun _ q => ?_) (fun _ _ _ I2 o2 e7 e8 t2 => ⟨fun q => absurd q (by decide), fun _ => k rfl _ ((cF1.s.tr ⟨fun r h3 _ => o1.1 r h3, fun k _ => by rw [o1.1 29 (by decide)]⟩).tr ((cF1.o o2).tr cF1.s)) t2.s29 (by rw [mSet_ne (by decide)]; exact e8) ?_⟩))⟩⟩
        · rw [en] at q
          rcases q with q | q
          · exact absurd q (nI_nlt (a := num) (b := 0) (by omega) (by omega))
          · exact absurd q (nI_nlt (a := 999) (b := num) (by omega) (by omega))
        · show I2 29 6 ||| I2 28 7 = _
          rw [e7, en, o2 29 (by decide), o1.1 29 (by decide)]
          show (I 29 6 ||| (I 28 3 - 60) <<< ((10 : Int32) &&& 31)) ||| nI num = _
          have e : I 28 3 - 60 = nI sg := by
            rw [h.2.2.1, es]
            show nI (60 + sg) - nI 60 = _
            rw [pk_sub (by omega)]
            congr 1
            omega
          rw [h6, e, cw_n (by omega) (by omega) (by omega)]
      · intro S d x I J o C P Q h hP hC _ k
        have go : wp S (d + 3) 180 57 [some (.ref 43), some (.int (nI a)), some (.int (nI lev)), none, none] [] (wv x I J) (rI x Q) := by
          refine v180_43_57 (nextS h.1.2.1 (fun I1 J1 f1 t1 => ?_))
          have r1 := h.nx f1 t1
          have e3 : I 43 12 - 60 = nI sg := by
            rw [h.1.2.2.2.2.2.2 (by rw [es]; exact t60.1), es]
            show nI (60 + sg) - nI 60 = _
            rw [pk_sub (by omega)]
            congr 1
            omega
          have e12 : I1 43 12 = nI num := by rw [t1.2.2.2.2.2.1 y, en]
          have fin : ∀ (s1 s2 : Nat) (l4 : Int32), s1 ≤ 2 → s2 ≤ 7 → s1 + s2 * 8 = (if a < 6 then a * 8 else a - 5) → wp S (d + 3) 180 120 [some (.ref 43), some (.int (nI a)), some (.int (nI lev)), some (.int (I 43 12 - 60)), some (.int l4)] [.int (nI s2), .int (nI s1), .ref 43] (wv x I1 J1) (rI x Q) := by
            intro s1 s2 l4 h1 h2 h3
            refine v180_43_120 ?_
            rw [e3, e12, rWd_n h1 h2 (by omega) (by omega) (by omega)]
            have ew : s1 + s2 * 8 + lev * 64 + sg * 256 + num * 1024 = rWd a lev sg num := by unfold rWd; rw [← h3]
            rw [ew]
            refine writeR (by omega) r1 (fun I2 f2 r2 => nextS r2.1.2.1 (fun I3 J3 f3 t3 => downR (l := 3) (by omega) P _ I3 (r2.nx f3 t3) hP (by show C.length + 1 + P.length < 64; omega) (fun I4 f4 r4 => k rfl I4 J3 ((pFr.nx f1).tr (f2.tr ((pFr.nx f3).tr f4))) r4)))
          refine ⟨fun _ => ⟨fun q6 => ⟨fun q => ?_, fun _ => fin 1 0 _ (by omega) (by omega) ?_⟩, fun q6 => ⟨fun q7 => ⟨fun q => ?_, fun _ => fin 2 0 _ (by omega) (by omega) ?_⟩, fun q7 => ⟨fun q => fin 0 a _ (by omega) (by omega) ?_, fun q => ?_⟩⟩⟩, fun q => absurd (by rw [t1.2.2.1, y]; rfl) q⟩
          · rw [q6] at q; exact absurd q (by decide)
          · have : a = 6 := by
              have := congrArg Int32.toInt q6
              rw [nI_toInt (by omega)] at this
              have v6 : (6 : Int32).toInt = 6 := by decide
              omega
            subst this; rfl
          · rw [q7] at q; exact absurd q (by decide)
          · have : a = 7 := by
              have := congrArg Int32.toInt q7
              rw [nI_toInt (by omega)] at this
              have v7 : (7 : Int32).toInt = 7 := by decide
              omega
            subst this; rfl
          · have : a < 6 := by
              rcases Nat.lt_or_ge a 6 with w | w
              · exact w
              · exact absurd q (nI_nlt (b := 6) w (by omega))
            rw [if_pos this]
            omega
          · have : a < 6 := by
              rcases (show a < 6 ∨ a = 6 ∨ a = 7 by omega) with w | w | w
              · exact w
              · subst w; exact absurd rfl q6
              · subst w; exact absurd rfl q7
            exact absurd (nI_lt (b := 6) this (by omega)) q
        refine v180_43_24 (signR (by decide) h.1 (fun q => ⟨fun q => absurd q (by decide), fun _ => go⟩) (fun q1 => ⟨fun _ => signR (by decide) h.1 (fun q => ⟨fun q => absurd q (by decide), fun _ => go⟩) (fun q2 => ⟨fun _ => signR (by decide) h.1 (fun q => ⟨fun q => absurd q (by decide), fun _ => go⟩) (fun q3 => ?_), fun q => absurd rfl q⟩), fun q => absurd rfl q⟩))
        rw [es] at q1 q2 q3
        rcases eq60 hs with w | w | w
        · exact absurd w q1
        · exact absurd w q2
        · exact absurd w q3
    · refine ⟨1, uE b n lim p, 0, 0, fun q => absurd q (by decide), fun lev hl => ?_, fun a lev ha hl => ?_⟩
      · intro S d x I J l1 Q h h8 h6 k _
        refine v43_29_37 ⟨fun q => absurd (h.2.2.1 ▸ q) z.1, fun _ => ⟨fun q => absurd (h.2.2.1 ▸ q) z.2, fun _ => readS h.2.1.s29 (fun I1 o1 t1 => takeS t1 (by rw [o1.2 8 (by omega), mSet_ne (by decide)]; exact h8) (fun _ => ⟨fun _ => k (by decide) _ ((cF1.s.tr ⟨fun r h3 _ => o1.1 r h3, fun k _ => by rw [o1.1 29 (by decide)]⟩).tr cF1.f) rfl t1.2.2.2.1, fun q => absurd rfl q⟩) (fun q => absurd q y) (fun q => absurd q y))⟩⟩
      · intro S d x I J o C P Q h hP hC k _
        have go : wp S (d + 3) 180 57 [some (.ref 43), some (.int (nI a)), some (.int (nI lev)), none, none] [] (wv x I J) (rI x Q) := by
          refine v180_43_57 (nextS h.1.2.1 (fun I1 J1 f1 t1 => ⟨fun q => absurd (tokOf_3.mp (t1.2.2.1.symm.trans q)) y, fun _ => badR ⟨Or.inl rfl, k (by decide) _ _ (pFr.nx f1) t1.2.2.2.1⟩⟩))
        refine v180_43_24 (signR (by decide) h.1 (fun q => ⟨fun q => absurd q (by decide), fun _ => go⟩) (fun q1 => ⟨fun _ => signR (by decide) h.1 (fun q => ⟨fun q => absurd q (by decide), fun _ => go⟩) (fun q2 => ⟨fun _ => signR (by decide) h.1 (fun q => ⟨fun q => absurd q (by decide), fun _ => go⟩) (fun q3 => ?_), fun q => absurd rfl q⟩), fun q => absurd rfl q⟩))
        rw [es] at q1 q2 q3
        rcases eq60 hs with w | w | w
        · exact absurd w q1
        · exact absurd w q2
        · exact absurd w q3
  · refine ⟨1, p, 0, 0, fun q => absurd q (by decide), fun lev hl => ?_, fun a lev ha hl => ?_⟩
    · intro S d x I J l1 Q h h8 h6 k _
      have f : wcI S (d + 1) 75 [.ref 28, .int (1 : Int32)] x I J (fun r1 I1 J1 => (r1 = 0 ∨ r1 = 1) ∧ Q r1 I1 J1) := failS ⟨Or.inl rfl, k (by decide) _ cF1.f rfl h.2.2.2.1⟩
      exact v43_29_37 ⟨fun _ => f, fun q1 => ⟨fun _ => f, fun q2 => absurd ⟨h.2.2.1 ▸ q1, h.2.2.1 ▸ q2⟩ z⟩⟩
    · intro S d x I J o C P Q h hP hC k _
      have no : ∀ c : Int32, (¬ c < 60 ∧ ¬ 62 < c) → ¬ uK b n lim p = c := fun c hc q => z (by rw [q]; exact hc)
      exact v180_43_24 (signR (by decide) h.1 (fun q => absurd q (no _ (by decide))) (fun q1 => ⟨fun _ => signR (by decide) h.1 (fun q => absurd q (no _ (by decide))) (fun q2 => ⟨fun _ => signR (by decide) h.1 (fun q => absurd q (no _ (by decide))) (fun q3 => ⟨fun _ => badR ⟨Or.inl rfl, k (by decide) _ _ pFr.rf h.1.2.2.2.1⟩, fun q => absurd rfl q⟩), fun q => absurd rfl q⟩), fun q => absurd rfl q⟩))
/-- with the LEVEL, where there is one -/
def CmA (b : Nat → Int32) (n lim : Nat) (a p : Nat) (f : Int32) (p' lev sg num : Nat) : Prop := ∀ (S : Nat × (Nat → Int32)) (d : Nat) (x : mX) (I : rI0) (J : rJ0) (Q : Int32 → rI0 → rJ0 → Prop), Tck b n lim p I → I 28 8 = 0 → (¬ f = 0 → ∀ I', cF1 I I' → I' 28 8 = f → I' 28 4 = nI (uA b n lim p') → Q 0 I' J) → (f = 0 → ∀ I', cF1 I I' → Tck b n lim p' I' → I' 28 8 = 0 → I' 29 6 = nI (lev * 4096 + sg * 1024 + num) → Q 1 I' J) → wcI S (d + 2) 43 [.ref 29, .int (if a < 6 then 1 else 0)] x I J Q
def AsA (b : Nat → Int32) (n lim : Nat) (a p : Nat) (f : Int32) (p' lev sg num : Nat) : Prop := ∀ (S : Nat × (Nat → Int32)) (d : Nat) (x : mX) (I : rI0) (J : rJ0) (o : Nat) (C P : List Int32) (Q : Int32 → rI0 → rJ0 → Prop), RS b n lim p o C P I J → P.length ≤ 30 → C.length + P.length < 63 → (¬ f = 0 → ∀ I' J', pFr I J I' J' → I' 43 10 = nI (uA b n lim p') → Q 0 (bdI I' f) J') → (f = 0 → ∀ I' J', pFr I J I' J' → RS b n lim p' o (wdC 3 P ++ (nI (rWd a lev sg num) :: C)) (wdP 3 P) I' J' → Q 1 I' J') → wcI S (d + 3) 180 [.ref 43, .int (nI a)] x I J Q
theorem atomE {a : Nat} (ha : a < 8) (hp : p ≤ n) : ∃ f p' lev sg num, (f = 0 → lev ≤ 2 ∧ sg ≤ 2 ∧ num ≤ 999 ∧ p ≤ p' ∧ p' ≤ n) ∧ CmA b n lim a p f p' lev sg num ∧ AsA b n lim a p f p' lev sg num := by
  by_cases a6 : a < 6
  · have l6 : nI a < 6 := nI_lt (b := 6) a6 (by omega)
    by_cases z : uK b n lim p = 3
    · obtain ⟨v, hv, ev⟩ := uV_b z
      have p1 := uE_le (b := b) (lim := lim) hp
      by_cases y : v = 1 ∨ v = 2
      · have y1 : ¬ uV b n p < 1 := by rw [ev]; exact nI_nlt (a := v) (b := 1) (by omega) (by omega)
        have y2 : ¬ 2 < uV b n p := by rw [ev]; exact nI_nlt (a := 2) (b := v) (by omega) (by omega)
        obtain ⟨f, p', sg, num, g0, g1, g2⟩ := cmp2 (b := b) (lim := lim) p1.2
        refine ⟨f, p', v, sg, num, fun q => ?_, ?_, ?_⟩
        · have := g0 q; omega
        · intro S d x I J Q h h8 kf ks
          rw [if_pos a6]
          refine c43_29 ⟨fun q => absurd q (by decide), fun _ => takeS h.s29 (by rw [mSet_ne (by decide)]; exact h8) (fun q => absurd z q) (fun _ q => ?_) (fun _ _ _ I1 o1 e7 e8 t1 => ⟨fun q => absurd q (by decide), fun _ => ?_⟩)⟩
          · rcases q with q | q
            · exact absurd q y1
            · exact absurd q y2
          · have fr : cF1 I (mSet I1 29 6 (I1 28 7 <<< ((12 : Int32) &&& 31))) := (cF1.s.tr (cF1.o o1)).tr cF1.s
            refine g1 v (by omega) S d x _ J _ Q t1.s29 (by rw [mSet_ne (by decide)]; exact e8) (by show I1 28 7 <<< _ = _; rw [e7, ev]) (fun hf I' c1 c2 c3 => kf hf I' (fr.tr c1) c2 c3) (fun hf I' c1 c2 c3 c4 => ks hf I' (fr.tr c1) c2 c3 c4)
        · intro S d x I J o C P Q h hP hC kf ks
          refine c180_43 ⟨fun _ => takesR h.1 (fun q => absurd z q) (fun _ q => ?_) (fun _ _ _ I1 J1 f1 t1 => ⟨fun q => absurd q (by decide), fun _ => ?_⟩), fun q => absurd l6 q⟩
          · rcases q with q | q
            · exact absurd q y1
            · exact absurd q y2
          · have e18 : I1 43 18 = nI v := by
              rw [f1.2.1 18 (by omega)]
              exact ev
            rw [e18]
            have r0 : RS b n lim p o C P (mSet I 43 18 (uV b n p)) J := ⟨h.1.cg (mSet_ne (by decide)) (fun k hk => mSet_x (by omega)), by rw [mSet_x (by omega)]; exact h.2.1, by rw [mSet_x (by omega)]; exact h.2.2.1, by rw [mSet_ne (by decide)]; exact h.2.2.2.1, by rw [mSet_x (by omega)]; exact h.2.2.2.2.1, by rw [mSet_ne (by decide)]; exact h.2.2.2.2.2⟩
            have fr : pFr I J I1 J1 := (pFr.s (by omega)).tr (pFr.nx f1)
            exact g2 a v ha (by omega) S d x I1 J1 o C P Q (r0.nx f1 t1) hP hC (fun hf I' J' c1 c2 => kf hf I' J' (fr.tr c1) c2) (fun hf I' J' c1 c2 => ks hf I' J' (fr.tr c1) c2)
      · have yo : uV b n p < 1 ∨ 2 < uV b n p := by
          rw [ev]
          rcases (show v = 0 ∨ 2 < v by omega) with w | w
          · exact Or.inl (nI_lt (a := v) (b := 1) (by omega) (by omega))
          · exact Or.inr (nI_lt (a := 2) (b := v) (by omega) (by omega))
        refine ⟨2, p, 0, 0, 0, fun q => absurd q (by decide), ?_, ?_⟩
        · intro S d x I J Q h h8 kf ks
          rw [if_pos a6]
          refine c43_29 ⟨fun q => absurd q (by decide), fun _ => takeS h.s29 (by rw [mSet_ne (by decide)]; exact h8) (fun q => absurd z q) (fun _ _ => ⟨fun _ => kf (by decide) _ (cF1.s.tr cF1.f) rfl ?_, fun q => absurd rfl q⟩) (fun _ q1 q2 => ?_)⟩
          · exact h.2.2.2.1
          · rcases yo with w | w
            · exact absurd w q1
            · exact absurd w q2
        · intro S d x I J o C P Q h hP hC kf ks
          refine c180_43 ⟨fun _ => takesR h.1 (fun q => absurd z q) (fun _ _ => ⟨fun _ => kf (by decide) _ _ pFr.rf h.1.2.2.2.1, fun q => absurd rfl q⟩) (fun _ q1 q2 => ?_), fun q => absurd l6 q⟩
          rcases yo with w | w
          · exact absurd w q1
          · exact absurd w q2
    · refine ⟨1, p, 0, 0, 0, fun q => absurd q (by decide), ?_, ?_⟩
      · intro S d x I J Q h h8 kf ks
        rw [if_pos a6]
        exact c43_29 ⟨fun q => absurd q (by decide), fun _ => takeS h.s29 (by rw [mSet_ne (by decide)]; exact h8) (fun _ => ⟨fun _ => kf (by decide) _ (cF1.s.tr cF1.f) rfl h.2.2.2.1, fun q => absurd rfl q⟩) (fun q => absurd q z) (fun q => absurd q z)⟩
      · intro S d x I J o C P Q h hP hC kf ks
        exact c180_43 ⟨fun _ => takesR h.1 (fun _ => ⟨fun _ => kf (by decide) _ _ pFr.rf h.1.2.2.2.1, fun q => absurd rfl q⟩) (fun q => absurd q z) (fun q => absurd q z), fun q => absurd l6 q⟩
  · have l6 : ¬ nI a < 6 := nI_nlt (a := a) (b := 6) (by omega) (by omega)
    obtain ⟨f, p', sg, num, g0, g1, g2⟩ := cmp2 (b := b) (lim := lim) hp
    refine ⟨f, p', 0, sg, num, fun q => ?_, ?_, ?_⟩
    · have := g0 q; omega
    · intro S d x I J Q h h8 kf ks
      rw [if_neg a6]
      refine c43_29 ⟨fun _ => ?_, fun q => absurd rfl q⟩
      exact g1 0 (by omega) S d x _ J _ Q h.s29 (by rw [mSet_ne (by decide)]; exact h8) (by show (0 : Int32) = _; decide) (fun hf I' c1 c2 c3 => kf hf I' (cF1.s.tr c1) c2 c3) (fun hf I' c1 c2 c3 c4 => ks hf I' (cF1.s.tr c1) c2 c3 c4)
    · intro S d x I J o C P Q h hP hC kf ks
      exact c180_43 ⟨fun q => absurd q l6, fun _ => g2 a 0 ha (by omega) S d x I J o C P Q h hP hC kf ks⟩
end AT0
