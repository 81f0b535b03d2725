section
/-! the reference's moment -/
section RQ0
variable {S : Nat × (Nat → Int32)} {d : Nat} {x : mX} {I : rI0} {J : rJ0} {g : Nat → Int32} {W : Nat → lV} {N hd X Y : Nat → Nat} {P H L : Nat → Bool} {py st : Bool}
theorem lwO' {v : Nat} {p2 p3 : Int64} {Q : Int32 → rI0 → rJ0 → Prop} (eg : I 45 = g) (hI : GI g) (hW : HW g) (hL : LR g W) (hA : AR g J) (hG : GA g) (hv : seB g v = true) (oN : okN g N) (oH : okH g hd) (b3 : ∀ u, u < 64 → bits5 p2 u = decide (1 ≤ N u)) (b4 : ∀ u, u < 64 → bits5 p3 u = decide (2 ≤ N u)) (k : ∀ I', (∀ b, b ≠ 50 → I' b = I b) → Q (nI (lwN g W N hd v)) I' J) : wcI S (d + 2) 198 [.ref 43, .int (nI v), .long p2, .long p3, .int (nI (N v)), .int (nI (hd v))] x I J Q := by
  subst eg
  exact lwO hI hW hL hA hG hv oN oH b3 b4 k
theorem k0c : ((0 : Int32).toNatClampNeg) = 0 ∧ ((1 : Int32).toNatClampNeg) = 1 ∧ ((4 : Int32).toNatClampNeg) = 4 ∧ ((5 : Int32).toNatClampNeg) = 5 ∧ ((590 : Int32).toNatClampNeg) = 590 ∧ ((3 : Int32).toNatClampNeg) = 3 := by decide
/-- the CUES of a moment -/
theorem rcl {t : Nat} (hG : GA g) (hI : GI g) (ht : t ≤ 600) {Q : rI0 → rJ0 → Prop} : ∀ (m i : Nat) (I : rI0) (J : rJ0), i + m = cuN g t → prN g t ≤ i → I 45 = g → I 43 43 = nI i → (∀ s, s < 64 → bits5 (J 43 36) s = cuP g 0 P i s) → (∀ s, s < 64 → bits5 (J 43 37) s = cuP g 1 H i s) → (∀ I' J', (∀ b, b ≠ 43 → I' b = I b) → (∀ q, q ≠ 43 → I' 43 q = I 43 q) → (∀ b, b ≠ 43 → J' b = J b) → (∀ q, q ≠ 36 → q ≠ 37 → J' 43 q = J 43 q) → I' 43 43 = nI (cuN g t) → (∀ s, s < 64 → bits5 (J' 43 36) s = cuP g 0 P (cuN g t) s) → (∀ s, s < 64 → bits5 (J' 43 37) s = cuP g 1 H (cuN g t) s) → wp S (d + 3) 200 176 [some (.ref 43), some (.int (nI t)), some (.int (nI (if cuS g t = true then 1 else 0))), none, none, none, none, none, none, none, none, none, none, none, none, none, none, none, none, none, none, none, none] [] (wv x I' J') (rV x Q)) → wp S (d + 3) 200 7 [some (.ref 43), some (.int (nI t)), some (.int (nI (if stB g (prN g t) i = true then 1 else 0))), none, none, none, none, none, none, none, none, none, none, none, none, none, none, none, none, none, none, none, none] [] (wv x I J) (rV x Q) := by
  obtain ⟨-, -, -, -, z590, -⟩ := k0c
  have hl := cuN_l (g := g) (t := t)
  have h30 := hG.2.2.2.2.2.1
  have h590 := hI.2.2.2.1
  have a1 : ∀ i, (591 : Int32) + ((3 : Int32) * nI i) = nI (591 + 3 * i) := by
    intro i
    show nI 591 + (nI 3 * nI i) = _
    rw [nI_mu, nI_add]
  have a2 : ∀ i, nI (591 + 3 * i) + (1 : Int32) = nI (592 + 3 * i) := by
    intro i
    rw [← nI_succ]
    exact congrArg nI (by omega)
  have a3 : ∀ i, nI (591 + 3 * i) + (2 : Int32) = nI (593 + 3 * i) := by
    intro i
    show _ + nI 2 = _
    rw [nI_add]
    exact congrArg nI (by omega)
  intro m
  induction m with
  | zero =>
    intro i I J hi hp eg h3 h5 h6 K
    have hi : i = cuN g t := by omega
    have fin : wp S (d + 3) 200 176 [some (.ref 43), some (.int (nI t)), some (.int (nI (if stB g (prN g t) i = true then 1 else 0))), none, none, none, none, none, none, none, none, none, none, none, none, none, none, none, none, none, none, none, none] [] (wv x I J) (rV x Q) := by
      rw [hi, stB_c hG]
      subst hi
      exact K I J (fun _ _ => rfl) (fun _ _ => rfl) (fun _ _ => rfl) (fun _ _ _ => rfl) h3 h5 h6
    refine v200_43_7 ⟨by decide, fun q => ?_, fun _ => fin⟩
    rw [z590, h3, eg, h590] at q
    have q : i < gN g 590 := (nI_ltI (by omega) (by omega)).mp q
    rw [h3, a1, nI_clamp (by omega), eg, (hI.2.2.2.2 i q).1]
    refine ⟨nI_in (by omega) (by omega), fun y => ?_, fun _ => fin⟩
    exfalso
    have b := (hG.2.2.2.2.2.2.1 i q).1
    have y := nI_ij (by omega) (by omega) y
    have := (cuN_i hG (t := t) q).mp (by omega)
    omega
  | succ m ih =>
    intro i I J hi hp eg h3 h5 h6 K
    have q : i < gN g 590 := by omega
    obtain ⟨c1, c2, c3⟩ := hI.2.2.2.2 i q
    obtain ⟨g1, g2, g3⟩ := hG.2.2.2.2.2.2.1 i q
    have hm : gN g (591 + 3 * i) = t := by
      have z1 := (cuN_i hG (t := t) q).mpr (by omega)
      have z2 := mt (prN_i hG (t := t) q).mp (by omega)
      omega
    have fin : ∀ (l2 : Int32) (bt : Int64), (∀ s, s < 64 → bits5 bt s = (decide (gN g (592 + 3 * i) ≠ 3) && decide (s = gN g (593 + 3 * i)))) → wp S (d + 3) 200 103 [some (.ref 43), some (.int (nI t)), some (.int l2), some (.int (nI (gN g (592 + 3 * i)))), some (.long bt), none, none, none, none, none, none, none, none, none, none, none, none, none, none, none, none, none, none] [.int (nI (if stB g (prN g t) (i + 1) = true then 1 else 0))] (wv x I J) (rV x Q) := by
      intro l2 bt hb
      have last : ∀ s1 s2 : Int64, (∀ s, s < 64 → bits5 s1 s = cuP g 0 P (i + 1) s) → (∀ s, s < 64 → bits5 s2 s = cuP g 1 H (i + 1) s) → wp S (d + 3) 200 7 [some (.ref 43), some (.int (nI t)), some (.int (nI (if stB g (prN g t) (i + 1) = true then 1 else 0))), none, none, none, none, none, none, none, none, none, none, none, none, none, none, none, none, none, none, none, none] [] (wv x (mSet I 43 43 (nI (i + 1))) (mSet (mSet J 43 36 s1) 43 37 s2)) (rV x Q) := by
        intro s1 s2 e1 e2
        refine ih (i + 1) _ _ (by omega) (by omega) ((mSet_ne (by decide)).trans eg) rfl e1 e2 (fun I' J' f1 f2 f3 f4 r1 r2 r3 => K I' J' (fun b hb => (f1 b hb).trans (mSet_ne hb)) (fun q hq => ?_) (fun b hb => (f3 b hb).trans (by rw [mSet_ne hb, mSet_ne hb])) (fun q h1 h2 => ?_) r1 r2 r3)
        · rw [f2 q hq]
          show mSet I 43 43 _ 43 q = _
          unfold mSet va_up
          rw [if_pos rfl, if_neg hq]
        · rw [f4 q h1 h2]
          show mSet (mSet J 43 36 _) 43 37 _ 43 q = _
          unfold mSet va_up
          rw [if_pos rfl, if_neg h2, if_pos rfl, if_neg h1]
      have pb : ∀ (Z : Nat → Bool) (qq : Nat) (p : Int64), (∀ s, s < 64 → bits5 p s = cuP g qq Z i s) → (gN g (592 + 3 * i) = qq → qq ≠ 3 → ∀ s, s < 64 → bits5 (p ||| bt) s = cuP g qq Z (i + 1) s) ∧ (gN g (592 + 3 * i) ≠ qq → ∀ s, s < 64 → bits5 (p &&& (bt ^^^ (-1 : Int64))) s = cuP g qq Z (i + 1) s) := by
        intro Z qq p hp
        refine ⟨fun e e3 s hs => ?_, fun e s hs => ?_⟩
        · rw [b5_or, hp s hs, hb s hs, cuP_s, e, if_neg e3, decide_eq_true (show qq ≠ 3 from e3)]
          by_cases z : s = gN g (593 + 3 * i)
          · rw [if_pos z, decide_eq_true z, decide_eq_true rfl]
            simp
          · rw [if_neg z, decide_eq_false z]
            simp
        · rw [b5_and, b5_not hs, hp s hs, hb s hs, cuP_s]
          by_cases y : gN g (592 + 3 * i) = 3
          · rw [if_pos y, decide_eq_false (show ¬ (gN g (592 + 3 * i) ≠ 3) from fun w => w y)]
            simp
          · rw [if_neg y, decide_eq_true (show gN g (592 + 3 * i) ≠ 3 from y)]
            by_cases z : s = gN g (593 + 3 * i)
            · rw [if_pos z, decide_eq_true z, decide_eq_false e]
              simp
            · rw [if_neg z, decide_eq_false z]
              simp
      have P0 := pb P 0 (J 43 36) h5
      have H1 := pb H 1 (J 43 37) h6
      have mid : ∀ s1 : Int64, (∀ s, s < 64 → bits5 s1 s = cuP g 0 P (i + 1) s) → wp S (d + 3) 200 130 [some (.ref 43), some (.int (nI t)), some (.int (nI (if stB g (prN g t) (i + 1) = true then 1 else 0))), some (.int (nI (gN g (592 + 3 * i)))), some (.long bt), none, none, none, none, none, none, none, none, none, none, none, none, none, none, none, none, none, none] [.long s1, .ref 43] (wv x I J) (rV x Q) := by
        intro s1 e1
        refine v200_43_130 ?_
        rw [h3, ← nI_succ]
        refine ⟨fun z => ?_, fun z => ?_⟩
        · exact last s1 _ e1 (H1.1 (nI_ij (b := 1) (by omega) (by omega) z) (by decide))
        · exact last s1 _ e1 (H1.2 (fun y => z (by rw [y]; rfl)))
      refine v200_43_103 ⟨fun z => mid _ (P0.1 (nI_ij (b := 0) (by omega) (by omega) z) (by decide)), fun z => mid _ (P0.2 (fun y => z (by rw [y]; rfl)))⟩
    refine v200_43_7 ⟨by decide, fun _ => ?_, fun y => absurd (by rw [z590, h3, eg, h590]; exact nI_lt q (by omega)) y⟩
    rw [h3, a1, nI_clamp (by omega), a2, nI_clamp (by omega), a3, nI_clamp (by omega), eg, c1, c2]
    refine ⟨nI_in (by omega) (by omega), fun _ => ⟨nI_in (by omega) (by omega), fun y => ?_, fun y => ⟨nI_in (by omega) (by omega), ?_⟩⟩, fun y => absurd (by rw [hm]) y⟩
    · have y3 : gN g (592 + 3 * i) = 3 := nI_ij (b := 3) (by omega) (by omega) y
      have e1 : (1 : Int32) = nI (if stB g (prN g t) (i + 1) = true then 1 else 0) := by
        rw [stB_s hp, decide_eq_true y3, Bool.or_true]
        rfl
      have b0 : ∀ s, s < 64 → bits5 0 s = (decide (gN g (592 + 3 * i) ≠ 3) && decide (s = gN g (593 + 3 * i))) := by
        intro s hs
        rw [b5_0, decide_eq_false (show ¬ (gN g (592 + 3 * i) ≠ 3) from fun w => w y3)]
        rfl
      have f0 := fun l2 => fin l2 0 b0
      rw [← e1] at f0
      exact ⟨fun _ => ⟨fun _ => f0 _, fun w => absurd y w⟩, fun _ => f0 _⟩
    · have y3 : gN g (592 + 3 * i) ≠ 3 := fun w => y (by rw [w]; rfl)
      have hs4 := seB_l (g3 y3)
      rw [c3 y3]
      have b0 : ∀ s, s < 64 → bits5 ((1 : Int64) <<< ((nI (gN g (593 + 3 * i))).toInt64 &&& 63)) s = (decide (gN g (592 + 3 * i) ≠ 3) && decide (s = gN g (593 + 3 * i))) := by
        intro s hs
        rw [b5_1 hs4, decide_eq_true (show gN g (592 + 3 * i) ≠ 3 from y3), Bool.true_and]
      have e1 : stB g (prN g t) (i + 1) = stB g (prN g t) i := by
        rw [stB_s hp, decide_eq_false y3, Bool.or_false]
      have f0 := fun l2 => fin l2 _ b0
      rw [e1] at f0
      cases w : stB g (prN g t) i with
      | false =>
        rw [w] at f0
        exact ⟨fun _ => ⟨fun w3 => absurd w3 y, fun _ => f0 _⟩, fun w2 => absurd rfl w2⟩
      | true =>
        rw [w] at f0
        exact ⟨fun w2 => absurd w2 (by decide), fun _ => f0 _⟩
/-- the sets up to v -/
def B4 (X Y : Nat → Nat) (v : Nat) (l7 l9 l11 l13 : Int64) : Prop := ∀ u, u < 64 → bits5 l7 u = (decide (u < v) && decide (1 ≤ X u)) ∧ bits5 l9 u = (decide (u < v) && decide (2 ≤ X u)) ∧ bits5 l11 u = (decide (u < v) && decide (Y u % 2 = 1)) ∧ bits5 l13 u = (decide (u < v) && decide (2 ≤ Y u))
theorem put1 {l s : Int64} {A : Nat → Bool} {v : Nat} (h : ∀ u, u < 64 → bits5 l u = (decide (u < v) && A u)) (hs : ∀ u, u < 64 → bits5 s u = (decide (u = v) && A v)) : ∀ u, u < 64 → bits5 (l ||| s) u = (decide (u < v + 1) && A u) := by
  intro u hu
  rw [b5_or, h u hu, hs u hu]
  by_cases z : u = v
  · subst z
    rw [decide_eq_false (show ¬ u < u by omega), decide_eq_true (show u = u from rfl), decide_eq_true (show u < u + 1 by omega)]
    simp
  · rw [decide_eq_false z, Bool.false_and, Bool.or_false]
    congr 1
    exact decide_eq_decide.mpr (by omega)
theorem skip1 {l : Int64} {A : Nat → Bool} {v : Nat} (h : ∀ u, u < 64 → bits5 l u = (decide (u < v) && A u)) (hA : A v = false) : ∀ u, u < 64 → bits5 l u = (decide (u < v + 1) && A u) := by
  intro u hu
  rw [h u hu]
  by_cases z : u = v
  · subst z
    rw [hA, Bool.and_false, Bool.and_false]
  · congr 1
    exact decide_eq_decide.mpr (by omega)
theorem bit1 {v : Nat} (hv : v < 64) {b : Bool} (h : b = true) : ∀ u, u < 64 → bits5 ((1 : Int64) <<< ((nI v).toInt64 &&& 63)) u = (decide (u = v) && b) := by
  intro u _
  rw [b5_1 hv, h, Bool.and_true]
theorem bit0 {v : Nat} {b : Bool} (h : b = false) : ∀ u, u < 64 → bits5 0 u = (decide (u = v) && b) := by
  intro u _
  rw [b5_0, h, Bool.and_false]
theorem B4.skip {v : Nat} {l7 l9 l11 l13 : Int64} (h : B4 X Y v l7 l9 l11 l13) (hx : X v = 0) (hy : Y v = 0) : B4 X Y (v + 1) l7 l9 l11 l13 := fun u hu => ⟨skip1 (A := fun u => decide (1 ≤ X u)) (fun u hu => (h u hu).1) (by rw [hx]; rfl) u hu, skip1 (A := fun u => decide (2 ≤ X u)) (fun u hu => (h u hu).2.1) (by rw [hx]; rfl) u hu, skip1 (A := fun u => decide (Y u % 2 = 1)) (fun u hu => (h u hu).2.2.1) (by rw [hy]; rfl) u hu, skip1 (A := fun u => decide (2 ≤ Y u)) (fun u hu => (h u hu).2.2.2) (by rw [hy]; rfl) u hu⟩
theorem c442 {r v t : Nat} {l3 l5 : Int64} {l16 stl : Int32} {Q : rI0 → rJ0 → Prop} {I1 : rI0} {bt l7 l9 l11 l13 s1 : Int64} (hv : v < 64) (hbt : bt = (1 : Int64) <<< ((nI v).toInt64 &&& 63)) (hx : X v ≤ 2) (hy : Y v ≤ 3) (h : B4 X Y v l7 l9 l11 l13) (hs1 : ∀ u, u < 64 → bits5 s1 u = (decide (u = v) && decide (1 ≤ X v))) (K : ∀ l7 l9 l11 l13, B4 X Y (v + 1) l7 l9 l11 l13 → wp S (d + 3) 200 260 [some (.ref 43), some (.int (nI t)), some (.int stl), some (.long l3), none, some (.long l5), none, some (.long l7), none, some (.long l9), none, some (.long l11), none, some (.long l13), none, some (.int (nI r)), some (.int l16), some (.int (nI v + 1)), none, none, none, none, none] [] (wv x I1 J) (rV x Q)) : wp S (d + 3) 200 442 [some (.ref 43), some (.int (nI t)), some (.int stl), some (.long l3), none, some (.long l5), none, some (.long l7), none, some (.long l9), none, some (.long l11), none, some (.long l13), none, some (.int (nI r)), some (.int l16), some (.int (nI v)), some (.long bt), none, some (.int (nI (N v))), some (.int (nI (X v))), some (.int (nI (Y v)))] [.long s1, .long l7] (wv x I1 J) (rV x Q) := by
  have h7 := put1 (A := fun u => decide (1 ≤ X u)) (fun u hu => (h u hu).1) hs1
  have odd : ∀ y, y ≤ 3 → (nI y &&& (1 : Int32) = (1 : Int32) ↔ decide (y % 2 = 1) = true) := by decide
  have fin : ∀ (a9 s11 : Int64), (∀ u, u < 64 → bits5 a9 u = (decide (u < v + 1) && decide (2 ≤ X u))) → (∀ u, u < 64 → bits5 s11 u = (decide (u = v) && decide (Y v % 2 = 1))) → wp S (d + 3) 200 478 [some (.ref 43), some (.int (nI t)), some (.int stl), some (.long l3), none, some (.long l5), none, some (.long (l7 ||| s1)), none, some (.long a9), none, some (.long l11), none, some (.long l13), none, some (.int (nI r)), some (.int l16), some (.int (nI v)), some (.long bt), none, some (.int (nI (N v))), some (.int (nI (X v))), some (.int (nI (Y v)))] [.long s11, .long l11] (wv x I1 J) (rV x Q) := by
    intro a9 s11 h9 h11
    have h11 := put1 (A := fun u => decide (Y u % 2 = 1)) (fun u hu => (h u hu).2.2.1) h11
    refine v200_43_478 ⟨fun q => K _ _ _ _ (fun u hu => ⟨h7 u hu, h9 u hu, h11 u hu, ?_⟩), fun q => K _ _ _ _ (fun u hu => ⟨h7 u hu, h9 u hu, h11 u hu, ?_⟩)⟩
    · have q : 1 < Y v := (nI_ltI (a := 1) (by omega) (by omega)).mp q
      rw [hbt]
      exact put1 (A := fun u => decide (2 ≤ Y u)) (fun u hu => (h u hu).2.2.2) (bit1 hv (decide_eq_true (by omega))) u hu
    · have q : ¬ 1 < Y v := fun z => q (nI_lt (a := 1) z (by omega))
      exact put1 (A := fun u => decide (2 ≤ Y u)) (fun u hu => (h u hu).2.2.2) (bit0 (decide_eq_false (by omega))) u hu
  have two : ∀ a9 : Int64, (∀ u, u < 64 → bits5 a9 u = (decide (u < v + 1) && decide (2 ≤ X u))) → (((nI (Y v)) &&& (1 : Int32)) = (1 : Int32) → wp S (d + 3) 200 478 [some (.ref 43), some (.int (nI t)), some (.int stl), some (.long l3), none, some (.long l5), none, some (.long (l7 ||| s1)), none, some (.long a9), none, some (.long l11), none, some (.long l13), none, some (.int (nI r)), some (.int l16), some (.int (nI v)), some (.long bt), none, some (.int (nI (N v))), some (.int (nI (X v))), some (.int (nI (Y v)))] [.long bt, .long l11] (wv x I1 J) (rV x Q)) ∧ (¬ ((nI (Y v)) &&& (1 : Int32)) = (1 : Int32) → wp S (d + 3) 200 478 [some (.ref 43), some (.int (nI t)), some (.int stl), some (.long l3), none, some (.long l5), none, some (.long (l7 ||| s1)), none, some (.long a9), none, some (.long l11), none, some (.long l13), none, some (.int (nI r)), some (.int l16), some (.int (nI v)), some (.long bt), none, some (.int (nI (N v))), some (.int (nI (X v))), some (.int (nI (Y v)))] [.long (0 : Int64), .long l11] (wv x I1 J) (rV x Q)) := by
    intro a9 h9
    refine ⟨fun q => fin a9 bt h9 ?_, fun q => fin a9 0 h9 (bit0 (ts_nt (fun z => q ((odd _ hy).mpr z))))⟩
    rw [hbt]
    exact bit1 hv ((odd _ hy).mp q)
  refine v200_43_442 ⟨fun q => two _ ?_, fun q => two _ ?_⟩
  · have q : 1 < X v := (nI_ltI (a := 1) (by omega) (by omega)).mp q
    rw [hbt]
    exact put1 (A := fun u => decide (2 ≤ X u)) (fun u hu => (h u hu).2.1) (bit1 hv (decide_eq_true (by omega)))
  · have q : ¬ 1 < X v := fun z => q (nI_lt (a := 1) z (by omega))
    exact put1 (A := fun u => decide (2 ≤ X u)) (fun u hu => (h u hu).2.1) (bit0 (decide_eq_false (by omega)))
theorem c390 {r v t : Nat} {l3 l5 : Int64} {l16 stl : Int32} {Q : rI0 → rJ0 → Prop} {I1 : rI0} {bt l7 l9 l11 l13 : Int64} (hv : v < 64) (ht : t ≤ 600) (hbt : bt = (1 : Int64) <<< ((nI v).toInt64 &&& 63)) (hR : RP J N hd) (hn : N v ≤ 2) (hh : hd v ≤ 3) (hx : X v ≤ 2) (hy : Y v = if t = 0 then 0 else if X v = N v then (if hd v < 3 then hd v + 1 else 3) else 0) (h : B4 X Y v l7 l9 l11 l13) (K : ∀ l7 l9 l11 l13, B4 X Y (v + 1) l7 l9 l11 l13 → wp S (d + 3) 200 260 [some (.ref 43), some (.int (nI t)), some (.int stl), some (.long l3), none, some (.long l5), none, some (.long l7), none, some (.long l9), none, some (.long l11), none, some (.long l13), none, some (.int (nI r)), some (.int l16), some (.int (nI v + 1)), none, none, none, none, none] [] (wv x I1 J) (rV x Q)) : wp S (d + 3) 200 390 [some (.ref 43), some (.int (nI t)), some (.int stl), some (.long l3), none, some (.long l5), none, some (.long l7), none, some (.long l9), none, some (.long l11), none, some (.long l13), none, some (.int (nI r)), some (.int l16), some (.int (nI v)), some (.long bt), none, some (.int (nI (N v))), some (.int (nI (X v))), none] [] (wv x I1 J) (rV x Q) := by
  have y3 : Y v ≤ 3 := by
    rw [hy]
    split
    · omega
    · split
      · split <;> omega
      · omega
  have two : ∀ l22 : Int32, l22 = nI (Y v) → ((0 : Int32) < nI (X v) → wp S (d + 3) 200 442 [some (.ref 43), some (.int (nI t)), some (.int stl), some (.long l3), none, some (.long l5), none, some (.long l7), none, some (.long l9), none, some (.long l11), none, some (.long l13), none, some (.int (nI r)), some (.int l16), some (.int (nI v)), some (.long bt), none, some (.int (nI (N v))), some (.int (nI (X v))), some (.int (l22))] [.long bt, .long l7] (wv x I1 J) (rV x Q)) ∧ (¬ (0 : Int32) < nI (X v) → wp S (d + 3) 200 442 [some (.ref 43), some (.int (nI t)), some (.int stl), some (.long l3), none, some (.long l5), none, some (.long l7), none, some (.long l9), none, some (.long l11), none, some (.long l13), none, some (.int (nI r)), some (.int l16), some (.int (nI v)), some (.long bt), none, some (.int (nI (N v))), some (.int (nI (X v))), some (.int (l22))] [.long (0 : Int64), .long l7] (wv x I1 J) (rV x Q)) := by
    intro l22 e
    subst e
    refine ⟨fun q => c442 hv hbt hx y3 h ?_ K, fun q => c442 hv hbt hx y3 h (bit0 (decide_eq_false ?_)) K⟩
    · have q : 0 < X v := (nI_ltI (a := 0) (by omega) (by omega)).mp q
      rw [hbt]
      exact bit1 hv (decide_eq_true (by omega))
    · intro z
      exact q (nI_lt (a := 0) z (by omega))
  refine v200_43_390 ⟨fun q => two _ ?_, fun q => ⟨fun e => hdO hv hR hh ⟨fun q3 => hdO hv hR hh (two _ ?_), fun q3 => two _ ?_⟩, fun e => two _ ?_⟩⟩
  · have q : t = 0 := nI_ij (b := 0) (by omega) (by omega) q
    rw [hy, if_pos q]
    rfl
  · have q : t ≠ 0 := fun z => q (by rw [z]; rfl)
    have e : X v = N v := nI_ij (by omega) (by omega) e
    have q3 : hd v < 3 := (nI_ltI (b := 3) (by omega) (by omega)).mp q3
    rw [hy, if_neg q, if_pos e, if_pos q3, nI_succ]
  · have q : t ≠ 0 := fun z => q (by rw [z]; rfl)
    have e : X v = N v := nI_ij (by omega) (by omega) e
    have q3 : ¬ hd v < 3 := fun z => q3 (nI_lt (b := 3) z (by omega))
    rw [hy, if_neg q, if_pos e, if_neg q3]
    rfl
  · have q : t ≠ 0 := fun z => q (by rw [z]; rfl)
    have e : X v ≠ N v := fun z => e (by rw [z])
    rw [hy, if_neg q, if_neg e]
    rfl
theorem c260 {r v t : Nat} {l3 l5 : Int64} {l16 stl : Int32} {Q : rI0 → rJ0 → Prop} (hG : GA g) (hI : GI g) (hW : HW g) (hL : LR g W) (hA : AR g J) (ht : t ≤ 600) (hR : RP J N hd) (oN : okN g N) (oH : okH g hd) (hr : r < gN g 0) (e36 : ∀ s, s < 64 → bits5 (J 43 36) s = P s) (e37 : ∀ s, s < 64 → bits5 (J 43 37) s = H s) (hst : stl = nI (if st = true then 1 else 0)) (hpy : py = decide (t ≤ gN g 4)) (e16 : l16 = nI (if (decide (1 ≤ gN g (78 + r)) && decide (gN g (78 + r) ≤ t + 1)) = true then 1 else 0)) (hLf : ∀ s, rwB g r s = true → L s = (decide (1 ≤ gN g (78 + r)) && decide (gN g (78 + r) ≤ t + 1))) (e3 : ∀ u, u < 64 → bits5 l3 u = decide (1 ≤ Mr g W P H L py (st || decide (t = 0)) N hd r u)) (e5 : ∀ u, u < 64 → bits5 l5 u = decide (2 ≤ Mr g W P H L py (st || decide (t = 0)) N hd r u)) (hX : ∀ u, rwB g r u = true → seB g u = true → X u = thN g W P H L py (st || decide (t = 0)) (Mr g W P H L py (st || decide (t = 0)) N hd r) hd u) (hX0 : ∀ u, seB g u = false → X u = 0) (hX2 : ∀ u, X u ≤ 2) (hY : ∀ u, Y u = if seB g u = true then (if t = 0 then 0 else if X u = N u then (if hd u < 3 then hd u + 1 else 3) else 0) else 0) (K : ∀ I1 l7 l9 l11 l13, (∀ b, b ≠ 50 → I1 b = I b) → B4 X Y ((r + 1) * gN g 1) l7 l9 l11 l13 → wp S (d + 3) 200 260 [some (.ref 43), some (.int (nI t)), some (.int stl), some (.long l3), none, some (.long l5), none, some (.long l7), none, some (.long l9), none, some (.long l11), none, some (.long l13), none, some (.int (nI r)), some (.int l16), some (.int (nI ((r + 1) * gN g 1))), none, none, none, none, none] [] (wv x I1 J) (rV x Q)) (eg : I 45 = g) : ∀ (m v : Nat) (I1 : rI0) (l7 l9 l11 l13 : Int64), v + m = (r + 1) * gN g 1 → r * gN g 1 ≤ v → (∀ b, b ≠ 50 → I1 b = I b) → B4 X Y v l7 l9 l11 l13 → wp S (d + 3) 200 260 [some (.ref 43), some (.int (nI t)), some (.int stl), some (.long l3), none, some (.long l5), none, some (.long l7), none, some (.long l9), none, some (.long l11), none, some (.long l13), none, some (.int (nI r)), some (.int l16), some (.int (nI v)), none, none, none, none, none] [] (wv x I1 J) (rV x Q) := by
  obtain ⟨z0, z1, z4, z5, -, -⟩ := k0c
  have h8 := hG.1
  have h8c := hG.2.1
  have hRC : (r + 1) * gN g 1 ≤ 64 := Nat.le_trans (Nat.mul_le_mul (show r + 1 ≤ 8 by omega) h8c) (by omega)
  have eC : gN g 1 * (r + 1) = (r + 1) * gN g 1 := Nat.mul_comm _ _
  have h4 := hG.2.2.1
  intro m
  induction m with
  | zero =>
    intro v I1 l7 l9 l11 l13 hm hv f h
    have hm : v = (r + 1) * gN g 1 := by omega
    subst hm
    exact K I1 l7 l9 l11 l13 f h
  | succ m ih =>
    intro v I1 l7 l9 l11 l13 hm hv f h
    have v64 : v < 64 := by omega
    have e45 : I1 45 = g := (f 45 (by decide)).trans eg
    have i6 : ((6 : Int32) + nI v).toNatClampNeg = 6 + v := by
      show (nI 6 + nI v).toNatClampNeg = _
      rw [nI_add, nI_clamp (by omega)]
    have rv : rwB g r v = true := rw_e.mpr ⟨hv, by omega⟩
    refine v200_43_260 ⟨by decide, fun _ => ⟨?_, ?_⟩, fun q => absurd ?_ q⟩
    · show ¬ mOut (nI 6 + nI v) 681
      rw [nI_add]
      exact nI_in (by omega) (by omega)
    · rw [i6, e45, (hI.2.1 v v64).1]
      have k6 := (hI.2.1 v v64).2
      refine ⟨fun q => ?_, fun q => ?_⟩
      · have q : gN g (6 + v) = 0 := nI_ij (b := 0) (by omega) (by omega) q
        have ns : seB g v = false := by
          unfold seB
          rw [decide_eq_true v64, Bool.true_and]
          refine decide_eq_false (fun z => ?_)
          unfold gN at q
          omega
        rw [← nI_succ]
        exact ih (v + 1) I1 l7 l9 l11 l13 (by omega) (by omega) f (h.skip (hX0 v ns) (by rw [hY v, ns]; rfl))
      · have q : gN g (6 + v) ≠ 0 := fun z => q (by rw [z]; rfl)
        have is : seB g v = true := by
          unfold seB
          rw [decide_eq_true v64, Bool.true_and]
          refine decide_eq_true ?_
          unfold gN at q
          omega
        have ev := hX v rv is
        have eM : Mr g W P H L py (st || decide (t = 0)) N hd r v = N v := Mr_v hv
        have lf := hLf v rv
        have hn := (oN v).1
        have hh := (oH v).1
        have hy : Y v = if t = 0 then 0 else if X v = N v then (if hd v < 3 then hd v + 1 else 3) else 0 := by
          rw [hY v, is]
          rfl
        have K2 : ∀ (I2 : rI0), (∀ b, b ≠ 50 → I2 b = I b) → ∀ l7 l9 l11 l13, B4 X Y (v + 1) l7 l9 l11 l13 → wp S (d + 3) 200 260 [some (.ref 43), some (.int (nI t)), some (.int stl), some (.long l3), none, some (.long l5), none, some (.long l7), none, some (.long l9), none, some (.long l11), none, some (.long l13), none, some (.int (nI r)), some (.int l16), some (.int (nI v + 1)), none, none, none, none, none] [] (wv x I2 J) (rV x Q) := by
          intro I2 f2 a7 a9 a11 a13 hb
          rw [← nI_succ]
          exact ih (v + 1) I2 a7 a9 a11 a13 (by omega) (by omega) f2 hb
        have fin : ∀ (I2 : rI0) (l21 : Int32), (∀ b, b ≠ 50 → I2 b = I b) → l21 = nI (X v) → wp S (d + 3) 200 390 [some (.ref 43), some (.int (nI t)), some (.int stl), some (.long l3), none, some (.long l5), none, some (.long l7), none, some (.long l9), none, some (.long l11), none, some (.long l13), none, some (.int (nI r)), some (.int l16), some (.int (nI v)), some (.long ((1 : Int64) <<< ((nI v).toInt64 &&& 63))), none, some (.int (nI (N v))), some (.int (l21)), none] [] (wv x I2 J) (rV x Q) := by
          intro I2 l21 f2 e
          subst e
          exact c390 v64 ht rfl hR hn hh (hX2 v) hy h (K2 I2 f2)
        have bz : ∀ w : Int64, lg_cmp (w &&& ((1 : Int64) <<< ((nI v).toInt64 &&& 63))) 0 = 0 ↔ bits5 w v = false := by
          intro w
          rw [lg_z, b5_z]
          constructor
          · intro y
            have := y v v64
            rw [b5_and, b5_1 v64, decide_eq_true (show v = v from rfl), Bool.and_true] at this
            exact this
          · intro y s hs
            rw [b5_and, b5_1 v64]
            by_cases z : s = v
            · rw [z, y]
              rfl
            · rw [decide_eq_false z, Bool.and_false]
        have fth := ev
        unfold thN at fth
        rw [if_pos is] at fth
        have laws : (L v || H v) = false → (P v && py) = false → wp S (d + 3) 200 357 [some (.ref 43), some (.int (nI t)), some (.int stl), some (.long l3), none, some (.long l5), none, some (.long l7), none, some (.long l9), none, some (.long l11), none, some (.long l13), none, some (.int (nI r)), some (.int l16), some (.int (nI v)), some (.long ((1 : Int64) <<< ((nI v).toInt64 &&& 63))), none, some (.int (nI (N v))), none, none] [] (wv x I1 J) (rV x Q) := by
          intro y1 y2
          rw [y1, y2, if_neg (by decide), if_neg (by decide)] at fth
          refine v200_43_357 ⟨fun q => ⟨fun q0 => fin I1 _ f ?_, fun q0 => hdO v64 hR hh ?_⟩, fun q => fin I1 _ f ?_⟩
          · have q0 : t = 0 := nI_ij (b := 0) (by omega) (by omega) q0
            rw [fth, if_pos (by rw [decide_eq_true q0, Bool.or_true])]
            rfl
          · have q0 : t ≠ 0 := fun z => q0 (by rw [z]; rfl)
            have qs : st = false := by
              rw [hst] at q
              cases z : st with
              | false => rfl
              | true =>
                rw [z] at q
                exact absurd q (by decide)
            rw [if_neg (by rw [qs, decide_eq_false q0]; decide)] at fth
            have lw := lwO' (S := S) (d := d) (x := x) (I := I1) (J := J) (N := Mr g W P H L py (st || decide (t = 0)) N hd r) (hd := hd) (v := v) (p2 := l3) (p3 := l5) (Q := fun r2 I2 J2 => wp S (d + 3) 200 390 [some (.ref 43), some (.int (nI t)), some (.int stl), some (.long l3), none, some (.long l5), none, some (.long l7), none, some (.long l9), none, some (.long l11), none, some (.long l13), none, some (.int (nI r)), some (.int l16), some (.int (nI v)), some (.long ((1 : Int64) <<< ((nI v).toInt64 &&& 63))), none, some (.int (nI (N v))), some (.int (r2)), none] [] (wv x I2 J2) (rV x Q)) e45 hI hW hL hA hG is (Mr_o oN r) oH e3 e5 (fun I2 f2 => fin I2 _ (fun b hb => (f2 b hb).trans (f b hb)) (by rw [fth]))
            rw [eM] at lw
            exact lw
          · have qs : st = true := by
              rw [hst] at q
              cases z : st with
              | true => rfl
              | false =>
                rw [z] at q
                exact absurd rfl q
            rw [fth, if_pos (by rw [qs]; rfl)]
            rfl
        refine lvO v64 hR hn ⟨fun q16 => ⟨fun q37 => ⟨fun q36 => ?_, fun q36 => ⟨by decide, ?_⟩⟩, fun q37 => fin I1 _ f ?_⟩, fun q16 => fin I1 _ f ?_⟩
        · have l0 : L v = false := by
            rw [lf]
            cases z : (decide (1 ≤ gN g (78 + r)) && decide (gN g (78 + r) ≤ t + 1)) with
            | false => rfl
            | true =>
              rw [e16, z] at q16
              exact absurd q16 (by decide)
          have p37 := (bz _).mp q37
          rw [e37 v v64] at p37
          have p36 := (bz _).mp q36
          rw [e36 v v64] at p36
          exact laws (by rw [l0, p37]; rfl) (by rw [p36]; rfl)
        · have l0 : L v = false := by
            rw [lf]
            cases z : (decide (1 ≤ gN g (78 + r)) && decide (gN g (78 + r) ≤ t + 1)) with
            | false => rfl
            | true =>
              rw [e16, z] at q16
              exact absurd q16 (by decide)
          have p37 := (bz _).mp q37
          rw [e37 v v64] at p37
          have p36 : P v = true := by
            rw [← e36 v v64]
            exact ts_nf (fun z => q36 ((bz _).mpr z))
          rw [z4, e45, hI.1 4 (by omega)]
          refine ⟨fun y => ?_, fun y => fin I1 _ f ?_⟩
          · have y : gN g 4 < t := (nI_ltI (by omega) (by omega)).mp y
            exact laws (by rw [l0, p37]; rfl) (by rw [hpy, decide_eq_false (show ¬ t ≤ gN g 4 by omega), Bool.and_false])
          · have y : ¬ gN g 4 < t := fun z => y (nI_lt z (by omega))
            rw [l0, p37, p36, hpy, decide_eq_true (show t ≤ gN g 4 by omega)] at fth
            rw [fth]
            rfl
        · have p37 : H v = true := by
            rw [← e37 v v64]
            exact ts_nf (fun z => q37 ((bz _).mpr z))
          rw [p37, Bool.or_true, if_pos rfl] at fth
          rw [fth]
          rfl
        · have l1 : L v = true := by
            rw [lf]
            cases z : (decide (1 ≤ gN g (78 + r)) && decide (gN g (78 + r) ≤ t + 1)) with
            | true => rfl
            | false =>
              rw [e16, z] at q16
              exact absurd rfl q16
          rw [l1, Bool.true_or, if_pos rfl] at fth
          rw [fth]
          rfl
    · rw [z1, e45, hI.1 1 (by omega), ← nI_succ, nI_mu, eC]
      exact nI_lt (by omega) (by omega)
end RQ0
end
section
/-! the reference's moment: rows, and the end -/
section RZ0
variable {S : Nat × (Nat → Int32)} {d : Nat} {x : mX} {I : rI0} {J : rJ0} {g : Nat → Int32} {W : Nat → lV} {N hd X Y : Nat → Nat} {P H L : Nat → Bool} {py st : Bool}
theorem rb_e : ∀ e, e < 64 → ∀ u, u < 64 → bits5 (((1 : Int64) <<< ((nI e).toInt64 &&& 63)) - (1 : Int64)) u = decide (u < e) := by decide +kernel
theorem c202 {t : Nat} {stl : Int32} {Q : rI0 → rJ0 → Prop} (hG : GA g) (hI : GI g) (hW : HW g) (hL : LR g W) (hA : AR g J) (ht : t ≤ 600) (hR : RP J N hd) (oN : okN g N) (oH : okH g hd) (e36 : ∀ s, s < 64 → bits5 (J 43 36) s = P s) (e37 : ∀ s, s < 64 → bits5 (J 43 37) s = H s) (hst : stl = nI (if st = true then 1 else 0)) (hpy : py = decide (t ≤ gN g 4)) (hLf : L = lfB g t) (hX : X = nxN g W P H L py (st || decide (t = 0)) N hd) (hY : ∀ u, Y u = if seB g u = true then (if t = 0 then 0 else if X u = N u then (if hd u < 3 then hd u + 1 else 3) else 0) else 0) (eg : I 45 = g) (h42 : I 43 42 = nI t) (K : ∀ I1 l7 l9 l11 l13, (∀ b, b ≠ 50 → I1 b = I b) → (∀ u, u < 64 → bits5 l7 u = decide (1 ≤ X u) ∧ bits5 l9 u = decide (2 ≤ X u) ∧ bits5 l11 u = decide (Y u % 2 = 1) ∧ bits5 l13 u = decide (2 ≤ Y u)) → Q (mSet I1 43 42 (nI (t + 1))) (mSet (mSet (mSet (mSet (mSet (mSet (mSet (mSet J 43 38 l7) 43 39 l9) 43 40 l11) 43 41 l13) 52 t l7) 53 t l9) 54 t l11) 55 t l13)) : ∀ (m r : Nat) (I1 : rI0) (l3 l5 l7 l9 l11 l13 : Int64), r + m = gN g 0 → (∀ b, b ≠ 50 → I1 b = I b) → (∀ u, u < 64 → bits5 l3 u = decide (1 ≤ Mr g W P H L py (st || decide (t = 0)) N hd r u)) → (∀ u, u < 64 → bits5 l5 u = decide (2 ≤ Mr g W P H L py (st || decide (t = 0)) N hd r u)) → B4 X Y (r * gN g 1) l7 l9 l11 l13 → wp S (d + 3) 200 202 [some (.ref 43), some (.int (nI t)), some (.int stl), some (.long l3), none, some (.long l5), none, some (.long l7), none, some (.long l9), none, some (.long l11), none, some (.long l13), none, some (.int (nI r)), none, none, none, none, none, none, none] [] (wv x I1 J) (rV x Q) := by
  obtain ⟨z0, z1, z4, z5, -, -⟩ := k0c
  have h8 := hG.1
  have h8c := hG.2.1
  have oX : okN g X := by
    rw [hX]
    exact nxN_o oN
  intro m
  induction m with
  | zero =>
    intro r I1 l3 l5 l7 l9 l11 l13 hm f e3 e5 h
    have hm : r = gN g 0 := by omega
    have e45 : I1 45 = g := (f 45 (by decide)).trans eg
    have io : ¬ mOut (nI t) 601 := nI_in (by omega) (by omega)
    refine v200_43_202 ⟨by decide, fun q => absurd q (by rw [z0, e45, hI.1 0 (by omega)]; exact nI_nlt (by omega) (by omega)), fun _ => ⟨io, io, io, io, ?_⟩⟩
    rw [nI_clamp (by omega), f 43 (by decide), h42, ← nI_succ]
    refine K I1 l7 l9 l11 l13 f (fun u hu => ?_)
    obtain ⟨a1, a2, a3, a4⟩ := h u hu
    rw [a1, a2, a3, a4, hm]
    by_cases z : u < gN g 0 * gN g 1
    · rw [decide_eq_true z]
      exact ⟨rfl, rfl, rfl, rfl⟩
    · have ns : seB g u = false := ts_nt (fun y => z (hG.2.2.2.2.1 u y).1)
      have y0 : Y u = 0 := by
        rw [hY u, ns]
        rfl
      rw [decide_eq_false z, (oX u).2 ns, y0]
      exact ⟨rfl, rfl, rfl, rfl⟩
  | succ m ih =>
    intro r I1 l3 l5 l7 l9 l11 l13 hm f e3 e5 h
    have hr : r < gN g 0 := by omega
    have hRC : (r + 1) * gN g 1 ≤ 64 := Nat.le_trans (Nat.mul_le_mul (show r + 1 ≤ 8 by omega) h8c) (by omega)
    have eC : gN g 1 * (r + 1) = (r + 1) * gN g 1 := Nat.mul_comm _ _
    have e45 : I1 45 = g := (f 45 (by decide)).trans eg
    have i78 : ((78 : Int32) + nI r).toNatClampNeg = 78 + r := by
      show (nI 78 + nI r).toNatClampNeg = _
      rw [nI_add, nI_clamp (by omega)]
    have o78 : ¬ mOut ((78 : Int32) + nI r) 681 := by
      show ¬ mOut (nI 78 + nI r) 681
      rw [nI_add]
      exact nI_in (by omega) (by omega)
    obtain ⟨-, -, l78, b78⟩ := hI.2.2.1 r (by omega)
    have hrow : ∀ s, rwB g r s = true → L s = (decide (1 ≤ gN g (78 + r)) && decide (gN g (78 + r) ≤ t + 1)) := by
      intro s z
      have z := rw_e.mp z
      have hc : 0 < gN g 1 := by
        rcases Nat.eq_zero_or_pos (gN g 1) with y | y
        · rw [y] at z
          omega
        · exact y
      have e : s / gN g 1 = r := Nat.div_eq_of_lt_le z.1 z.2
      have e2 : (r + 1) * gN g 1 ≤ gN g 0 * gN g 1 := Nat.mul_le_mul_right _ (by omega)
      rw [hLf]
      unfold lfB
      rw [e, decide_eq_true (show s < gN g 0 * gN g 1 by omega), Bool.true_and]
    have go : ∀ l16 : Int32, l16 = nI (if (decide (1 ≤ gN g (78 + r)) && decide (gN g (78 + r) ≤ t + 1)) = true then 1 else 0) → wp S (d + 3) 200 260 [some (.ref 43), some (.int (nI t)), some (.int stl), some (.long l3), none, some (.long l5), none, some (.long l7), none, some (.long l9), none, some (.long l11), none, some (.long l13), none, some (.int (nI r)), some (.int l16), some (.int (nI (r * gN g 1))), none, none, none, none, none] [] (wv x I1 J) (rV x Q) := by
      intro l16 e16
      refine c260 (v := 0) (I := I) (l16 := l16) (st := st) (X := X) (Y := Y) hG hI hW hL hA ht hR oN oH hr e36 e37 hst hpy e16 hrow e3 e5 (fun u y1 y2 => by rw [hX]; exact nx_X hr y1 y2) (fun u y => (oX u).2 y) (fun u => (oX u).1) hY ?_ eg (gN g 1) (r * gN g 1) I1 l7 l9 l11 l13 (by rw [Nat.succ_mul]) (Nat.le_refl _) f h
      intro I2 a7 a9 a11 a13 f2 hb
      have e45 : I2 45 = g := (f2 45 (by decide)).trans eg
      have h42 : I2 43 42 = nI t := by
        rw [f2 43 (by decide)]
        exact h42
      refine v200_43_260 ⟨by decide, fun q => absurd q ?_, fun _ => ⟨by decide, ?_⟩⟩
      · rw [z1, e45, hI.1 1 (by omega), ← nI_succ, nI_mu, eC]
        exact nI_nlt (Nat.le_refl _) (by omega)
      · rw [z5, z1, e45, hI.1 5 (by omega), hI.1 1 (by omega), ← nI_succ, nI_mu, eC]
        have h5 := hG.2.2.2.1
        refine ⟨fun q => ?_, fun q => ⟨by decide, ?_⟩⟩
        · have q : gN g 5 = 0 := nI_ij (b := 0) (by omega) (by omega) q
          have eM : Mr g W P H L py (st || decide (t = 0)) N hd (r + 1) = Mr g W P H L py (st || decide (t = 0)) N hd r := by
            unfold Mr
            rw [if_pos q, if_pos q]
          exact ih (r + 1) I2 l3 l5 a7 a9 a11 a13 (by omega) f2 (by rw [eM]; exact e3) (by rw [eM]; exact e5) hb
        · have q : gN g 5 ≠ 0 := fun z => q (by rw [z]; rfl)
          have nxt : ∀ (s0 : Int64) (l17 : Int32), (∀ u, u < 64 → bits5 s0 u = decide (u < (r + 1) * gN g 1)) → wp S (d + 3) 200 548 [some (.ref 43), some (.int (nI t)), some (.int stl), some (.long l3), none, some (.long l5), none, some (.long a7), none, some (.long a9), none, some (.long a11), none, some (.long a13), none, some (.int (nI r)), some (.int l16), some (.int (l17)), none, none, none, none, none] [.long s0] (wv x I2 J) (rV x Q) := by
            intro s0 l17 h0
            refine v200_43_548 ?_
            rw [← nI_succ]
            refine ih (r + 1) I2 _ _ a7 a9 a11 a13 (by omega) f2 (fun u hu => ?_) (fun u hu => ?_) hb
            · rw [b5_or, b5_and, b5_and, b5_not hu, h0 u hu, (hb u hu).1, (hR u hu).1, Mr_n q hr oN, ← hX]
              by_cases z : u < (r + 1) * gN g 1
              · rw [decide_eq_true z, if_pos z]
                simp
              · rw [decide_eq_false z, if_neg z]
                simp
            · rw [b5_or, b5_and, b5_and, b5_not hu, h0 u hu, (hb u hu).2.1, (hR u hu).2.1, Mr_n q hr oN, ← hX]
              by_cases z : u < (r + 1) * gN g 1
              · rw [decide_eq_true z, if_pos z]
                simp
              · rw [decide_eq_false z, if_neg z]
                simp
          refine ⟨fun y => nxt _ _ (fun u hu => ?_), fun y => nxt _ _ (fun u hu => ?_)⟩
          · have y : (r + 1) * gN g 1 = 64 := nI_ij (b := 64) (by omega) (by omega) y
            rw [b5_m u hu, y, decide_eq_true hu]
          · have y : (r + 1) * gN g 1 ≠ 64 := fun z => y (by rw [z]; rfl)
            exact rb_e _ (by omega) u hu
    refine v200_43_202 ⟨by decide, fun _ => ⟨o78, ?_⟩, fun q => absurd (by rw [z0, e45, hI.1 0 (by omega)]; exact nI_lt hr (by omega)) q⟩
    rw [i78, z1, e45, l78, hI.1 1 (by omega), nI_mu, Nat.mul_comm (gN g 1) r]
    refine ⟨fun q => ⟨o78, fun q2 => ⟨by decide, go _ ?_⟩, fun q2 => ⟨by decide, go _ ?_⟩⟩, fun q => ⟨by decide, go _ ?_⟩⟩
    · have q : 0 < gN g (78 + r) := (nI_ltI (a := 0) (by omega) (by omega)).mp q
      have e1 : nI (gN g (78 + r)) - (1 : Int32) = nI (gN g (78 + r) - 1) := by
        have := nI_pr (gN g (78 + r) - 1)
        rw [show gN g (78 + r) - 1 + 1 = gN g (78 + r) by omega] at this
        exact this
      rw [e1] at q2
      have q2 := (nI_ltI (by omega) (by omega)).mp q2
      rw [decide_eq_false (show ¬ gN g (78 + r) ≤ t + 1 by omega), Bool.and_false]
      rfl
    · have q : 0 < gN g (78 + r) := (nI_ltI (a := 0) (by omega) (by omega)).mp q
      have e1 : nI (gN g (78 + r)) - (1 : Int32) = nI (gN g (78 + r) - 1) := by
        have := nI_pr (gN g (78 + r) - 1)
        rw [show gN g (78 + r) - 1 + 1 = gN g (78 + r) by omega] at this
        exact this
      rw [e1] at q2
      have q2 : ¬ t < gN g (78 + r) - 1 := fun z => q2 (nI_lt z (by omega))
      rw [decide_eq_true (show 1 ≤ gN g (78 + r) by omega), decide_eq_true (show gN g (78 + r) ≤ t + 1 by omega)]
      rfl
    · have q : ¬ 0 < gN g (78 + r) := fun z => q (nI_lt (a := 0) z (by omega))
      rw [decide_eq_false (show ¬ 1 ≤ gN g (78 + r) by omega)]
      rfl
/-- the first moment -/
theorem n0_X (hG : GA g) (s : Nat) : nxN g W P H L true true (fun _ => 0) (fun _ => 0) s = if (seB g s && (P s && (!H s && !L s))) = true then 2 else 0 := by
  have o : okN g (fun _ => 0) := fun _ => ⟨Nat.zero_le _, fun _ => rfl⟩
  cases z : seB g s with
  | false =>
    rw [(nxN_o (W := W) (P := P) (H := H) (L := L) (py := true) (st := true) (hd := fun _ => 0) o s).2 z]
    rfl
  | true =>
    have h := (hG.2.2.2.2.1 s z).1
    have hc : 0 < gN g 1 := by
      rcases Nat.eq_zero_or_pos (gN g 1) with y | y
      · rw [y] at h
        omega
      · exact y
    have hl : s / gN g 1 < gN g 0 := Nat.div_lt_of_lt_mul (by rw [Nat.mul_comm]; exact h)
    have e1 := Nat.div_add_mod s (gN g 1)
    have e2 := Nat.mod_lt s hc
    have e3 : (s / gN g 1 + 1) * gN g 1 = gN g 1 * (s / gN g 1) + gN g 1 := by rw [Nat.succ_mul, Nat.mul_comm]
    rw [nx_X hl (rw_e.mpr ⟨Nat.div_mul_le_self s _, by omega⟩) z]
    unfold thN
    rw [if_pos z, Bool.true_and]
    cases P s <;> cases H s <;> cases L s <;> rfl
theorem pv_o (t : Nat) : okN g (pvN g W P H t).1 ∧ okH g (pvN g W P H t).2 := by
  cases t with
  | zero => exact ⟨fun _ => ⟨Nat.zero_le _, fun _ => rfl⟩, fun _ => ⟨Nat.zero_le _, fun _ => rfl⟩⟩
  | succ t => exact nt_o t
/-- a moment of the reference's -/
theorem mom {t : Nat} {Q : rI0 → rJ0 → Prop} (hG : GA g) (hI : GI g) (hW : HW g) (hL : LR g W) (hA : AR g J) (ht : t ≤ 600) (eg : I 45 = g) (h : RSn g W P H t I J) (k : ∀ I' J', FM I J I' J' → RSn g W P H (t + 1) I' J' → (∀ s, s < 64 → bits5 (J' 52 t) s = decide (1 ≤ (nt g W P H t).1 s) ∧ bits5 (J' 53 t) s = decide (2 ≤ (nt g W P H t).1 s) ∧ bits5 (J' 54 t) s = decide ((nt g W P H t).2 s % 2 = 1) ∧ bits5 (J' 55 t) s = decide (2 ≤ (nt g W P H t).2 s)) → (∀ u, u ≠ t → J' 52 u = J 52 u ∧ J' 53 u = J 53 u ∧ J' 54 u = J 54 u ∧ J' 55 u = J 55 u) → Q I' J') : wcV S (d + 3) 200 [.ref 43] x I J Q := by
  obtain ⟨h42, h43, h36, h37, hR⟩ := h
  obtain ⟨oN, oH⟩ := pv_o (g := g) (W := W) (P := P) (H := H) t
  have e0 : (0 : Int32) = nI (if stB g (prN g t) (prN g t) = true then 1 else 0) := by
    rw [stB_0]
    rfl
  refine c200_43 ?_
  rw [h42, e0]
  refine rcl (d := d) hG hI ht (cuN g t - prN g t) (prN g t) I J (by have := prN_c hG (t := t); omega) (Nat.le_refl _) eg h43 h36 h37 (fun I1 J1 f1 f2 f3 f4 r1 r2 r3 => v200_43_176 ?_)
  have hR1 : RP J1 (pvN g W P H t).1 (pvN g W P H t).2 := by
    intro s hs
    rw [f4 38 (by decide) (by decide), f4 39 (by decide) (by decide), f4 40 (by decide) (by decide), f4 41 (by decide) (by decide)]
    exact hR s hs
  have hA1 : AR g J1 := by
    unfold AR at *
    rw [f3 51 (by decide)]
    exact hA
  have eN : (nt g W P H t).1 = nxN g W (cuP g 0 P (cuN g t)) (cuP g 1 H (cuN g t)) (lfB g t) (decide (t ≤ gN g 4)) (cuS g t || decide (t = 0)) (pvN g W P H t).1 (pvN g W P H t).2 := by
    cases t with
    | zero =>
      funext s
      rw [decide_eq_true (Nat.zero_le _), decide_eq_true (show 0 = 0 from rfl), Bool.or_true]
      exact (n0_X hG s).symm
    | succ t =>
      rw [decide_eq_false (show ¬ t + 1 = 0 by omega), Bool.or_false]
      rfl
  have eY : ∀ u, (nt g W P H t).2 u = if seB g u = true then (if t = 0 then 0 else if (nt g W P H t).1 u = (pvN g W P H t).1 u then (if (pvN g W P H t).2 u < 3 then (pvN g W P H t).2 u + 1 else 3) else 0) else 0 := by
    intro u
    cases t with
    | zero =>
      show 0 = _
      cases seB g u <;> rfl
    | succ t => rfl
  have b0 : ∀ u, u < 64 → bits5 0 u = (decide (u < 0 * gN g 1) && true) → True := fun _ _ _ => True.intro
  have e1 : (J1 43 38 = J1 43 38) := rfl
  refine c202 (I := I1) (J := J1) (st := cuS g t) (X := (nt g W P H t).1) (Y := (nt g W P H t).2) (L := lfB g t) hG hI hW hL hA1 ht hR1 oN oH r2 r3 rfl rfl rfl eN eY ((f1 45 (by decide)).trans eg) ((f2 42 (by decide)).trans h42) (fun I2 l7 l9 l11 l13 f5 hb => ?_) (gN g 0) 0 I1 _ _ 0 0 0 0 (by omega) (fun _ _ => rfl) (fun u hu => ?_) (fun u hu => ?_) (fun u hu => ?_)
  · refine k _ _ ⟨fun b z1 z2 => ?_, fun q z1 z2 => ?_, fun b z1 z2 => ?_, fun q z1 => ?_⟩ ⟨rfl, ?_, fun s hs => ?_, fun s hs => ?_, ?_⟩ (fun s hs => ?_) (fun u hu => ?_)
    · rw [mSet_ne z1, f5 b z2, f1 b z1]
    · show mSet I2 43 42 _ 43 q = _
      unfold mSet va_up
      rw [if_pos rfl, if_neg z1, f5 43 (by decide), f2 q z2]
    · rw [mSet_ne (by omega), mSet_ne (by omega), mSet_ne (by omega), mSet_ne (by omega), mSet_ne z1, mSet_ne z1, mSet_ne z1, mSet_ne z1, f3 b z1]
    · rw [mSet_ne (by decide), mSet_ne (by decide), mSet_ne (by decide), mSet_ne (by decide)]
      show mSet (mSet (mSet (mSet J1 43 38 _) 43 39 _) 43 40 _) 43 41 _ 43 q = _
      unfold mSet va_up
      rw [if_pos rfl, if_neg (by omega), if_pos rfl, if_neg (by omega), if_pos rfl, if_neg (by omega), if_pos rfl, if_neg (by omega), f4 q (by omega) (by omega)]
    · show mSet I2 43 42 _ 43 43 = nI (cuN g t)
      rw [show mSet I2 43 42 (nI (t + 1)) 43 43 = I2 43 43 from rfl, f5 43 (by decide)]
      exact r1
    · show bits5 (J1 43 36) s = cuP g 0 P (cuN g t) s
      exact r2 s hs
    · show bits5 (J1 43 37) s = cuP g 1 H (cuN g t) s
      exact r3 s hs
    · intro s hs
      exact hb s hs
    · have e : ∀ (f : rJ0) (a : Nat) (v : Int64), mSet f a t v a t = v := fun f a v => mSet_at
      rw [mSet_ne (show 52 ≠ 55 by decide), mSet_ne (show 52 ≠ 54 by decide), mSet_ne (show 52 ≠ 53 by decide), e, mSet_ne (show 53 ≠ 55 by decide), mSet_ne (show 53 ≠ 54 by decide), e, mSet_ne (show 54 ≠ 55 by decide), e, e]
      exact hb s hs
    · have e : ∀ (f : rJ0) (a : Nat) (v : Int64), mSet f a t v a u = f a u := by
        intro f a v
        unfold mSet va_up
        rw [if_pos rfl, if_neg hu]
      rw [mSet_ne (show 52 ≠ 55 by decide), mSet_ne (show 52 ≠ 54 by decide), mSet_ne (show 52 ≠ 53 by decide), e, mSet_ne (show 53 ≠ 55 by decide), mSet_ne (show 53 ≠ 54 by decide), e, mSet_ne (show 54 ≠ 55 by decide), e, e]
      have e2 : ∀ a, a ≠ 43 → mSet (mSet (mSet (mSet J1 43 38 l7) 43 39 l9) 43 40 l11) 43 41 l13 a = J a := by
        intro a ha
        rw [mSet_ne ha, mSet_ne ha, mSet_ne ha, mSet_ne ha, f3 a ha]
      rw [mSet_ne (show 53 ≠ 52 by decide), mSet_ne (show 54 ≠ 53 by decide), mSet_ne (show 54 ≠ 52 by decide), mSet_ne (show 55 ≠ 54 by decide), mSet_ne (show 55 ≠ 53 by decide), mSet_ne (show 55 ≠ 52 by decide), e2 52 (by decide), e2 53 (by decide), e2 54 (by decide), e2 55 (by decide)]
      exact ⟨rfl, rfl, rfl, rfl⟩
  · rw [show Mr g W (cuP g 0 P (cuN g t)) (cuP g 1 H (cuN g t)) (lfB g t) (decide (t ≤ gN g 4)) (cuS g t || decide (t = 0)) (pvN g W P H t).1 (pvN g W P H t).2 0 u = (pvN g W P H t).1 u from Mr_v (by omega)]
    exact (hR1 u hu).1
  · rw [show Mr g W (cuP g 0 P (cuN g t)) (cuP g 1 H (cuN g t)) (lfB g t) (decide (t ≤ gN g 4)) (cuS g t || decide (t = 0)) (pvN g W P H t).1 (pvN g W P H t).2 0 u = (pvN g W P H t).1 u from Mr_v (by omega)]
    exact (hR1 u hu).2.1
  · rw [b5_0, Nat.zero_mul, decide_eq_false (show ¬ u < 0 by omega)]
    exact ⟨rfl, rfl, rfl, rfl⟩
end RZ0
end
section
/-! areas, as the reference lays them out -/
section RA0
variable {S : Nat × (Nat → Int32)} {d : Nat} {x : mX} {I : rI0} {J : rJ0} {g : Nat → Int32}
/-- the SEAT at a row and a column -/
def cB (g : Nat → Int32) (a b : Int) (u : Nat) : Bool := seB g u && (decide (((u / gN g 1 : Nat) : Int) = a) && decide (((u % gN g 1 : Nat) : Int) = b))
theorem seC (hG : GA g) {u : Nat} (h : seB g u = true) : 0 < gN g 1 ∧ u / gN g 1 < gN g 0 ∧ u % gN g 1 < gN g 1 := by
  have hu := (hG.2.2.2.2.1 u h).1
  have hc : 0 < gN g 1 := by
    rcases Nat.eq_zero_or_pos (gN g 1) with y | y
    · rw [y] at hu
      omega
    · exact y
  exact ⟨hc, Nat.div_lt_of_lt_mul (by rw [Nat.mul_comm]; exact hu), Nat.mod_lt _ hc⟩
theorem uq {C u v : Nat} (h1 : u / C = v / C) (h2 : u % C = v % C) : u = v := by
  rw [← Nat.div_add_mod u C, ← Nat.div_add_mod v C, h1, h2]
theorem bAt {p1 p2 : Int32} {a b : Int} {Q : Int64 → rI0 → rJ0 → Prop} (hG : GA g) (hI : GI g) (eg : I 45 = g) (e1 : p1.toInt = a) (e2 : p2.toInt = b) (k : ∀ w, (∀ u, u < 64 → bits5 w u = cB g a b u) → Q w I J) : wcJ S (d + 2) 185 [.ref 43, .int p1, .int p2] x I J Q := by
  obtain ⟨z0, z1, -, -, -, -⟩ := k0c
  have h8 := hG.1
  have h8c := hG.2.1
  have l0 : (0 : Int32).toInt = 0 := by decide
  have l1 : (1 : Int32).toInt = 1 := by decide
  have t0 : (nI (gN g 0) - (1 : Int32)).toInt = (gN g 0 : Int) - 1 := i_sub (nI_toInt (by omega)) l1 (by omega)
  have t1 : (nI (gN g 1) - (1 : Int32)).toInt = (gN g 1 : Int) - 1 := i_sub (nI_toInt (by omega)) l1 (by omega)
  have none_ : (∀ u, seB g u = true → ¬ (((u / gN g 1 : Nat) : Int) = a ∧ ((u % gN g 1 : Nat) : Int) = b)) → Q 0 I J := by
    intro h
    refine k 0 (fun u hu => ?_)
    rw [b5_0]
    unfold cB
    cases z : seB g u with
    | false => rfl
    | true =>
      rw [← Bool.decide_and, decide_eq_false (h u z)]
      rfl
  refine c185_43 (c184_43 ⟨by decide, ?_⟩)
  rw [z0, z1, show I 45 0 = nI (gN g 0) by rw [eg]; exact hI.1 0 (by omega)]
  have e451 : I 45 1 = nI (gN g 1) := by rw [eg]; exact hI.1 1 (by omega)
  refine c151 ⟨fun q => ⟨fun _ => ⟨fun _ => none_ (fun u hu y => ?_), fun y => absurd rfl y⟩, fun y => absurd rfl y⟩, fun q1 => ⟨fun q => ⟨fun _ => ⟨fun _ => none_ (fun u hu y => ?_), fun y => absurd rfl y⟩, fun y => absurd rfl y⟩, fun q2 => ⟨fun y => absurd y (by decide), fun _ => ⟨by decide, c151 ⟨fun q => ⟨fun _ => ⟨fun _ => none_ (fun u hu y => ?_), fun y => absurd rfl y⟩, fun y => absurd rfl y⟩, fun q3 => ⟨fun q => ⟨fun _ => ⟨fun _ => none_ (fun u hu y => ?_), fun y => absurd rfl y⟩, fun y => absurd rfl y⟩, fun q4 => ⟨fun y => absurd y (by decide), fun _ => ⟨by decide, ?_⟩⟩⟩⟩⟩⟩⟩⟩
  · have q := i_lt q
    have n1 : (0 : Int) ≤ ((u / gN g 1 : Nat) : Int) := Int.natCast_nonneg _
    omega
  · have q := i_lt q
    have := (seC hG hu).2.1
    omega
  · have q := i_lt q
    omega
  · rw [e451] at q
    have q := i_lt q
    have := (seC hG hu).2.2
    omega
  · rw [e451] at q4
    have q1 := i_nlt q1
    have q2 := i_nlt q2
    have q3 := i_nlt q3
    have q4 := i_nlt q4
    obtain ⟨r, hr, er⟩ : ∃ r : Nat, r < gN g 0 ∧ p1 = nI r := ⟨p1.toInt.toNat, by omega, Int32.toInt_inj.mp (by rw [nI_toInt (by omega)]; omega)⟩
    obtain ⟨c, hc, ec⟩ : ∃ c : Nat, c < gN g 1 ∧ p2 = nI c := ⟨p2.toInt.toNat, by omega, Int32.toInt_inj.mp (by rw [nI_toInt (by omega)]; omega)⟩
    subst er ec
    rw [nI_toInt (by omega)] at e1 e2
    have hm : gN g 1 * r + c < 64 := by
      have m1 : gN g 1 * (r + 1) ≤ 8 * 8 := Nat.mul_le_mul h8c (by omega)
      have m2 : gN g 1 * (r + 1) = gN g 1 * r + gN g 1 := Nat.mul_succ _ _
      omega
    have ei : ((6 : Int32) + nI (gN g 1) * nI r) + nI c = nI (6 + (gN g 1 * r + c)) := by
      show (nI 6 + nI (gN g 1) * nI r) + nI c = _
      rw [nI_mu, nI_add, nI_add]
      exact congrArg nI (by omega)
    have ej : nI (gN g 1) * nI r + nI c = nI (gN g 1 * r + c) := by rw [nI_mu, nI_add]
    have dv : (gN g 1 * r + c) / gN g 1 = r := by
      rw [Nat.mul_add_div (by omega), Nat.div_eq_of_lt hc]
      omega
    have md : (gN g 1 * r + c) % gN g 1 = c := by
      rw [Nat.mul_add_mod, Nat.mod_eq_of_lt hc]
    have eqv : ∀ u : Nat, (((u / gN g 1 : Nat) : Int) = a ∧ ((u % gN g 1 : Nat) : Int) = b) ↔ u = gN g 1 * r + c := by
      intro u
      constructor
      · rintro ⟨y1, y2⟩
        exact uq (C := gN g 1) (by omega) (by omega)
      · intro y
        rw [y, dv, md]
        omega
    have sb : seB g (gN g 1 * r + c) = true ↔ (0 : Int32) < g (6 + (gN g 1 * r + c)) := by
      unfold seB
      rw [decide_eq_true hm, Bool.true_and, decide_eq_true_iff, Int32.lt_iff_toInt_lt, l0]
    rw [e451, ei, nI_clamp (by omega), ej, eg]
    refine ⟨nI_in (by omega) (by omega), fun y => ⟨fun w => absurd w (by decide), fun _ => ⟨by decide, k _ (fun u hu => ?_)⟩⟩, fun y => ⟨fun _ => none_ (fun u hu w => ?_), fun w => absurd rfl w⟩⟩
    · rw [b5_1 hm]
      unfold cB
      rw [← Bool.decide_and]
      by_cases z : u = gN g 1 * r + c
      · rw [decide_eq_true z, decide_eq_true ((eqv u).mpr z), z, sb.mpr y]
        rfl
      · rw [decide_eq_false z, decide_eq_false (fun w => z ((eqv u).mp w)), Bool.and_false]
    · rw [(eqv u).mp w] at hu
      exact y (sb.mp hu)
/-- near, up to k -/
theorem la107 {s : Nat} {l1 : Int64} {Q : rI0 → rJ0 → Prop} (hG : GA g) (hI : GI g) (eg : I 45 = g) (hs : s < gN g 0 * gN g 1) (K : ∀ l6, (∀ u, u < 64 → bits5 l6 u = arB g 0 s u) → wp S (d + 3) 186 107 [some (.ref 43), some (.long l1), none, some (.int (nI s)), some (.int (nI (s / gN g 1))), some (.int (nI (s % gN g 1))), some (.long l6), none, some (.int (nI 9)), none, none, none, none] [] (wv x I J) (rV x Q)) : ∀ (m k : Nat) (l6 : Int64), k + m = 9 → (∀ u, u < 64 → bits5 l6 u = (seB g u && decide (u / gN g 1 ≤ s / gN g 1 + 1 ∧ s / gN g 1 ≤ u / gN g 1 + 1 ∧ u % gN g 1 ≤ s % gN g 1 + 1 ∧ s % gN g 1 ≤ u % gN g 1 + 1 ∧ 3 * (u / gN g 1 + 1) + (u % gN g 1 + 1) < k + 3 * (s / gN g 1) + s % gN g 1 ∧ ¬ 3 * (u / gN g 1 + 1) + (u % gN g 1 + 1) = 4 + 3 * (s / gN g 1) + s % gN g 1))) → wp S (d + 3) 186 107 [some (.ref 43), some (.long l1), none, some (.int (nI s)), some (.int (nI (s / gN g 1))), some (.int (nI (s % gN g 1))), some (.long l6), none, some (.int (nI k)), none, none, none, none] [] (wv x I J) (rV x Q) := by
  have h8 := hG.1
  have h8c := hG.2.1
  have hc : 0 < gN g 1 := by
    rcases Nat.eq_zero_or_pos (gN g 1) with y | y
    · rw [y] at hs
      omega
    · exact y
  have hr : s / gN g 1 < gN g 0 := Nat.div_lt_of_lt_mul (by rw [Nat.mul_comm]; exact hs)
  have hm := Nat.mod_lt s hc
  intro m
  induction m with
  | zero =>
    intro k l6 hk h
    have hk : k = 9 := by omega
    subst hk
    refine K l6 (fun u hu => ?_)
    rw [h u hu]
    unfold arB
    rw [if_pos rfl]
    cases z : seB g u with
    | false => rw [Bool.false_and, Bool.false_and, Bool.and_false]
    | true =>
      have w := (hG.2.2.2.2.1 u z).1
      rw [decide_eq_true w, Bool.true_and, Bool.true_and, Bool.true_and, ← Bool.decide_and, ← Bool.decide_and, ← Bool.decide_and, ← Bool.decide_and]
      refine decide_eq_decide.mpr ?_
      have e : u = s ↔ u / gN g 1 = s / gN g 1 ∧ u % gN g 1 = s % gN g 1 := ⟨fun y => by rw [y]; exact ⟨rfl, rfl⟩, fun y => uq y.1 y.2⟩
      omega
  | succ m ih =>
    intro k l6 hk h
    have t3 : (3 : Int32).toInt = 3 := by decide
    have tk : (nI k).toInt = (k : Int) := nI_toInt (by omega)
    have dk := i_div tk t3 (by omega) (by omega)
    have rk := i_rem tk t3 (by omega) (by omega)
    have l1' : (1 : Int32).toInt = 1 := by decide
    refine v186_43_107 ⟨fun _ => ⟨fun q => ?_, fun q => ⟨by decide, by decide, ?_⟩⟩, fun q => absurd (nI_lt (b := 9) (by omega) (by omega)) q⟩
    · have q : k = 4 := nI_ij (b := 4) (by omega) (by omega) q
      subst q
      rw [← nI_succ]
      refine ih 5 l6 (by omega) (fun u hu => ?_)
      rw [h u hu]
      congr 1
      exact decide_eq_decide.mpr (by omega)
    · have q : k ≠ 4 := fun z => q (by rw [z]; rfl)
      have n1 : (0 : Int) ≤ ((s / gN g 1 : Nat) : Int) := Int.natCast_nonneg _
      have n2 : (0 : Int) ≤ ((s % gN g 1 : Nat) : Int) := Int.natCast_nonneg _
      have a1 : ((nI (s / gN g 1) + (nI k / (3 : Int32))) - (1 : Int32)).toInt = ((s / gN g 1 : Nat) : Int) + (k : Int) / 3 - 1 := i_sub (i_add (nI_toInt (by omega)) dk.1 (by omega)) l1' (by omega)
      have a2 : ((nI (s % gN g 1) + (nI k - nI k / (3 : Int32) * (3 : Int32))) - (1 : Int32)).toInt = ((s % gN g 1 : Nat) : Int) + ((k : Int) - (k : Int) / 3 * 3) - 1 := i_sub (i_add (nI_toInt (by omega)) rk.2.2 (by omega)) l1' (by omega)
      refine bAt (d := d) hG hI eg a1 a2 (fun w hw => ?_)
      rw [← nI_succ]
      refine ih (k + 1) _ (by omega) (fun u hu => ?_)
      rw [b5_or, h u hu, hw u hu]
      unfold cB
      cases seB g u
      · rfl
      · rw [Bool.true_and, Bool.true_and, Bool.true_and, ← Bool.decide_and, ← Bool.decide_or]
        exact decide_eq_decide.mpr (by omega)
/-- seen, a row's part -/
theorem la206 {s kk : Nat} {l1 l6 : Int64} {Q : rI0 → rJ0 → Prop} (hG : GA g) (hI : GI g) (eg : I 45 = g) (hs : s < gN g 0 * gN g 1) (k1 : 1 ≤ kk) (k3 : kk ≤ 3) (K : ∀ l8, (∀ u, u < 64 → bits5 l8 u = (seB g u && decide (u / gN g 1 + 1 ≤ s / gN g 1 ∧ s / gN g 1 ≤ u / gN g 1 + kk ∧ u % gN g 1 + u / gN g 1 ≤ s % gN g 1 + s / gN g 1 ∧ s % gN g 1 + u / gN g 1 ≤ u % gN g 1 + s / gN g 1))) → wp S (d + 3) 186 190 [some (.ref 43), some (.long l1), none, some (.int (nI s)), some (.int (nI (s / gN g 1))), some (.int (nI (s % gN g 1))), some (.long l6), none, some (.long l8), none, some (.int (0 : Int32)), some (.int (nI (kk + 1))), none] [] (wv x I J) (rV x Q)) : ∀ (m j : Nat) (l8 : Int64), j + m = 2 * kk + 1 → (∀ u, u < 64 → bits5 l8 u = (seB g u && decide (u / gN g 1 + 1 ≤ s / gN g 1 ∧ s / gN g 1 ≤ u / gN g 1 + kk ∧ u % gN g 1 + u / gN g 1 ≤ s % gN g 1 + s / gN g 1 ∧ s % gN g 1 + u / gN g 1 ≤ u % gN g 1 + s / gN g 1 ∧ (s / gN g 1 = u / gN g 1 + kk → u % gN g 1 + kk < s % gN g 1 + j)))) → wp S (d + 3) 186 206 [some (.ref 43), some (.long l1), none, some (.int (nI s)), some (.int (nI (s / gN g 1))), some (.int (nI (s % gN g 1))), some (.long l6), none, some (.long l8), none, some (.int (0 : Int32)), some (.int (nI kk)), some (.int (nI j - nI kk))] [] (wv x I J) (rV x Q) := by
  have h8 := hG.1
  have h8c := hG.2.1
  have hc : 0 < gN g 1 := by
    rcases Nat.eq_zero_or_pos (gN g 1) with y | y
    · rw [y] at hs
      omega
    · exact y
  have hr : s / gN g 1 < gN g 0 := Nat.div_lt_of_lt_mul (by rw [Nat.mul_comm]; exact hs)
  have hm := Nat.mod_lt s hc
  have tk : (nI kk).toInt = (kk : Int) := nI_toInt (by omega)
  intro m
  induction m with
  | zero =>
    intro j l8 hj h
    have tj : (nI j - nI kk).toInt = (j : Int) - kk := i_sub (nI_toInt (by omega)) tk (by omega)
    refine v186_43_206 ⟨fun _ => ?_, fun q => absurd (Int32.lt_iff_toInt_lt.mpr (by omega)) q⟩
    rw [← nI_succ]
    refine K l8 (fun u hu => ?_)
    rw [h u hu]
    congr 1
    exact decide_eq_decide.mpr (by omega)
  | succ m ih =>
    intro j l8 hj h
    have tj : (nI j - nI kk).toInt = (j : Int) - kk := i_sub (nI_toInt (by omega)) tk (by omega)
    have n1 : (0 : Int) ≤ ((s / gN g 1 : Nat) : Int) := Int.natCast_nonneg _
    have n2 : (0 : Int) ≤ ((s % gN g 1 : Nat) : Int) := Int.natCast_nonneg _
    have ts1 : (nI (s / gN g 1) - nI kk).toInt = ((s / gN g 1 : Nat) : Int) - kk := i_sub (nI_toInt (by omega)) tk (by omega)
    have ts2 : (nI (s % gN g 1) + (nI j - nI kk)).toInt = ((s % gN g 1 : Nat) : Int) + ((j : Int) - kk) := i_add (nI_toInt (by omega)) tj (by omega)
    have en : (nI j - nI kk) + (1 : Int32) = nI (j + 1) - nI kk := by
      rw [← Int32.toInt_inj, i_add tj (show (1 : Int32).toInt = 1 by decide) (by omega), i_sub (nI_toInt (show j + 1 < 2 ^ 31 by omega)) tk (by omega)]
      omega
    refine v186_43_206 ⟨fun q => absurd (i_lt q) (by omega), fun _ => bAt (d := d) hG hI eg ts1 ts2 (fun w hw => ?_)⟩
    rw [en]
    refine ih (j + 1) _ (by omega) (fun u hu => ?_)
    rw [b5_or, h u hu, hw u hu]
    unfold cB
    cases seB g u
    · rfl
    · rw [Bool.true_and, Bool.true_and, Bool.true_and, ← Bool.decide_and, ← Bool.decide_or]
      exact decide_eq_decide.mpr (by omega)
end RA0
end
