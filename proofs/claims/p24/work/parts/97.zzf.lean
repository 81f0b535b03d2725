/-! drawn, on both sides -/
section TRK
/-- the SEAT with m lesser ones among p -/
def nthR (p : Nat → Bool) (m s : Nat) : Prop := s < 64 ∧ p s = true ∧ nb p s = m
theorem nth_u {p : Nat → Bool} {m s t : Nat} (h : nthR p m s) (h2 : nthR p m t) : t = s := by
  have k : ∀ a c, nthR p m a → nthR p m c → ¬ a < c := by
    intro a c ha hc hl
    have e := nb_s p a
    rw [if_pos ha.2.1] at e
    have := nb_mo (p := p) (a := a + 1) c (by omega)
    have := ha.2.2
    have := hc.2.2
    omega
  have k1 := k s t h h2
  have k2 := k t s h2 h
  omega
def drP (p : Nat → Bool) (s u : Nat) : Bool := p u && !decide (u = s)
def dwX (y : Int32) : Int32 := y * (1103515245 : Int32) + (12345 : Int32)
def dwE (y : Int32) : Int32 := ((dwX y).toUInt32 >>> ((8 : Int32).toUInt32 &&& Int32.toUInt32 31)).toInt32
def dwN (y : Int32) (a : Nat) : Nat := (dwE y).toInt.toNat % a
/-- n draws: who is left -/
def dwR : Nat → Int32 → (Nat → Bool) → (Nat → Bool) → Prop
  | 0, _, p, q => q = p
  | n + 1, y, p, q => ∃ s, nthR p (dwN y (nb p 64)) s ∧ dwR n (dwX y) (drP p s) q
theorem dwR_u : ∀ (n : Nat) (y : Int32) (p q r : Nat → Bool), dwR n y p q → dwR n y p r → r = q := by
  intro n
  induction n with
  | zero =>
    intro y p q r h1 h2
    exact Eq.trans h2 (Eq.symm h1)
  | succ n ih =>
    intro y p q r h1 h2
    obtain ⟨s, a, h1⟩ := h1
    obtain ⟨t, c, h2⟩ := h2
    have e := nth_u a c
    subst e
    exact ih _ _ _ _ h1 h2
theorem dwE_n (y : Int32) : dwE y = nI (dwE y).toInt.toNat ∧ (dwE y).toInt.toNat < 16777216 := by
  have k : ∃ E, E < 16777216 ∧ dwE y = nI E := by
    refine ⟨(dwX y).toBitVec.toNat / 2 ^ 8, ?_, nI_bv ?_⟩
    · have := (dwX y).toBitVec.isLt
      omega
    · show ((dwX y).toBitVec >>> (((8 : Int32).toUInt32 &&& Int32.toUInt32 31).toBitVec % 32)).toNat = _
      rw [BitVec.ushiftRight_eq', BitVec.toNat_ushiftRight, Nat.shiftRight_eq_div_pow, show ((((8 : Int32).toUInt32 &&& Int32.toUInt32 31).toBitVec % 32)).toNat = 8 by decide]
  obtain ⟨E, hE, e⟩ := k
  rw [e, nI_tn (by omega)]
  exact ⟨rfl, hE⟩
theorem drP_n {p : Nat → Bool} {s : Nat} (hs : p s = true) : ∀ n, nb (drP p s) n + (if s < n then 1 else 0) = nb p n := by
  intro n
  induction n with
  | zero => rfl
  | succ n ih =>
    have e1 := nb_s p n
    have e2 := nb_s (drP p s) n
    by_cases z : n = s
    · subst z
      have f : drP p n n = false := by
        unfold drP
        rw [decide_eq_true rfl, Bool.not_true, Bool.and_false]
      rw [f, if_neg (by decide)] at e2
      rw [hs, if_pos rfl] at e1
      rw [if_neg (by omega)] at ih
      rw [if_pos (by omega)]
      omega
    · have f : drP p s n = p n := by
        unfold drP
        rw [decide_eq_false z, Bool.not_false, Bool.and_true]
      rw [f] at e2
      by_cases y : s < n
      · rw [if_pos y] at ih
        rw [if_pos (by omega)]
        omega
      · rw [if_neg y] at ih
        rw [if_neg (by omega)]
        omega
variable {S : Nat × (Nat → Int32)} {d : Nat} {x : mX} {I I1 I2 : rI0} {J J1 J2 : rJ0} {g b : Nat → Int32} {W : Nat → lV} {P H : Nat → Bool}
/-- the class: withoutNth -/
theorem c144x {p : Nat → Bool} {v : Int64} {m : Nat} {Q : Int64 → rI0 → rJ0 → Prop} (hb : ∀ u, u < 64 → bits5 v u = p u) (hm : m < nb p 64) (k : ∀ s w, nthR p m s → (∀ u, u < 64 → bits5 w u = drP p s u) → Q w I J) : wcJ S (d + 1) 144 [.long v, .int (nI m)] x I J Q := by
  have n64 := nb_le (p := p) 64
  have lp : ∀ (f s : Nat), s + f = 64 → nb p s ≤ m → wp S (d + 1) 144 5 [some (.long v), none, some (.int (nI m)), some (.int (nI (nb p s))), some (.int (nI s))] [] (wv x I J) (rJ x Q) := by
    intro f
    induction f with
    | zero =>
      intro s hs hl
      have : s = 64 := by omega
      subst this
      omega
    | succ f ih =>
      intro s hs hl
      have nl := nb_le (p := p) s
      have e := nb_s p s
      have t := ih (s + 1) (by omega)
      refine v144_5 ⟨fun _ => bO (by omega) ?_, fun q => absurd (nI_lt (b := 64) (by omega) (by omega)) q⟩
      rw [hb s (by omega)]
      by_cases z : p s = true
      · rw [if_pos z] at e
        rw [if_pos z]
        refine ⟨fun _ => ⟨fun w => ?_, fun w => ?_⟩, fun q => absurd rfl q⟩
        · have w := nI_inj (by omega) (by omega) w
          refine k s _ ⟨by omega, z, w⟩ (fun u hu => ?_)
          rw [b5_and, b5_not hu, b5_1 (by omega), hb u hu]
          rfl
        · have ne : nb p s ≠ m := fun y => w (by rw [y])
          rw [e] at t
          rw [← nI_succ, ← nI_succ]
          exact t (by omega)
      · rw [if_neg z, Nat.add_zero] at e
        rw [if_neg z]
        refine ⟨fun q => absurd q (by decide), fun _ => ?_⟩
        rw [e] at t
        rw [← nI_succ]
        exact t hl
  exact c144 (lp 64 0 (by omega) (Nat.zero_le _))
theorem nI_sb {a c : Nat} (h : c ≤ a) : nI a - nI c = nI (a - c) := by
  have e : nI a = nI (a - c) + nI c := by rw [nI_add, Nat.sub_add_cancel h]
  rw [e, Int32.add_sub_cancel]
/-- the class: drawn -/
theorem xDrawn {p1 p2 : Int32} {Q : Int32 → rI0 → rJ0 → Prop} (hC : CE g W P H I J) (k0 : ¬ (1 ≤ p1.toInt ∧ p1.toInt ≤ (nb (seB g) 64 : Int)) → Q 0 I J) (k1 : (1 ≤ p1.toInt ∧ p1.toInt ≤ (nb (seB g) 64 : Int)) → ∀ q v, dwR p1.toInt.toNat p2 (seB g) q → (∀ u, u < 64 → bits5 v u = (seB g u && !q u)) → Q 1 (mSet I 31 6 0) (mSet J 3 5 v)) : wcI S (d + 2) 134 [.ref 0, .int p1, .int p2] x I J Q := by
  have n64 := nb_le (p := seB g) 64
  have hb := hC.2.1.2.2.2.2.1
  have l1 : (1 : Int32).toInt = 1 := by decide
  refine c134_0 (d := d + 1) (bcX ?_)
  rw [pc_se hb]
  refine ⟨fun q => k0 (fun w => ?_), fun q => ⟨fun q2 => k0 (fun w => ?_), fun q2 => ?_⟩⟩
  · have := i_lt q
    omega
  · have := i_lt q2
    rw [nI_toInt (by omega)] at this
    omega
  have q := i_nlt q
  have q2 := i_nlt q2
  rw [nI_toInt (by omega)] at q2
  rw [l1] at q
  have K := k1 ⟨q, q2⟩
  obtain ⟨n, en, hn1, hn⟩ : ∃ n : Nat, p1 = nI n ∧ 1 ≤ n ∧ n ≤ nb (seB g) 64 := by
    obtain ⟨n, h1, h2⟩ := i_nat (l := p1) (n := nb (seB g) 64) (by omega) (fun z => by have := i_lt z; rw [show (0 : Int32).toInt = 0 by decide] at this; omega) (fun z => by have := i_lt z; rw [nI_toInt (by omega)] at this; omega)
    refine ⟨n, h2, ?_, h1⟩
    rw [h2, nI_toInt (by omega)] at q
    omega
  subst en
  rw [nI_tn (by omega)] at K
  have lp : ∀ (m i : Nat) (w : Int64) (y : Int32) (p : Nat → Bool), i + m = n → nb p 64 + i = nb (seB g) 64 → (∀ u, u < 64 → bits5 w u = p u) → (∀ r, dwR m y p r → dwR n p2 (seB g) r) → wp S (d + 2) 134 44 [some (.ref 0), some (.int (nI n)), some (.int p2), some (.int (nI (nb (seB g) 64))), some (.long w), none, some (.int y), some (.int (nI i))] [] (wv x I J) (rI x Q) := by
    intro m
    induction m with
    | zero =>
      intro i w y p hi hp hw hr
      refine v134_0_44 ⟨fun z => absurd z (nI_nlt (by omega) (by omega)), fun _ => v134_0_91 (c6_31 (K p _ (hr p rfl) (fun u hu => ?_)))⟩
      rw [b5_and, b5_not hu, hw u hu, hb u hu]
    | succ m ih =>
      intro i w y p hi hp hw hr
      have e := nI_sb (a := nb (seB g) 64) (c := i) (by omega)
      have e2 : nb (seB g) 64 - i = nb p 64 := by omega
      rw [e2] at e
      have p64 := nb_le (p := p) 64
      have E := dwE_n y
      refine v134_0_44 (d := d + 1) ⟨fun _ => ⟨fun _ => ⟨?_, ?_⟩, fun z => absurd (nI_lt (by omega) (by omega)) z⟩, fun z => absurd (nI_lt (by omega) (by omega)) z⟩
      · rw [e]
        exact fun z => absurd (nI_inj (c := 0) (by omega) (by omega) z) (by omega)
      · rw [e]
        show wcJ S (d + 1) 144 [.long w, .int (dwE y - dwE y / nI (nb p 64) * nI (nb p 64))] x I J _
        rw [E.1, md32 (by omega) (by omega)]
        refine c144x (p := p) hw (Nat.mod_lt _ (by omega)) (fun s w2 hs hw2 => ?_)
        have c := drP_n hs.2.1 64
        rw [if_pos hs.1] at c
        rw [← nI_succ]
        exact ih (i + 1) w2 (dwX y) (drP p s) (by omega) (by omega) hw2 (fun r h => hr r ⟨s, hs, h⟩)
  exact lp n 0 (J 4 5) p2 (seB g) (by omega) (by omega) hb (fun r h => h)
theorem s_0 {v : Int32} : v - 0 = v := Int32.sub_zero v
/-- the reference: the SEAT drawn -/
theorem r242s {p : Nat → Bool} {had : Int64} {m : Nat} {l1 l2 l5 : Int32} {Q : Int32 → rI0 → rJ0 → Prop} (hR : RH g W I J) (hp : ∀ u, u < 64 → p u = (seB g u && !bits5 had u)) (hm : m < nb p 64) (K : ∀ s, nthR p m s → wp S (d + 2) 242 31 [some (.ref 43), some (.int l1), some (.int l2), some (.long (had ||| ((1 : Int64) <<< ((nI s).toInt64 &&& 63)))), none, some (.int (l5 + 1)), none, none] [] (wv x I J) (rI x Q)) : ∀ (f u : Nat), u + f = 64 → nb p u ≤ m → wp S (d + 2) 242 55 [some (.ref 43), some (.int l1), some (.int l2), some (.long had), none, some (.int l5), some (.int (nI (m - nb p u))), some (.int (nI u))] [] (wv x I J) (rI x Q) := by
  have n64 := nb_le (p := p) 64
  have hG := hR.1
  have hI := hR.2.1
  have eg := hR.2.2.2.2.1
  intro f
  induction f with
  | zero =>
    intro u hu hl
    have : u = 64 := by omega
    subst this
    omega
  | succ f ih =>
    intro u hu hl
    have e := nb_s p u
    have t := ih (u + 1) (by omega)
    have nofree : p u = false → wp S (d + 2) 242 55 [some (.ref 43), some (.int l1), some (.int l2), some (.long had), none, some (.int l5), some (.int (nI (m - nb p u) - (0 : Int32))), some (.int (nI u + 1))] [] (wv x I J) (rI x Q) := by
      intro hf
      rw [hf, if_neg (by decide), Nat.add_zero] at e
      rw [e] at t
      rw [← nI_succ, s_0]
      exact t hl
    have is0 : seB g u = false → ∀ Q : Int32 → rI0 → rJ0 → Prop, Q 0 I J → wcI S (d + 1) 183 [.ref 43, .int (nI u)] x I J Q := fun hs Q q => rIs (d := d) hG hI eg (fun s h1 h2 h3 h4 => by
      rw [seI_n (by omega), hs] at h4
      cases h4) (fun _ => q)
    have is1 : seB g u = true → ∀ Q : Int32 → rI0 → rJ0 → Prop, Q 1 I J → wcI S (d + 1) 183 [.ref 43, .int (nI u)] x I J Q := fun hs Q q => rIs (d := d) hG hI eg (fun _ _ _ _ _ => q) (fun h4 => by
      rw [seI_n (by omega), hs] at h4
      cases h4)
    by_cases hs : seB g u = true
    · by_cases hh : bits5 had u = true
      · have pf : p u = false := by rw [hp u (by omega), hh, Bool.not_true, Bool.and_false]
        have q := (hb_iff (w := had) (u := u) (by omega)).mpr hh
        exact v242_43_55 (d := d + 1) (is1 hs _ ⟨fun z => absurd z (by decide), fun _ => c153 ⟨fun _ => ⟨fun z => absurd z (by decide), fun _ => v242_43_78 (d := d + 1) (is1 hs _ ⟨fun z => absurd z (by decide), fun _ => c153 ⟨fun _ => ⟨fun z => absurd z (by decide), fun _ => nofree pf⟩, fun z => absurd q z⟩⟩)⟩, fun z => absurd q z⟩⟩)
      · have hh' : bits5 had u = false := Bool.eq_false_iff.mpr hh
        have pt : p u = true := by rw [hp u (by omega), hs, hh']; rfl
        have q : ¬ lg_cmp ((had >>> ((nI u).toInt64 &&& 63)) &&& 1) 1 = 0 := fun z => hh ((hb_iff (by omega)).mp z)
        rw [pt, if_pos rfl] at e
        refine v242_43_55 (d := d + 1) (is1 hs _ ⟨fun z => absurd z (by decide), fun _ => c153 ⟨fun z => absurd z q, fun _ => ⟨fun _ => ⟨fun q6 => ?_, fun q6 => ?_⟩, fun z => absurd rfl z⟩⟩⟩)
        · have q6 := (nI_ltI (a := 0) (by omega) (by omega)).mp q6
          refine v242_43_78 (d := d + 1) (is1 hs _ ⟨fun z => absurd z (by decide), fun _ => c153 ⟨fun z => absurd z q, fun _ => ⟨fun _ => ?_, fun z => absurd rfl z⟩⟩⟩)
          obtain ⟨w, ew⟩ : ∃ w, m - nb p u = w + 1 := ⟨m - nb p u - 1, by omega⟩
          rw [e, show m - (nb p u + 1) = w by omega] at t
          rw [ew, nI_pr, ← nI_succ]
          exact t (by omega)
        · have q6 : ¬ 0 < m - nb p u := fun z => q6 (nI_lt (a := 0) z (by omega))
          exact K u ⟨by omega, pt, by omega⟩
    · have hs' : seB g u = false := Bool.eq_false_iff.mpr hs
      have pf : p u = false := by rw [hp u (by omega), hs', Bool.false_and]
      exact v242_43_55 (d := d + 1) (is0 hs' _ ⟨fun _ => v242_43_78 (d := d + 1) (is0 hs' _ ⟨fun _ => nofree pf, fun z => absurd rfl z⟩), fun z => absurd rfl z⟩)
/-- what drawn of the reference leaves as it was -/
def FDy (I : rI0) (I' : rI0) : Prop := (∀ b, b ≠ 43 → I' b = I b) ∧ ∀ q, q ≠ 0 → q ≠ 64 → I' 43 q = I 43 q
/-- the reference: drawn -/
theorem yDrawn {p1 p2 : Int32} {Q : Int32 → rI0 → rJ0 → Prop} (hR : RH g W I J) (k0 : ¬ (1 ≤ p1.toInt ∧ p1.toInt ≤ (nb (seB g) 64 : Int)) → Q 0 (mSet I 43 0 0) J) (k1 : (1 ≤ p1.toInt ∧ p1.toInt ≤ (nb (seB g) 64 : Int)) → ∀ q v I', dwR p1.toInt.toNat p2 (seB g) q → (∀ u, u < 64 → bits5 v u = (seB g u && !q u)) → FDy I I' → RH g W I' J → Q 1 I' (mSet J 43 16 v)) : wcI S (d + 3) 242 [.ref 43, .int p1, .int p2] x I J Q := by
  have n64 := nb_le (p := seB g) 64
  have z2 : (2 : Int32).toNatClampNeg = 2 := by decide
  refine c242_43 (d := d + 2) ⟨by decide, ?_⟩
  rw [z2, hR.2.2.2.2.1, g2_n hR.2.2.1]
  refine rIn (a := 1) (b := nb (seB g) 64) (by decide) (nI_toInt (by omega)) (by omega) (fun n h1 h2 en _ => ⟨fun z => absurd z (by decide), fun _ => ?_⟩) (fun hf => ⟨fun _ => k0 (fun w => ?_), fun z => absurd rfl z⟩)
  · subst en
    have K := k1 ⟨by rw [nI_toInt (by omega)]; omega, by rw [nI_toInt (by omega)]; omega⟩
    rw [nI_tn (by omega)] at K
    have lp : ∀ (m i : Nat) (had : Int64) (I1 : rI0) (p : Nat → Bool), i + m = n → nb p 64 + i = nb (seB g) 64 → (∀ u, u < 64 → p u = (seB g u && !bits5 had u)) → (∀ u, u < 64 → bits5 had u = true → seB g u = true) → FDy I I1 → RH g W I1 J → (∀ r, dwR m (I1 43 64) p r → dwR n p2 (seB g) r) → wp S (d + 3) 242 31 [some (.ref 43), some (.int (nI n)), some (.int p2), some (.long had), none, some (.int (nI i)), none, none] [] (wv x I1 J) (rI x Q) := by
      intro m
      induction m with
      | zero =>
        intro i had I1 p hi hp hq hs f r hr
        refine v242_43_31 ⟨fun z => absurd z (nI_nlt (by omega) (by omega)), fun _ => K p had I1 (hr p rfl) (fun u hu => ?_) f r⟩
        rw [hq u hu]
        cases z : bits5 had u with
        | false => cases seB g u <;> rfl
        | true => rw [hs u hu z]; rfl
      | succ m ih =>
        intro i had I1 p hi hp hq hs f r hr
        have e := nI_sb (a := nb (seB g) 64) (c := i) (by omega)
        have e2 : nb (seB g) 64 - i = nb p 64 := by omega
        rw [e2] at e
        have p64 := nb_le (p := p) 64
        have E := dwE_n (I1 43 64)
        refine v242_43_31 (d := d + 2) ⟨fun _ => ⟨by decide, ?_⟩, fun z => absurd (nI_lt (by omega) (by omega)) z⟩
        rw [z2, r.2.2.2.2.1, g2_n r.2.2.1, e]
        refine c241_43 ⟨fun z => absurd (nI_inj (c := 0) (by omega) (by omega) z) (by omega), ?_⟩
        show wp S (d + 3) 242 55 [some (.ref 43), some (.int (nI n)), some (.int p2), some (.long had), none, some (.int (nI i)), some (.int (dwE (I1 43 64) - dwE (I1 43 64) / nI (nb p 64) * nI (nb p 64))), some (.int (0 : Int32))] [] (wv x (mSet I1 43 64 (dwX (I1 43 64))) J) (rI x Q)
        rw [E.1, md32 (by omega) (by omega)]
        have r2 : RH g W (mSet I1 43 64 (dwX (I1 43 64))) J := r.q (by decide)
        have t : ∀ M : Nat, M < nb p 64 → (∀ s, nthR p M s → wp S (d + 3) 242 31 [some (.ref 43), some (.int (nI n)), some (.int p2), some (.long (had ||| ((1 : Int64) <<< ((nI s).toInt64 &&& 63)))), none, some (.int (nI i + 1)), none, none] [] (wv x (mSet I1 43 64 (dwX (I1 43 64))) J) (rI x Q)) → wp S (d + 3) 242 55 [some (.ref 43), some (.int (nI n)), some (.int p2), some (.long had), none, some (.int (nI i)), some (.int (nI M)), some (.int (0 : Int32))] [] (wv x (mSet I1 43 64 (dwX (I1 43 64))) J) (rI x Q) := fun M hM K2 => by
          have t := r242s (d := d + 1) (S := S) (x := x) (l1 := nI n) (l2 := p2) (l5 := nI i) (Q := Q) r2 hq hM K2 64 0 (by omega) (Nat.zero_le _)
          rw [show nb p 0 = 0 from rfl, Nat.sub_zero] at t
          exact t
        refine t _ (Nat.mod_lt _ (by omega)) (fun s hs1 => ?_)
        clear t
        have c := drP_n hs1.2.1 64
        rw [if_pos hs1.1] at c
        have se : seB g s = true := by
          have t := hs1.2.1
          rw [hq s hs1.1, Bool.and_eq_true] at t
          exact t.1
        rw [← nI_succ]
        refine ih (i + 1) _ _ (drP p s) (by omega) (by omega) (fun u hu => ?_) (fun u hu hb => ?_) ⟨fun b hb => (mSet_ne hb).trans (f.1 b hb), fun q h1 h2 => (mS_nk h2).trans (f.2 q h1 h2)⟩ r2 (fun r h => hr r ⟨s, hs1, by rw [mSet_at] at h; exact h⟩)
        · rw [b5_or, b5_1 hs1.1]
          unfold drP
          rw [hq u hu, Bool.not_or, Bool.and_assoc]
        · rw [b5_or, b5_1 hs1.1, Bool.or_eq_true, decide_eq_true_iff] at hb
          rcases hb with hb | hb
          · exact hs u hu hb
          · rw [hb]
            exact se
    refine lp n 0 0 _ (seB g) (by omega) (by omega) (fun u hu => ?_) (fun u hu hb => ?_) ⟨fun b hb => by rw [mSet_ne hb, mSet_ne hb], fun q h1 h2 => by rw [mS_nk h2, mS_nk h1]⟩ ((hR.q (by decide)).q (by decide)) (fun r h => by rw [mSet_at] at h; exact h)
    · rw [b5_0, Bool.not_false, Bool.and_true]
    · rw [b5_0] at hb
      cases hb
  · have := of_decide_eq_false hf
    omega
end TRK
