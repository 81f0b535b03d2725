section
/-! drawn, on both sides -/
section TRK
/-- the SEAT with m lesser ones among p -/
def nthR (p : Nat → Bool) (m s : Nat) : Prop := s < 64 ∧ p s = true ∧ nb p s = m
theorem nth_u {p : Nat → Bool} {m s t : Nat} (h : nthR p m s) (h2 : nthR p m t) : t = s := by
  have k : ∀ a c, nthR p m a → nthR p m c → ¬ a < c := by
    intro a c ha hc hl
    have e := nb_s p a
    rw [if_pos ha.2.1] at e
    have := nb_mo (p := p) (a := a + 1) c (by omega)
    have := ha.2.2
    have := hc.2.2
    omega
  have k1 := k s t h h2
  have k2 := k t s h2 h
  omega
def drP (p : Nat → Bool) (s u : Nat) : Bool := p u && !decide (u = s)
def dwX (y : Int32) : Int32 := y * (1103515245 : Int32) + (12345 : Int32)
def dwE (y : Int32) : Int32 := ((dwX y).toUInt32 >>> ((8 : Int32).toUInt32 &&& Int32.toUInt32 31)).toInt32
def dwN (y : Int32) (a : Nat) : Nat := (dwE y).toInt.toNat % a
/-- n draws: who is left -/
def dwR : Nat → Int32 → (Nat → Bool) → (Nat → Bool) → Prop
  | 0, _, p, q => q = p
  | n + 1, y, p, q => ∃ s, nthR p (dwN y (nb p 64)) s ∧ dwR n (dwX y) (drP p s) q
theorem dwR_u : ∀ (n : Nat) (y : Int32) (p q r : Nat → Bool), dwR n y p q → dwR n y p r → r = q := by
  intro n
  induction n with
  | zero =>
    intro y p q r h1 h2
    exact Eq.trans h2 (Eq.symm h1)
  | succ n ih =>
    intro y p q r h1 h2
    obtain ⟨s, a, h1⟩ := h1
    obtain ⟨t, c, h2⟩ := h2
    have e := nth_u a c
    subst e
    exact ih _ _ _ _ h1 h2
theorem dwE_n (y : Int32) : dwE y = nI (dwE y).toInt.toNat ∧ (dwE y).toInt.toNat < 16777216 := by
  have k : ∃ E, E < 16777216 ∧ dwE y = nI E := by
    refine ⟨(dwX y).toBitVec.toNat / 2 ^ 8, ?_, nI_bv ?_⟩
    · have := (dwX y).toBitVec.isLt
      omega
    · show ((dwX y).toBitVec >>> (((8 : Int32).toUInt32 &&& Int32.toUInt32 31).toBitVec % 32)).toNat = _
      rw [BitVec.ushiftRight_eq', BitVec.toNat_ushiftRight, Nat.shiftRight_eq_div_pow, show ((((8 : Int32).toUInt32 &&& Int32.toUInt32 31).toBitVec % 32)).toNat = 8 by decide]
  obtain ⟨E, hE, e⟩ := k
  rw [e, nI_tn (by omega)]
  exact ⟨rfl, hE⟩
theorem drP_n {p : Nat → Bool} {s : Nat} (hs : p s = true) : ∀ n, nb (drP p s) n + (if s < n then 1 else 0) = nb p n := by
  intro n
  induction n with
  | zero => rfl
  | succ n ih =>
    have e1 := nb_s p n
    have e2 := nb_s (drP p s) n
    by_cases z : n = s
    · subst z
      have f : drP p n n = false := by
        unfold drP
        rw [decide_eq_true rfl, Bool.not_true, Bool.and_false]
      rw [f, if_neg (by decide)] at e2
      rw [hs, if_pos rfl] at e1
      rw [if_neg (by omega)] at ih
      rw [if_pos (by omega)]
      omega
    · have f : drP p s n = p n := by
        unfold drP
        rw [decide_eq_false z, Bool.not_false, Bool.and_true]
      rw [f] at e2
      by_cases y : s < n
      · rw [if_pos y] at ih
        rw [if_pos (by omega)]
        omega
      · rw [if_neg y] at ih
        rw [if_neg (by omega)]
        omega
variable {S : Nat × (Nat → Int32)} {d : Nat} {x : mX} {I I1 I2 : rI0} {J J1 J2 : rJ0} {g b : Nat → Int32} {W : Nat → lV} {P H : Nat → Bool}
/-- the class: withoutNth -/
theorem c144x {p : Nat → Bool} {v : Int64} {m : Nat} {Q : Int64 → rI0 → rJ0 → Prop} (hb : ∀ u, u < 64 → bits5 v u = p u) (hm : m < nb p 64) (k : ∀ s w, nthR p m s → (∀ u, u < 64 → bits5 w u = drP p s u) → Q w I J) : wcJ S (d + 1) 144 [.long v, .int (nI m)] x I J Q := by
  have n64 := nb_le (p := p) 64
  have lp : ∀ (f s : Nat), s + f = 64 → nb p s ≤ m → wp S (d + 1) 144 5 [some (.long v), none, some (.int (nI m)), some (.int (nI (nb p s))), some (.int (nI s))] [] (wv x I J) (rJ x Q) := by
    intro f
    induction f with
    | zero =>
      intro s hs hl
      have : s = 64 := by omega
      subst this
      omega
    | succ f ih =>
      intro s hs hl
      have nl := nb_le (p := p) s
      have e := nb_s p s
      have t := ih (s + 1) (by omega)
      refine v144_5 ⟨fun _ => bO (by omega) ?_, fun q => absurd (nI_lt (b := 64) (by omega) (by omega)) q⟩
      rw [hb s (by omega)]
      by_cases z : p s = true
      · rw [if_pos z] at e
        rw [if_pos z]
        refine ⟨fun _ => ⟨fun w => ?_, fun w => ?_⟩, fun q => absurd rfl q⟩
        · have w := nI_inj (by omega) (by omega) w
          refine k s _ ⟨by omega, z, w⟩ (fun u hu => ?_)
          rw [b5_and, b5_not hu, b5_1 (by omega), hb u hu]
          rfl
        · have ne : nb p s ≠ m := fun y => w (by rw [y])
          rw [e] at t
          rw [← nI_succ, ← nI_succ]
          exact t (by omega)
      · rw [if_neg z, Nat.add_zero] at e
        rw [if_neg z]
        refine ⟨fun q => absurd q (by decide), fun _ => ?_⟩
        rw [e] at t
        rw [← nI_succ]
        exact t hl
  exact c144 (lp 64 0 (by omega) (Nat.zero_le _))
theorem nI_sb {a c : Nat} (h : c ≤ a) : nI a - nI c = nI (a - c) := by
  have e : nI a = nI (a - c) + nI c := by rw [nI_add, Nat.sub_add_cancel h]
  rw [e, Int32.add_sub_cancel]
/-- the class: drawn -/
theorem xDrawn {p1 p2 : Int32} {Q : Int32 → rI0 → rJ0 → Prop} (hC : CE g W P H I J) (k0 : ¬ (1 ≤ p1.toInt ∧ p1.toInt ≤ (nb (seB g) 64 : Int)) → Q 0 I J) (k1 : (1 ≤ p1.toInt ∧ p1.toInt ≤ (nb (seB g) 64 : Int)) → ∀ q v, dwR p1.toInt.toNat p2 (seB g) q → (∀ u, u < 64 → bits5 v u = (seB g u && !q u)) → Q 1 (mSet I 31 6 0) (mSet J 3 5 v)) : wcI S (d + 2) 134 [.ref 0, .int p1, .int p2] x I J Q := by
  have n64 := nb_le (p := seB g) 64
  have hb := hC.2.1.2.2.2.2.1
  have l1 : (1 : Int32).toInt = 1 := by decide
  refine c134_0 (d := d + 1) (bcX ?_)
  rw [pc_se hb]
  refine ⟨fun q => k0 (fun w => ?_), fun q => ⟨fun q2 => k0 (fun w => ?_), fun q2 => ?_⟩⟩
  · have := i_lt q
    omega
  · have := i_lt q2
    rw [nI_toInt (by omega)] at this
    omega
  have q := i_nlt q
  have q2 := i_nlt q2
  rw [nI_toInt (by omega)] at q2
  rw [l1] at q
  have K := k1 ⟨q, q2⟩
  obtain ⟨n, en, hn1, hn⟩ : ∃ n : Nat, p1 = nI n ∧ 1 ≤ n ∧ n ≤ nb (seB g) 64 := by
    obtain ⟨n, h1, h2⟩ := i_nat (l := p1) (n := nb (seB g) 64) (by omega) (fun z => by have := i_lt z; rw [show (0 : Int32).toInt = 0 by decide] at this; omega) (fun z => by have := i_lt z; rw [nI_toInt (by omega)] at this; omega)
    refine ⟨n, h2, ?_, h1⟩
    rw [h2, nI_toInt (by omega)] at q
    omega
  subst en
  rw [nI_tn (by omega)] at K
  have lp : ∀ (m i : Nat) (w : Int64) (y : Int32) (p : Nat → Bool), i + m = n → nb p 64 + i = nb (seB g) 64 → (∀ u, u < 64 → bits5 w u = p u) → (∀ r, dwR m y p r → dwR n p2 (seB g) r) → wp S (d + 2) 134 44 [some (.ref 0), some (.int (nI n)), some (.int p2), some (.int (nI (nb (seB g) 64))), some (.long w), none, some (.int y), some (.int (nI i))] [] (wv x I J) (rI x Q) := by
    intro m
    induction m with
    | zero =>
      intro i w y p hi hp hw hr
      refine v134_0_44 ⟨fun z => absurd z (nI_nlt (by omega) (by omega)), fun _ => v134_0_91 (c6_31 (K p _ (hr p rfl) (fun u hu => ?_)))⟩
      rw [b5_and, b5_not hu, hw u hu, hb u hu]
    | succ m ih =>
      intro i w y p hi hp hw hr
      have e := nI_sb (a := nb (seB g) 64) (c := i) (by omega)
      have e2 : nb (seB g) 64 - i = nb p 64 := by omega
      rw [e2] at e
      have p64 := nb_le (p := p) 64
      have E := dwE_n y
      refine v134_0_44 (d := d + 1) ⟨fun _ => ⟨fun _ => ⟨?_, ?_⟩, fun z => absurd (nI_lt (by omega) (by omega)) z⟩, fun z => absurd (nI_lt (by omega) (by omega)) z⟩
      · rw [e]
        exact fun z => absurd (nI_inj (c := 0) (by omega) (by omega) z) (by omega)
      · rw [e]
        show wcJ S (d + 1) 144 [.long w, .int (dwE y - dwE y / nI (nb p 64) * nI (nb p 64))] x I J _
        rw [E.1, md32 (by omega) (by omega)]
        refine c144x (p := p) hw (Nat.mod_lt _ (by omega)) (fun s w2 hs hw2 => ?_)
        have c := drP_n hs.2.1 64
        rw [if_pos hs.1] at c
        rw [← nI_succ]
        exact ih (i + 1) w2 (dwX y) (drP p s) (by omega) (by omega) hw2 (fun r h => hr r ⟨s, hs, h⟩)
  exact lp n 0 (J 4 5) p2 (seB g) (by omega) (by omega) hb (fun r h => h)
theorem s_0 {v : Int32} : v - 0 = v := Int32.sub_zero v
/-- the reference: the SEAT drawn -/
theorem r242s {p : Nat → Bool} {had : Int64} {m : Nat} {l1 l2 l5 : Int32} {Q : Int32 → rI0 → rJ0 → Prop} (hR : RH g W I J) (hp : ∀ u, u < 64 → p u = (seB g u && !bits5 had u)) (hm : m < nb p 64) (K : ∀ s, nthR p m s → wp S (d + 2) 242 31 [some (.ref 43), some (.int l1), some (.int l2), some (.long (had ||| ((1 : Int64) <<< ((nI s).toInt64 &&& 63)))), none, some (.int (l5 + 1)), none, none] [] (wv x I J) (rI x Q)) : ∀ (f u : Nat), u + f = 64 → nb p u ≤ m → wp S (d + 2) 242 55 [some (.ref 43), some (.int l1), some (.int l2), some (.long had), none, some (.int l5), some (.int (nI (m - nb p u))), some (.int (nI u))] [] (wv x I J) (rI x Q) := by
  have n64 := nb_le (p := p) 64
  have hG := hR.1
  have hI := hR.2.1
  have eg := hR.2.2.2.2.1
  intro f
  induction f with
  | zero =>
    intro u hu hl
    have : u = 64 := by omega
    subst this
    omega
  | succ f ih =>
    intro u hu hl
    have e := nb_s p u
    have t := ih (u + 1) (by omega)
    have nofree : p u = false → wp S (d + 2) 242 55 [some (.ref 43), some (.int l1), some (.int l2), some (.long had), none, some (.int l5), some (.int (nI (m - nb p u) - (0 : Int32))), some (.int (nI u + 1))] [] (wv x I J) (rI x Q) := by
      intro hf
      rw [hf, if_neg (by decide), Nat.add_zero] at e
      rw [e] at t
      rw [← nI_succ, s_0]
      exact t hl
    have is0 : seB g u = false → ∀ Q : Int32 → rI0 → rJ0 → Prop, Q 0 I J → wcI S (d + 1) 183 [.ref 43, .int (nI u)] x I J Q := fun hs Q q => rIs (d := d) hG hI eg (fun s h1 h2 h3 h4 => by
      rw [seI_n (by omega), hs] at h4
      cases h4) (fun _ => q)
    have is1 : seB g u = true → ∀ Q : Int32 → rI0 → rJ0 → Prop, Q 1 I J → wcI S (d + 1) 183 [.ref 43, .int (nI u)] x I J Q := fun hs Q q => rIs (d := d) hG hI eg (fun _ _ _ _ _ => q) (fun h4 => by
      rw [seI_n (by omega), hs] at h4
      cases h4)
    by_cases hs : seB g u = true
    · by_cases hh : bits5 had u = true
      · have pf : p u = false := by rw [hp u (by omega), hh, Bool.not_true, Bool.and_false]
        have q := (hb_iff (w := had) (u := u) (by omega)).mpr hh
        exact v242_43_55 (d := d + 1) (is1 hs _ ⟨fun z => absurd z (by decide), fun _ => c153 ⟨fun _ => ⟨fun z => absurd z (by decide), fun _ => v242_43_78 (d := d + 1) (is1 hs _ ⟨fun z => absurd z (by decide), fun _ => c153 ⟨fun _ => ⟨fun z => absurd z (by decide), fun _ => nofree pf⟩, fun z => absurd q z⟩⟩)⟩, fun z => absurd q z⟩⟩)
      · have hh' : bits5 had u = false := Bool.eq_false_iff.mpr hh
        have pt : p u = true := by rw [hp u (by omega), hs, hh']; rfl
        have q : ¬ lg_cmp ((had >>> ((nI u).toInt64 &&& 63)) &&& 1) 1 = 0 := fun z => hh ((hb_iff (by omega)).mp z)
        rw [pt, if_pos rfl] at e
        refine v242_43_55 (d := d + 1) (is1 hs _ ⟨fun z => absurd z (by decide), fun _ => c153 ⟨fun z => absurd z q, fun _ => ⟨fun _ => ⟨fun q6 => ?_, fun q6 => ?_⟩, fun z => absurd rfl z⟩⟩⟩)
        · have q6 := (nI_ltI (a := 0) (by omega) (by omega)).mp q6
          refine v242_43_78 (d := d + 1) (is1 hs _ ⟨fun z => absurd z (by decide), fun _ => c153 ⟨fun z => absurd z q, fun _ => ⟨fun _ => ?_, fun z => absurd rfl z⟩⟩⟩)
          obtain ⟨w, ew⟩ : ∃ w, m - nb p u = w + 1 := ⟨m - nb p u - 1, by omega⟩
          rw [e, show m - (nb p u + 1) = w by omega] at t
          rw [ew, nI_pr, ← nI_succ]
          exact t (by omega)
        · have q6 : ¬ 0 < m - nb p u := fun z => q6 (nI_lt (a := 0) z (by omega))
          exact K u ⟨by omega, pt, by omega⟩
    · have hs' : seB g u = false := Bool.eq_false_iff.mpr hs
      have pf : p u = false := by rw [hp u (by omega), hs', Bool.false_and]
      exact v242_43_55 (d := d + 1) (is0 hs' _ ⟨fun _ => v242_43_78 (d := d + 1) (is0 hs' _ ⟨fun _ => nofree pf, fun z => absurd rfl z⟩), fun z => absurd rfl z⟩)
/-- what drawn of the reference leaves as it was -/
def FDy (I : rI0) (I' : rI0) : Prop := (∀ b, b ≠ 43 → I' b = I b) ∧ ∀ q, q ≠ 0 → q ≠ 64 → I' 43 q = I 43 q
/-- the reference: drawn -/
theorem yDrawn {p1 p2 : Int32} {Q : Int32 → rI0 → rJ0 → Prop} (hR : RH g W I J) (k0 : ¬ (1 ≤ p1.toInt ∧ p1.toInt ≤ (nb (seB g) 64 : Int)) → Q 0 (mSet I 43 0 0) J) (k1 : (1 ≤ p1.toInt ∧ p1.toInt ≤ (nb (seB g) 64 : Int)) → ∀ q v I', dwR p1.toInt.toNat p2 (seB g) q → (∀ u, u < 64 → bits5 v u = (seB g u && !q u)) → FDy I I' → RH g W I' J → Q 1 I' (mSet J 43 16 v)) : wcI S (d + 3) 242 [.ref 43, .int p1, .int p2] x I J Q := by
  have n64 := nb_le (p := seB g) 64
  have z2 : (2 : Int32).toNatClampNeg = 2 := by decide
  refine c242_43 (d := d + 2) ⟨by decide, ?_⟩
  rw [z2, hR.2.2.2.2.1, g2_n hR.2.2.1]
  refine rIn (a := 1) (b := nb (seB g) 64) (by decide) (nI_toInt (by omega)) (by omega) (fun n h1 h2 en _ => ⟨fun z => absurd z (by decide), fun _ => ?_⟩) (fun hf => ⟨fun _ => k0 (fun w => ?_), fun z => absurd rfl z⟩)
  · subst en
    have K := k1 ⟨by rw [nI_toInt (by omega)]; omega, by rw [nI_toInt (by omega)]; omega⟩
    rw [nI_tn (by omega)] at K
    have lp : ∀ (m i : Nat) (had : Int64) (I1 : rI0) (p : Nat → Bool), i + m = n → nb p 64 + i = nb (seB g) 64 → (∀ u, u < 64 → p u = (seB g u && !bits5 had u)) → (∀ u, u < 64 → bits5 had u = true → seB g u = true) → FDy I I1 → RH g W I1 J → (∀ r, dwR m (I1 43 64) p r → dwR n p2 (seB g) r) → wp S (d + 3) 242 31 [some (.ref 43), some (.int (nI n)), some (.int p2), some (.long had), none, some (.int (nI i)), none, none] [] (wv x I1 J) (rI x Q) := by
      intro m
      induction m with
      | zero =>
        intro i had I1 p hi hp hq hs f r hr
        refine v242_43_31 ⟨fun z => absurd z (nI_nlt (by omega) (by omega)), fun _ => K p had I1 (hr p rfl) (fun u hu => ?_) f r⟩
        rw [hq u hu]
        cases z : bits5 had u with
        | false => cases seB g u <;> rfl
        | true => rw [hs u hu z]; rfl
      | succ m ih =>
        intro i had I1 p hi hp hq hs f r hr
        have e := nI_sb (a := nb (seB g) 64) (c := i) (by omega)
        have e2 : nb (seB g) 64 - i = nb p 64 := by omega
        rw [e2] at e
        have p64 := nb_le (p := p) 64
        have E := dwE_n (I1 43 64)
        refine v242_43_31 (d := d + 2) ⟨fun _ => ⟨by decide, ?_⟩, fun z => absurd (nI_lt (by omega) (by omega)) z⟩
        rw [z2, r.2.2.2.2.1, g2_n r.2.2.1, e]
        refine c241_43 ⟨fun z => absurd (nI_inj (c := 0) (by omega) (by omega) z) (by omega), ?_⟩
        show wp S (d + 3) 242 55 [some (.ref 43), some (.int (nI n)), some (.int p2), some (.long had), none, some (.int (nI i)), some (.int (dwE (I1 43 64) - dwE (I1 43 64) / nI (nb p 64) * nI (nb p 64))), some (.int (0 : Int32))] [] (wv x (mSet I1 43 64 (dwX (I1 43 64))) J) (rI x Q)
        rw [E.1, md32 (by omega) (by omega)]
        have r2 : RH g W (mSet I1 43 64 (dwX (I1 43 64))) J := r.q (by decide)
        have t : ∀ M : Nat, M < nb p 64 → (∀ s, nthR p M s → wp S (d + 3) 242 31 [some (.ref 43), some (.int (nI n)), some (.int p2), some (.long (had ||| ((1 : Int64) <<< ((nI s).toInt64 &&& 63)))), none, some (.int (nI i + 1)), none, none] [] (wv x (mSet I1 43 64 (dwX (I1 43 64))) J) (rI x Q)) → wp S (d + 3) 242 55 [some (.ref 43), some (.int (nI n)), some (.int p2), some (.long had), none, some (.int (nI i)), some (.int (nI M)), some (.int (0 : Int32))] [] (wv x (mSet I1 43 64 (dwX (I1 43 64))) J) (rI x Q) := fun M hM K2 => by
          have t := r242s (d := d + 1) (S := S) (x := x) (l1 := nI n) (l2 := p2) (l5 := nI i) (Q := Q) r2 hq hM K2 64 0 (by omega) (Nat.zero_le _)
          rw [show nb p 0 = 0 from rfl, Nat.sub_zero] at t
          exact t
        refine t _ (Nat.mod_lt _ (by omega)) (fun s hs1 => ?_)
        clear t
        have c := drP_n hs1.2.1 64
        rw [if_pos hs1.1] at c
        have se : seB g s = true := by
          have t := hs1.2.1
          rw [hq s hs1.1, Bool.and_eq_true] at t
          exact t.1
        rw [← nI_succ]
        refine ih (i + 1) _ _ (drP p s) (by omega) (by omega) (fun u hu => ?_) (fun u hu hb => ?_) ⟨fun b hb => (mSet_ne hb).trans (f.1 b hb), fun q h1 h2 => (mS_nk h2).trans (f.2 q h1 h2)⟩ r2 (fun r h => hr r ⟨s, hs1, by rw [mSet_at] at h; exact h⟩)
        · rw [b5_or, b5_1 hs1.1]
          unfold drP
          rw [hq u hu, Bool.not_or, Bool.and_assoc]
        · rw [b5_or, b5_1 hs1.1, Bool.or_eq_true, decide_eq_true_iff] at hb
          rcases hb with hb | hb
          · exact hs u hu hb
          · rw [hb]
            exact se
    refine lp n 0 0 _ (seB g) (by omega) (by omega) (fun u hu => ?_) (fun u hu hb => ?_) ⟨fun b hb => by rw [mSet_ne hb, mSet_ne hb], fun q h1 h2 => by rw [mS_nk h2, mS_nk h1]⟩ ((hR.q (by decide)).q (by decide)) (fun r h => by rw [mSet_at] at h; exact h)
    · rw [b5_0, Bool.not_false, Bool.and_true]
    · rw [b5_0] at hb
      cases hb
  · have := of_decide_eq_false hf
    omega
end TRK
end
section
/-! began: what it leaves as it was -/
section TRL
variable {S : Nat × (Nat → Int32)} {d : Nat} {x : mX} {I I1 I2 : rI0} {J J1 J2 : rJ0} {g b : Nat → Int32} {W : Nat → lV} {P H : Nat → Bool}
/-- the class: readSketch -/
theorem c93f {n : Nat} {Q : Int32 → rI0 → rJ0 → Prop} (hC : CE g W P H I J) (hn : n ≤ 940) (k : ∀ r J', (∀ b, b ≠ 37 → J' b = J b) → Q r I J') : wcI S (d + 2) 93 [.ref 37, .int (nI n)] x I J Q := by
  have lp : ∀ (m s : Nat) (J1 : rJ0), s + m = 64 → (∀ b, b ≠ 37 → J1 b = J b) → wp S (d + 2) 93 17 [some (.ref 37), some (.int (nI n)), some (.int (nI s))] [] (wv x I J1) (rI x Q) := by
    intro m
    induction m with
    | zero =>
      intro s J1 hs f
      exact v93_37_17 ⟨fun _ => ⟨fun q => absurd q (nI_nlt (b := 64) (by omega) (by omega)), fun _ => k _ J1 f⟩, fun _ => k _ J1 f⟩
    | succ m ih =>
      intro s J1 hs f
      have nx : ∀ J2 : rJ0, (∀ b, b ≠ 37 → J2 b = J b) → wp S (d + 2) 93 17 [some (.ref 37), some (.int (nI n)), some (.int (nI s + 1))] [] (wv x I J2) (rI x Q) := fun J2 f2 => by
        rw [← nI_succ]
        exact ih (s + 1) J2 (by omega) f2
      have st : ∀ (J2 : rJ0) (q : Nat) (v : Int64), (∀ b, b ≠ 37 → J2 b = J b) → ∀ b, b ≠ 37 → mSet J2 37 q v b = J b := fun J2 q v f2 b hb => (mSet_ne hb).trans (f2 b hb)
      have inn : ¬ mOut (nI s) 940 := nI_in (by omega) (by omega)
      have B : ∀ (J2 : rJ0) (v s2 : Int32) (w : Int64), (∀ b, b ≠ 37 → J2 b = J b) → wp S (d + 2) 93 112 [some (.ref 37), some (.int (nI n)), some (.int (nI s))] [.int v, .int s2, .long w, .ref 37] (wv x I J2) (rI x Q) := fun J2 v s2 w f2 => v93_37_112 (c143 ⟨inn, fun _ => c143 (nx _ (st _ _ _ (st _ _ _ f2))), fun _ => c143 (nx _ (st _ _ _ (st _ _ _ f2)))⟩)
      have A : ∀ (J2 : rJ0) (v s2 : Int32) (w : Int64), (∀ b, b ≠ 37 → J2 b = J b) → wp S (d + 2) 93 75 [some (.ref 37), some (.int (nI n)), some (.int (nI s))] [.int v, .int s2, .long w, .ref 37] (wv x I J2) (rI x Q) := fun J2 v s2 w f2 => v93_37_75 (c143 ⟨inn, fun _ => B _ _ _ _ (st _ _ _ f2), fun _ => ⟨inn, fun _ => B _ _ _ _ (st _ _ _ f2), fun _ => B _ _ _ _ (st _ _ _ f2)⟩⟩)
      refine v93_37_17 ⟨fun _ => ⟨fun _ => cIs (g := g) (by rw [f 4 (by decide)]; exact hC.2.1.2.2.2.2.1) (fun _ _ _ _ _ => ⟨fun z => absurd z (by decide), fun _ => ⟨inn, fun _ => k _ J1 f, fun _ => ⟨inn, fun _ => A _ _ _ _ f, fun _ => A _ _ _ _ f⟩⟩⟩) (fun _ => ⟨fun _ => nx J1 f, fun z => absurd rfl z⟩), fun q => absurd (nI_lt (b := 64) (by omega) (by omega)) q⟩, fun _ => k _ J1 f⟩
  refine c93_37 (lp 64 0 _ (by omega) (fun b hb => ?_))
  rw [mSet_ne hb, mSet_ne hb, mSet_ne hb]
/-- what beganBy of the class leaves as it was -/
def FB2 (I : rI0) (J : rJ0) (I' : rI0) (J' : rJ0) : Prop := (∀ b, b ≠ 37 → b ≠ 41 → I' b = I b) ∧ (∀ q, q ≠ 12 → q ≠ 13 → I' 37 q = I 37 q) ∧ ∀ b, b ≠ 41 → J' b = J b
theorem FB2.n (f : FB2 I J I1 J1) (h : F41 I1 J1 I2 J2) : FB2 I J I2 J2 := ⟨fun b h1 h2 => (h.1 b h2).trans (f.1 b h1 h2), fun q h1 h2 => by rw [h.1 37 (by decide)]; exact f.2.1 q h1 h2, fun b h1 => (h.2 b h1).trans (f.2.2 b h1)⟩
theorem FB2.p {a c : Int32} (f : FB2 I J I1 J1) : FB2 I J (mSet (mSet I1 37 12 a) 37 13 c) J1 := ⟨fun b h1 h2 => by rw [mSet_ne h1, mSet_ne h1]; exact f.1 b h1 h2, fun q h1 h2 => by rw [mS_nk h2, mS_nk h1]; exact f.2.1 q h1 h2, f.2.2⟩
/-- the class: beganBy -/
theorem c94f {t : Nat} {Q : Int32 → rI0 → rJ0 → Prop} (hC : CE g W P H I J) (ht : t ≤ 600) (k : ∀ r I' J', FB2 I J I' J' → Q r I' J') : wcI S (d + 23) 94 [.ref 37, .int (nI t)] x I J Q := by
  have ce : ∀ I1 J1, FB2 I J I1 J1 → CE g W P H I1 J1 := fun I1 J1 f => hC.m3 (fun b h1 h2 => f.1 b (by omega) (by omega)) (fun b h1 h2 => f.2.2 b (by omega))
  have lp : ∀ (m u : Nat) (l2 : Int32) (I1 : rI0) (J1 : rJ0), u + m = 64 → FB2 I J I1 J1 → wp S (d + 23) 94 14 [some (.ref 37), some (.int (nI t)), some (.int l2), some (.int (nI u)), none] [] (wv x I1 J1) (rI x Q) := by
    intro m
    induction m with
    | zero =>
      intro u l2 I1 J1 hu f
      exact v94_37_14 ⟨fun q => absurd q (nI_nlt (b := 64) (by omega) (by omega)), fun _ => k _ _ _ f⟩
    | succ m ih =>
      intro u l2 I1 J1 hu f
      have nxu : ∀ (l2 : Int32) (I2 : rI0) (J2 : rJ0), FB2 I J I2 J2 → wp S (d + 23) 94 14 [some (.ref 37), some (.int (nI t)), some (.int l2), some (.int (nI u + 1)), none] [] (wv x I2 J2) (rI x Q) := fun l2 I2 J2 f2 => by
        rw [← nI_succ]
        exact ih (u + 1) l2 I2 J2 (by omega) f2
      have inn : ∀ (q v : Nat) (l2 : Int32) (I2 : rI0) (J2 : rJ0), v + q = 64 → FB2 I J I2 J2 → wp S (d + 23) 94 23 [some (.ref 37), some (.int (nI t)), some (.int l2), some (.int (nI u)), some (.int (nI v))] [] (wv x I2 J2) (rI x Q) := by
        intro q
        induction q with
        | zero =>
          intro v l2 I2 J2 hv f2
          exact v94_37_23 ⟨fun w => absurd w (nI_nlt (b := 64) (by omega) (by omega)), fun _ => nxu l2 I2 J2 f2⟩
        | succ q ihq =>
          intro v l2 I2 J2 hv f2
          have nxv : ∀ (l2 : Int32) (I3 : rI0) (J3 : rJ0), FB2 I J I3 J3 → wp S (d + 23) 94 23 [some (.ref 37), some (.int (nI t)), some (.int l2), some (.int (nI u)), some (.int (nI v + 1))] [] (wv x I3 J3) (rI x Q) := fun l2 I3 J3 f3 => by
            rw [← nI_succ]
            exact ihq (v + 1) l2 I3 J3 (by omega) f3
          have N : ∀ (s1 : Int32) (I3 : rI0) (J3 : rJ0), FB2 I J I3 J3 → wp S (d + 23) 94 109 [some (.ref 37), some (.int (nI t)), some (.int l2), some (.int (nI u)), some (.int (nI v))] [.int s1, .ref 37] (wv x I3 J3) (rI x Q) := fun s1 I3 J3 f3 => v94_37_109 ⟨fun _ => ⟨fun _ => nxv _ _ _ f3.p, fun _ => nxv _ _ _ f3.p⟩, fun _ => nxv _ _ _ f3.p⟩
          have hC2 := ce I2 J2 f2
          refine v94_37_23 (d := d + 22) ⟨fun _ => cIs hC2.2.1.2.2.2.2.1 (fun u' hu' eu hsu _ => ⟨fun z => absurd z (by decide), fun _ => cIs hC2.2.1.2.2.2.2.1 (fun v' hv' ev hsv _ => ⟨fun z => absurd z (by decide), fun _ => ?_⟩) (fun hsi => ⟨fun _ => nxv l2 I2 J2 f2, fun z => absurd rfl z⟩)⟩) (fun hsi => ⟨fun _ => nxu l2 I2 J2 f2, fun z => absurd rfl z⟩), fun w => absurd (nI_lt (b := 64) (by omega) (by omega)) w⟩
          have eu : u = u' := nI_inj (by omega) (by omega) eu
          have ev : v = v' := nI_inj (by omega) (by omega) ev
          subst eu
          subst ev
          have hP2 : ∀ s, (decide (s = u) || decide (s = v)) = true → seB g s = true := fun s hs => by
            rw [Bool.or_eq_true, decide_eq_true_iff, decide_eq_true_iff] at hs
            rcases hs with z | z
            · rw [z]
              exact hsu
            · rw [z]
              exact hsv
          refine be_41 (d := d + 19) (P := fun s => decide (s = u) || decide (s = v)) (H := H) hC2.1 hC2.2.1 hP2 (fun s hs => by rw [b5_or, b5_1 (by omega), b5_1 (by omega)]) hC2.2.2.2.2.1 (fun I3 J3 f3 n3 => ?_)
          refine go_41 (d := d) (P := fun s => decide (s = u) || decide (s = v)) (H := H) (W := W) hC2.1 hP2 ht (Nat.zero_le _) (hC2.2.1.n41 f3) n3 (fun I4 J4 _ f4 _ _ _ => ?_)
          have f5 := (f2.n f3).n f4
          have a0 : ∀ Z : Prop, Z → ((0 : Int32) = 0 → Z) ∧ (¬ (0 : Int32) = 0 → (l2 = 0 → wp S (d + 23) 94 109 [some (.ref 37), some (.int (nI t)), some (.int l2), some (.int (nI u)), some (.int (nI v))] [.int (nI u), .ref 37] (wv x I4 J4) (rI x Q)) ∧ (¬ l2 = 0 → wp S (d + 23) 94 109 [some (.ref 37), some (.int (nI t)), some (.int l2), some (.int (nI u)), some (.int (nI v))] [.int (I4 37 12), .ref 37] (wv x I4 J4) (rI x Q))) := fun Z z => ⟨fun _ => z, fun y => absurd rfl y⟩
          exact c95_37 ⟨fun _ => ⟨fun _ => ⟨fun z => absurd z (by decide), fun _ => ⟨fun _ => N _ _ _ f5, fun _ => N _ _ _ f5⟩⟩, fun _ => a0 _ (nxv l2 _ _ f5)⟩, fun _ => a0 _ (nxv l2 _ _ f5)⟩
      exact v94_37_14 ⟨fun _ => inn (64 - u) u l2 I1 J1 (by omega) f, fun q => absurd (nI_lt (b := 64) (by omega) (by omega)) q⟩
  exact c94_37 (lp 64 0 _ _ J (by omega) (FB2.p ⟨fun _ _ _ => rfl, fun _ _ _ => rfl, fun _ _ => rfl⟩))
/-- what began of the class leaves as it was -/
def FBc (I : rI0) (J : rJ0) (I' : rI0) (J' : rJ0) : Prop := (∀ b, b ≠ 1 → b ≠ 37 → b ≠ 41 → I' b = I b) ∧ (∀ q, q ≠ 12 → q ≠ 13 → I' 37 q = I 37 q) ∧ ∀ b, b ≠ 37 → b ≠ 41 → J' b = J b
theorem xBegan {p1 : Int32} {n : Nat} {Q : Int32 → rI0 → rJ0 → Prop} (hC : CE g W P H I J) (e1 : I 1 1 = nI n) (hn : n ≤ 940) (k : ∀ r I' J', FBc I J I' J' → Q r I' J') : wcI S (d + 24) 127 [.ref 0, .int p1] x I J Q := by
  have f0 : FBc I J (mSet I 1 1 0) J := ⟨fun b h1 _ _ => mSet_ne h1, fun q _ _ => by rw [mSet_ne (by decide)], fun _ _ _ => rfl⟩
  have hC1 : CE g W P H (mSet I 1 1 0) J := hC.m3 (fun b h1 h2 => mSet_ne (by omega)) (fun _ _ _ => rfl)
  refine c127_0 (d := d + 23) (c67_1 ?_)
  rw [e1]
  refine ⟨fun _ => k _ _ _ f0, fun q0 => ⟨fun _ => k _ _ _ f0, fun q1 => c140_0 (d := d + 22) (bcX ⟨fun _ => ⟨fun z => absurd z (by decide), fun _ => k _ _ _ f0⟩, fun _ => ⟨fun _ => c23_4 ⟨fun _ => c93f (d := d + 21) hC1 hn (fun r J2 f2 => ?_), fun _ => k _ _ _ f0⟩, fun z => absurd rfl z⟩⟩)⟩⟩
  have f3 : FBc I J (mSet I 1 1 0) J2 := ⟨f0.1, f0.2.1, fun b h1 h2 => (f2 b h1).trans (f0.2.2 b h1 h2)⟩
  obtain ⟨t, ht, et⟩ := i_nat (n := 60) (by omega) q0 q1
  subst et
  refine ⟨fun _ => k _ _ _ f3, fun _ => c94f (d := d) (hC1.m3 (fun _ _ _ => rfl) (fun b h1 h2 => f2 b (by omega))) (by omega) (fun r I4 J4 f4 => k _ _ _ ⟨fun b h1 h2 h3 => (f4.1 b h2 h3).trans (f3.1 b h1 h2 h3), fun q h1 h2 => (f4.2.1 q h1 h2).trans (f3.2.1 q h1 h2), fun b h1 h2 => (f4.2.2 b h2).trans (f3.2.2 b h1 h2)⟩)⟩
/-- the reference: isSketch -/
theorem r228f {t : Nat} {p1 : Int64} {Q : Int32 → rI0 → rJ0 → Prop} (h : RH g W I J) (ht : t ≤ 600) (e1 : ∀ s, s < 64 → bits5 p1 s = P s) (e2 : ∀ s, s < 64 → bits5 (J 43 17) s = H s) (k : ∀ r I' J', FN I J I' J' → RH g W I' J' → Q r I' J') : wcI S (d + 5) 228 [.ref 43, .long p1, .int (nI t)] x I J Q := by
  have lp : ∀ (m u : Nat) (I1 : rI0) (J1 : rJ0), u + m = t + 1 → FN I J I1 J1 → RN g W P H u I1 J1 → wp S (d + 5) 228 9 [some (.ref 43), some (.long p1), none, some (.int (nI t))] [] (wv x I1 J1) (rI x Q) := by
    intro m
    induction m with
    | zero =>
      intro u I1 J1 hu f r
      refine v228_43_9 ?_
      rw [r.2.2.2.2.2.2.2.1.1]
      exact ⟨fun _ => ⟨fun _ => ⟨fun _ => k _ _ _ f r.h, fun _ => k _ _ _ f r.h⟩, fun _ => k _ _ _ f r.h⟩, fun q => absurd (nI_lt (by omega) (by omega)) q⟩
    | succ m ih =>
      intro u I1 J1 hu f r
      refine v228_43_9 (d := d + 4) ?_
      rw [r.2.2.2.2.2.2.2.1.1]
      exact ⟨fun q => absurd q (nI_nlt (by omega) (by omega)), fun _ => rmo (d := d + 1) r (by omega) (fun I2 J2 f2 r2 => ih (u + 1) I2 J2 (by omega) (f.tr f2) r2)⟩
  exact c228_43 (d := d + 4) (rbg (d := d) (P := P) (H := H) h e1 e2 (fun I1 J1 f1 r1 => lp (t + 1) 0 I1 J1 (by omega) f1 r1))
/-- what began of the reference leaves as it was -/
def FBy (I : rI0) (J : rJ0) (I' : rI0) (J' : rJ0) : Prop := (∀ b, b ≠ 43 → b ≠ 50 → I' b = I b) ∧ (∀ q, q ≠ 0 → ¬ (2 ≤ q ∧ q ≤ 5) → q ≠ 30 → ¬ (42 ≤ q ∧ q ≤ 43) → q ≠ 59 → q ≠ 60 → I' 43 q = I 43 q) ∧ (∀ b, b ≠ 43 → ¬ (51 ≤ b ∧ b ≤ 55) → J' b = J b) ∧ ∀ q, ¬ (36 ≤ q ∧ q ≤ 41) → ¬ (56 ≤ q ∧ q ≤ 58) → J' 43 q = J 43 q
theorem FBy.n (f : FBy I J I1 J1) (h : FN I1 J1 I2 J2) : FBy I J I2 J2 := ⟨fun b h1 h2 => (h.1 b h1 h2).trans (f.1 b h1 h2), fun q h1 h2 h3 h4 h5 h6 => (h.2.1 q h3 (by omega) (by omega)).trans (f.2.1 q h1 h2 h3 h4 h5 h6), fun b h1 h2 => (h.2.2.1 b h1 h2).trans (f.2.2.1 b h1 h2), fun q h1 h2 => (h.2.2.2 q h1).trans (f.2.2.2 q h1 h2)⟩
theorem FBy.p {a c : Int32} (f : FBy I J I1 J1) : FBy I J (mSet (mSet I1 43 59 a) 43 60 c) J1 := ⟨fun b h1 h2 => by rw [mSet_ne h1, mSet_ne h1]; exact f.1 b h1 h2, fun q h1 h2 h3 h4 h5 h6 => by rw [mS_nk h6, mS_nk h5]; exact f.2.1 q h1 h2 h3 h4 h5 h6, f.2.2.1, f.2.2.2⟩
theorem yBegan {p1 : Int32} {n : Nat} {Q : Int32 → rI0 → rJ0 → Prop} (hR : RH g W I J) (e17 : ∀ s, s < 64 → bits5 (J 43 17) s = H s) (e2 : I 43 2 = nI n) (hn : n ≤ 940) (k : ∀ r I' J', FBy I J I' J' → RH g W I' J' → Q r I' J') : wcI S (d + 6) 229 [.ref 43, .int p1] x I J Q := by
  obtain ⟨z0, z1, -, -, -, -⟩ := k0c
  have z2 : (2 : Int32).toNatClampNeg = 2 := by decide
  have hG := hR.1
  have hI := hR.2.1
  have rc : gN g 0 * gN g 1 ≤ 64 := Nat.le_trans (Nat.mul_le_mul hG.1 hG.2.1) (by decide)
  have r1 : RH g W (mSet (mSet (mSet (mSet (mSet I 43 0 0) 43 3 (mSet I 43 0 0 43 2)) 43 2 0) 43 4 0) 43 5 940) J := ((((hR.q (by decide)).q (by decide)).q (by decide)).q (by decide)).q (by decide)
  have f1 : FBy I J (mSet (mSet (mSet (mSet (mSet I 43 0 0) 43 3 (mSet I 43 0 0 43 2)) 43 2 0) 43 4 0) 43 5 940) J := ⟨fun b h1 _ => by rw [mSet_ne h1, mSet_ne h1, mSet_ne h1, mSet_ne h1, mSet_ne h1], fun q h1 h2 _ _ _ _ => by rw [mS_nk (by omega), mS_nk (by omega), mS_nk (by omega), mS_nk (by omega), mS_nk h1], fun _ _ _ => rfl, fun _ _ _ => rfl⟩
  have e3 : mSet (mSet (mSet (mSet (mSet I 43 0 0) 43 3 (mSet I 43 0 0 43 2)) 43 2 0) 43 4 0) 43 5 940 43 3 = nI n := by
    rw [mS_nk (by decide), mS_nk (by decide), mS_nk (by decide), mSet_at, mS_nk (by decide)]
    exact e2
  refine c229_43 (d := d + 5) (c150_43 ⟨by decide, by decide, ?_⟩)
  revert r1 f1 e3
  generalize mSet (mSet (mSet (mSet (mSet I 43 0 0) 43 3 (mSet I 43 0 0 43 2)) 43 2 0) 43 4 0) 43 5 940 = I1
  intro r1 f1 e3
  rw [e3, z0, z1, r1.2.2.2.2.1, hI.1 0 (by omega), hI.1 1 (by omega), nI_mu, z2]
  refine ⟨fun en => rIn (a := 0) (b := 60) (by decide) (by decide) (by omega) (fun t _ ht et _ => ⟨fun z => absurd z (by decide), fun _ => ⟨by decide, fun _ => k _ _ _ f1 r1, fun _ => ?_⟩⟩) (fun _ => ⟨fun _ => k _ _ _ f1 r1, fun z => absurd rfl z⟩), fun _ => k _ _ _ f1 r1⟩
  subst et
  have en : n = gN g 0 * gN g 1 := nI_inj (by omega) (by omega) en
  have l208 : ∀ (m u : Nat) (l3 l5 l7 : Int64) (l9 : Int32) (I2 : rI0) (J2 : rJ0), u + m = gN g 0 * gN g 1 → FBy I J I2 J2 → RH g W I2 J2 → wp S (d + 6) 229 198 [some (.ref 43), some (.int (nI t)), some (.int (nI (gN g 0 * gN g 1))), some (.long l3), none, some (.long l5), none, some (.long l7), none, some (.int l9), some (.int (nI u)), none] [] (wv x I2 J2) (rI x Q) := by
    intro m
    induction m with
    | zero =>
      intro u l3 l5 l7 l9 I2 J2 hu f r
      exact v229_43_198 ⟨fun q => absurd q (nI_nlt (by omega) (by omega)), fun _ => k _ _ _ f r⟩
    | succ m ih =>
      intro u l3 l5 l7 l9 I2 J2 hu f r
      have inn : ∀ (q2 v : Nat) (l9 : Int32) (I2 : rI0) (J2 : rJ0), v + q2 = gN g 0 * gN g 1 → FBy I J I2 J2 → RH g W I2 J2 → wp S (d + 6) 229 208 [some (.ref 43), some (.int (nI t)), some (.int (nI (gN g 0 * gN g 1))), some (.long l3), none, some (.long l5), none, some (.long l7), none, some (.int l9), some (.int (nI u)), some (.int (nI v))] [] (wv x I2 J2) (rI x Q) := by
        intro q2
        induction q2 with
        | zero =>
          intro v l9 I2 J2 hv f r
          refine v229_43_208 ⟨fun q => absurd q (nI_nlt (by omega) (by omega)), fun _ => ?_⟩
          rw [← nI_succ]
          exact ih (u + 1) l3 l5 l7 l9 I2 J2 (by omega) f r
        | succ q2 ihq =>
          intro v l9 I2 J2 hv f r
          have nxv : ∀ (l9 : Int32) (I3 : rI0) (J3 : rJ0), FBy I J I3 J3 → RH g W I3 J3 → wp S (d + 6) 229 208 [some (.ref 43), some (.int (nI t)), some (.int (nI (gN g 0 * gN g 1))), some (.long l3), none, some (.long l5), none, some (.long l7), none, some (.int l9), some (.int (nI u)), some (.int (nI v + 1))] [] (wv x I3 J3) (rI x Q) := fun l9 I3 J3 f3 r3 => by
            rw [← nI_succ]
            exact ihq (v + 1) l9 I3 J3 (by omega) f3 r3
          have nxp : ∀ (a c : Int32) (I3 : rI0) (J3 : rJ0), FBy I J I3 J3 → RH g W I3 J3 → wp S (d + 6) 229 208 [some (.ref 43), some (.int (nI t)), some (.int (nI (gN g 0 * gN g 1))), some (.long l3), none, some (.long l5), none, some (.long l7), none, some (.int (l9 + 1)), some (.int (nI u)), some (.int (nI v + 1))] [] (wv x (mSet (mSet I3 43 59 a) 43 60 c) J3) (rI x Q) := fun a c I3 J3 f3 r3 => nxv _ _ _ f3.p ((r3.q (by decide)).q (by decide))
          refine v229_43_208 (d := d + 5) ⟨fun _ => rIs (d := d + 4) hG hI r.2.2.2.2.1 (fun u' hu' eu hsu _ => ⟨fun z => absurd z (by decide), fun _ => rIs (d := d + 4) hG hI r.2.2.2.2.1 (fun v' hv' ev hsv _ => ⟨fun z => absurd z (by decide), fun _ => ?_⟩) (fun _ => ⟨fun _ => nxv _ _ _ f r, fun z => absurd rfl z⟩)⟩) (fun _ => ⟨fun _ => nxv _ _ _ f r, fun z => absurd rfl z⟩), fun w => absurd (nI_lt (by omega) (by omega)) w⟩
          refine r228f (d := d) (P := fun s => bits5 (((1 : Int64) <<< ((nI u).toInt64 &&& 63)) ||| ((1 : Int64) <<< ((nI v).toInt64 &&& 63))) s) (H := H) r (by omega) (fun _ _ => rfl) (fun s hs => by rw [f.2.2.2 17 (by omega) (by omega)]; exact e17 s hs) (fun r3 I3 J3 f3 h3 => ⟨fun _ => nxv _ _ _ (f.n f3) h3, fun _ => ⟨fun _ => nxv _ _ _ (f.n f3) h3, fun _ => ⟨fun _ => nxp _ _ _ _ (f.n f3) h3, fun _ => nxp _ _ _ _ (f.n f3) h3⟩⟩⟩)
      exact v229_43_198 ⟨fun _ => inn (gN g 0 * gN g 1 - u) u l9 I2 J2 (by omega) f r, fun w => absurd (nI_lt (by omega) (by omega)) w⟩
  have l68 : ∀ (m i : Nat) (l3 l5 l7 : Int64), i + m = n → wp S (d + 6) 229 68 [some (.ref 43), some (.int (nI t)), some (.int (nI (gN g 0 * gN g 1))), some (.long l3), none, some (.long l5), none, some (.long l7), none, some (.int (nI i)), none, none] [] (wv x I1 J) (rI x Q) := by
    intro m
    induction m with
    | zero =>
      intro i l3 l5 l7 hi
      refine v229_43_68 ?_
      rw [e3]
      refine ⟨fun q => absurd q (nI_nlt (by omega) (by omega)), fun _ => l208 (gN g 0 * gN g 1) 0 l3 l5 l7 _ _ _ (by omega) ?_ ?_⟩
      · have t := f1.p (a := -1) (c := -1)
        exact ⟨t.1, t.2.1, fun b h1 h2 => by rw [mSet_ne h1, mSet_ne h1, mSet_ne h1], fun q h1 h2 => by rw [mS_nk (by omega), mS_nk (by omega), mS_nk (by omega)]⟩
      · exact ((r1.q (by decide)).q (by decide)).j (by rw [mSet_ne (by decide), mSet_ne (by decide), mSet_ne (by decide)])
    | succ m ih =>
      intro i l3 l5 l7 hi
      have nx : ∀ l3 l5 l7 : Int64, wp S (d + 6) 229 68 [some (.ref 43), some (.int (nI t)), some (.int (nI (gN g 0 * gN g 1))), some (.long l3), none, some (.long l5), none, some (.long l7), none, some (.int (nI i + 1)), none, none] [] (wv x I1 J) (rI x Q) := fun l3 l5 l7 => by
        rw [← nI_succ]
        exact ih (i + 1) l3 l5 l7 (by omega)
      have a6 : (6 : Int32) + nI i = nI (6 + i) := by
        rw [show (6 : Int32) = nI 6 from rfl, nI_add]
      refine v229_43_68 ?_
      rw [e3]
      refine ⟨fun _ => c155_43 ⟨nI_in (by omega) (by omega), fun _ => k _ _ _ f1 r1, fun _ => ⟨fun _ => nx _ _ _, fun _ => ⟨?_, fun _ => nx _ _ _, fun _ => ⟨fun _ => v229_43_138 ⟨fun _ => nx _ _ _, fun _ => nx _ _ _⟩, fun _ => v229_43_138 ⟨fun _ => nx _ _ _, fun _ => nx _ _ _⟩⟩⟩⟩⟩, fun w => absurd (nI_lt (by omega) (by omega)) w⟩
      rw [a6]
      exact nI_in (by omega) (by omega)
  exact l68 n 0 0 0 0 (by omega)
end TRL
end
