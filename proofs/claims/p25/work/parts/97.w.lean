section
/-! laws, as the reference asks them -/
section RL0
/-- the words of the laws that are told -/
def LR (g : Nat → Int32) (W : Nat → lV) : Prop := ∀ l, l < 12 → tlB g l = true → ∃ R : List Int32, R.length ≤ 40 ∧ g (87 + 42 * l) = nI R.length ∧ arr (fun i => g (88 + 42 * l + i)) R ∧ rOk R (W l)
/-- the reference's areas -/
def AR (g : Nat → Int32) (J : rJ0) : Prop := ∀ s, seB g s = true → ∀ a, a < 6 → ∀ u, u < 64 → bits5 (J 51 (6 * s + a)) u = arB g a s u
def fR (J : rJ0) (v : Nat) (p3 p4 : Int64) (own since w : Int32) : Int32 := if w &&& (7 : Int32) = (1 : Int32) then own else if w &&& (7 : Int32) = (2 : Int32) then since else nI (pc (J 51 (((6 : Int32) * nI v + ((w >>> ((3 : Int32) &&& 31)) &&& (7 : Int32))).toNatClampNeg) &&& (if (w >>> ((6 : Int32) &&& 31)) &&& (3 : Int32) = (1 : Int32) then p3 else p4)))
def dR (f : Int32 → Int32) (w : Int32) : Bool := if (w >>> ((8 : Int32) &&& 31)) &&& (3 : Int32) = (0 : Int32) then decide (f w < w >>> ((10 : Int32) &&& 31)) else if (w >>> ((8 : Int32) &&& 31)) &&& (3 : Int32) = (1 : Int32) then decide (f w = w >>> ((10 : Int32) &&& 31)) else decide (w >>> ((10 : Int32) &&& 31) < f w)
def bA (A : Nat → Int32) : List Bool → Prop
  | [] => True
  | b :: r => A r.length = nI (if b = true then 1 else 0) ∧ bA A r
theorem bA_cg {A B : Nat → Int32} : ∀ st : List Bool, (∀ i, i < st.length → B i = A i) → bA A st → bA B st := by
  intro st
  induction st with
  | nil => intro _ _; exact True.intro
  | cons b r ih =>
    intro h g
    exact ⟨(h r.length (Nat.lt_succ_self _)).trans g.1, ih (fun i hi => h i (Nat.lt_succ_of_lt hi)) g.2⟩
theorem bA_set {A : Nat → Int32} {I : rI0} {b : Bool} {r : List Bool} {v : Int32} (h : bA (I 50) r) (hv : v = nI (if b = true then 1 else 0)) : bA (mSet I 50 r.length v 50) (b :: r) := by
  refine ⟨?_, bA_cg r (fun i hi => ?_) h⟩
  · show mSet I 50 r.length v 50 r.length = _
    rw [← hv]
    unfold mSet va_up
    rw [if_pos rfl, if_pos rfl]
  · unfold mSet va_up
    rw [if_pos rfl, if_neg (by omega)]
theorem ls_last : ∀ X : List Int32, X.length ≠ 0 → ∃ X' w, X = X' ++ [w] := by
  intro X
  induction X with
  | nil => intro h; exact absurd rfl h
  | cons a X ih =>
    intro _
    by_cases z : X.length = 0
    · refine ⟨[], a, ?_⟩
      rw [List.eq_nil_of_length_eq_zero z]
      rfl
    · obtain ⟨X', w, e⟩ := ih z
      exact ⟨a :: X', w, by rw [e]; rfl⟩
theorem rRv_len {dec : Int32 → Bool} : ∀ Y : List Int32, (rRv dec Y []).length ≤ Y.length := by
  intro Y
  induction Y with
  | nil => exact Nat.le_refl _
  | cons w l ih =>
    show (rSt dec w (rRv dec l [])).length ≤ l.length + 1
    generalize rRv dec l [] = st at ih
    unfold rSt
    split
    · match st with
      | [] => exact Nat.zero_le _
      | y :: r => exact Nat.le_succ_of_le ih
    · split
      · match st with
        | [] => exact Nat.zero_le _
        | [y] => exact Nat.le_succ_of_le ih
        | y :: z :: r =>
          have : (y :: z :: r).length = r.length + 2 := rfl
          show r.length + 1 ≤ _
          omega
      · split
        · match st with
          | [] => exact Nat.zero_le _
          | [y] => exact Nat.le_succ_of_le ih
          | y :: z :: r =>
            have : (y :: z :: r).length = r.length + 2 := rfl
            show r.length + 1 ≤ _
            omega
        · exact Nat.succ_le_succ ih
theorem nI_mm (m : Nat) : nI (m + 1) + (-1 : Int32) = nI m := by
  have h := nI_pr m
  rw [Int32.sub_eq_add_neg] at h
  exact h
theorem vz0 : vp_nar .boolean (0 : Int32) = 0 := by decide
theorem vz1 : vp_nar .boolean (1 : Int32) = 1 := by decide
theorem b0_z {b : Bool} {v : Int32} (h : v = nI (if b = true then 1 else 0)) : v = 0 ↔ b = false := by
  rw [h]
  cases b <;> decide
variable {S : Nat × (Nat → Int32)} {d : Nat} {x : mX} {I : rI0} {J : rJ0} {W : Nat → lV} {N hd : Nat → Nat}
theorem ilp {l v : Nat} {p3 p4 : Int64} {own since : Int32} {R : List Int32} {V : Bool} {Q : Int32 → rI0 → rJ0 → Prop} (hl : l < 12) (hv : v < 64) (h40 : R.length ≤ 40) (eR : I 45 (87 + 42 * l) = nI R.length) (aR : arr (fun i => I 45 (88 + 42 * l + i)) R) (ck : cok (fun j => I 45 (88 + 42 * l + j)) R.length) (eV : rRv (dR (fR J v p3 p4 own since)) R [] = [V]) (k : ∀ I', (∀ b, b ≠ 50 → I' b = I b) → Q (nI (if V = true then 1 else 0)) I' J) : ∀ (m : Nat) (X Y : List Int32) (I1 : rI0), X.length = m → R = X ++ Y → (∀ b, b ≠ 50 → I1 b = I b) → bA (I1 50) (rRv (dR (fR J v p3 p4 own since)) Y []) → ((rRv (dR (fR J v p3 p4 own since)) Y []).length : Int) = dpt (fun j => I 45 (88 + 42 * l + j)) Y.length → wp S (d + 1) 195 6 [some (.ref 43), some (.int (nI (86 + 42 * l))), some (.int (nI v)), some (.long p3), none, some (.long p4), none, some (.int own), some (.int since), some (.int (nI (rRv (dR (fR J v p3 p4 own since)) Y []).length)), some (.int (nI Y.length)), none, none, none, none, none] [] (wv x I1 J) (rI x Q) := by
  have e1 : nI (86 + 42 * l) + (1 : Int32) = nI (87 + 42 * l) := by
    rw [← nI_succ]
    exact congrArg nI (by omega)
  intro m
  induction m with
  | zero =>
    intro X Y I1 hX hR f hb hd
    have hX := List.eq_nil_of_length_eq_zero hX
    subst hX
    have hR : R = Y := hR
    subst hR
    rw [eV] at hb ⊢
    refine v195_43_6 ?_
    rw [e1, nI_clamp (by omega), f 45 (by decide), eR]
    refine ⟨nI_in (by omega) (by omega), fun q => absurd q (nI_nlt (Nat.le_refl _) (by omega)), fun _ => ⟨by decide, ?_⟩⟩
    have h0 : I1 50 ((0 : Int32).toNatClampNeg) = nI (if V = true then 1 else 0) := hb.1
    rw [h0]
    refine ⟨?_, k I1 f⟩
    cases V
    · exact Or.inl rfl
    · exact Or.inr rfl
  | succ m ih =>
    intro X Y I1 hX hR f hb hd
    obtain ⟨X', w, e⟩ := ls_last X (by omega)
    subst e
    have hlR : R.length = X'.length + 1 + Y.length := by
      rw [hR, List.length_append, List.length_append]
      rfl
    have hX' : X'.length = m := by
      rw [List.length_append] at hX
      have : [w].length = 1 := rfl
      omega
    have hR' : R = X' ++ (w :: Y) := by
      rw [hR, List.append_assoc]
      rfl
    have hw : I 45 (88 + 42 * l + Y.length) = w := arr_at X' w Y (by rw [← hR']; exact aR)
    have hlen := rRv_len (dec := dR (fR J v p3 p4 own since)) Y
    have c := ck Y.length (by omega)
    rw [show (fun j => I 45 (88 + 42 * l + j)) Y.length = w from hw] at c
    have dp : dpt (fun j => I 45 (88 + 42 * l + j)) (w :: Y).length = dpt (fun j => I 45 (88 + 42 * l + j)) Y.length + (if w &&& 7 = 3 then 0 else if w &&& 7 = 4 ∨ w &&& 7 = 5 then -1 else 1) := by
      show dpt (fun j => I 45 (88 + 42 * l + j)) Y.length + (if I 45 (88 + 42 * l + Y.length) &&& 7 = 3 then 0 else if I 45 (88 + 42 * l + Y.length) &&& 7 = 4 ∨ I 45 (88 + 42 * l + Y.length) &&& 7 = 5 then -1 else 1) = _
      rw [hw]
    have ix : ((nI (86 + 42 * l) + (2 : Int32)) + nI Y.length).toNatClampNeg = 88 + 42 * l + Y.length := by
      show ((nI (86 + 42 * l) + nI 2) + nI Y.length).toNatClampNeg = _
      rw [nI_add, nI_add, nI_clamp (by omega)]
      omega
    have io : ¬ mOut ((nI (86 + 42 * l) + (2 : Int32)) + nI Y.length) 681 := by
      show ¬ mOut ((nI (86 + 42 * l) + nI 2) + nI Y.length) 681
      rw [nI_add, nI_add]
      exact nI_in (by omega) (by omega)
    have erv : rRv (dR (fR J v p3 p4 own since)) (w :: Y) [] = rSt (dR (fR J v p3 p4 own since)) w (rRv (dR (fR J v p3 p4 own since)) Y []) := rfl
    generalize hst : rRv (dR (fR J v p3 p4 own since)) Y [] = st at *
    have go : ∀ (I2 : rI0) (st2 : List Bool), rSt (dR (fR J v p3 p4 own since)) w st = st2 → (∀ b, b ≠ 50 → I2 b = I b) → bA (I2 50) st2 → ((st2.length : Int) = (st.length : Int) + (if w &&& 7 = 3 then 0 else if w &&& 7 = 4 ∨ w &&& 7 = 5 then -1 else 1)) → wp S (d + 1) 195 6 [some (.ref 43), some (.int (nI (86 + 42 * l))), some (.int (nI v)), some (.long p3), none, some (.long p4), none, some (.int own), some (.int since), some (.int (nI st2.length)), some (.int (nI (Y.length + 1))), none, none, none, none, none] [] (wv x I2 J) (rI x Q) := by
      intro I2 st2 e2 f2 b2 l2
      have h := ih X' (w :: Y) I2 hX' hR' f2 (by rw [erv, e2]; exact b2) (by rw [erv, e2, dp, l2, hd])
      rw [erv, e2] at h
      exact h
    refine v195_43_6 ?_
    rw [e1, nI_clamp (by omega), f 45 (by decide), eR, ix, hw, ← nI_succ]
    refine ⟨nI_in (by omega) (by omega), fun _ => ⟨io, ?_⟩, fun q => absurd (nI_lt (by omega) (by omega)) q⟩
    refine ⟨fun q3 => ?_, fun q3 => ⟨fun q4 => ?_, fun q4 => ⟨fun q5 => ?_, fun q5 => ?_⟩⟩⟩
    · have c1 := c.1 q3
      match st, hb, hd, hlen, go with
      | [], _, hd, _, _ =>
        have : (([] : List Bool).length : Int) = 0 := rfl
        omega
      | y :: r, hb, hd, hlen, go =>
        have hr : (y :: r).length = r.length + 1 := rfl
        have ei : nI (y :: r).length - (1 : Int32) = nI r.length := nI_pr r.length
        have es : rSt (dR (fR J v p3 p4 own since)) w (y :: r) = (!y) :: r := by
          unfold rSt
          rw [if_pos q3]
        rw [ei, nI_clamp (by omega), hb.1, vz0, vz1]
        refine ⟨nI_in (by omega) (by omega), fun z => ⟨nI_in (by omega) (by omega), ?_⟩, fun z => ⟨nI_in (by omega) (by omega), ?_⟩⟩
        · have z := (b0_z rfl).mp z
          subst z
          exact go _ (true :: r) es (fun b hb => (mSet_ne hb).trans (f b hb)) (bA_set (A := I1 50) hb.2 rfl) (by rw [if_pos q3]; show ((r.length + 1 : Nat) : Int) = ((r.length + 1 : Nat) : Int) + 0; omega)
        · have z : y = true := ts_nf (fun y0 => z ((b0_z rfl).mpr y0))
          subst z
          exact go _ (false :: r) es (fun b hb => (mSet_ne hb).trans (f b hb)) (bA_set (A := I1 50) hb.2 rfl) (by rw [if_pos q3]; show ((r.length + 1 : Nat) : Int) = ((r.length + 1 : Nat) : Int) + 0; omega)
    · have c2 := c.2.1 (Or.inl q4)
      match st, hb, hd, hlen, go with
      | [], _, hd, _, _ =>
        have : (([] : List Bool).length : Int) = 0 := rfl
        omega
      | [y], _, hd, _, _ =>
        have : ([y].length : Int) = 1 := rfl
        omega
      | y :: z :: r, hb, hd, hlen, go =>
        have hr : (y :: z :: r).length = r.length + 1 + 1 := rfl
        have hz : I1 50 r.length = nI (if z = true then 1 else 0) := hb.2.1
        have hy : I1 50 (r.length + 1) = nI (if y = true then 1 else 0) := hb.1
        have e1 : nI (y :: z :: r).length + (-1 : Int32) = nI (r.length + 1) := nI_mm (r.length + 1)
        have e2 : nI (r.length + 1) - (1 : Int32) = nI r.length := nI_pr r.length
        have es : rSt (dR (fR J v p3 p4 own since)) w (y :: z :: r) = (z && y) :: r := by
          unfold rSt
          rw [if_neg q3, if_pos q4]
        have el : (((z && y) :: r).length : Int) = ((y :: z :: r).length : Int) + (if w &&& 7 = 3 then 0 else if w &&& 7 = 4 ∨ w &&& 7 = 5 then -1 else 1) := by
          rw [if_neg q3, if_pos (Or.inl q4)]
          show ((r.length + 1 : Nat) : Int) = ((r.length + 1 + 1 : Nat) : Int) + -1
          omega
        have fin : ∀ u : Int32, u = nI (if (z && y) = true then 1 else 0) → wp S (d + 1) 195 6 [some (.ref 43), some (.int (nI (86 + 42 * l))), some (.int (nI v)), some (.long p3), none, some (.long p4), none, some (.int own), some (.int since), some (.int (nI (r.length + 1))), some (.int (nI Y.length + 1)), none, none, none, none, none] [] (wv x (mSet I1 50 r.length u) J) (rI x Q) := by
          intro u hu
          rw [← nI_succ]
          exact go _ _ es (fun b hb => (mSet_ne hb).trans (f b hb)) (bA_set (A := I1 50) hb.2.2 hu) el
        refine v195_43_86 ⟨fun _ => ?_, fun q => absurd q4 q⟩
        rw [e1, e2, nI_clamp (by omega), nI_clamp (by omega), hz, hy, vz0, vz1]
        refine ⟨nI_in (by omega) (by omega), fun w1 => ⟨nI_in (by omega) (by omega), fin 0 ?_⟩, fun w1 => ⟨nI_in (by omega) (by omega), fun w2 => ⟨nI_in (by omega) (by omega), fin 0 ?_⟩, fun w2 => ⟨nI_in (by omega) (by omega), fin 1 ?_⟩⟩⟩
        · rw [(b0_z rfl).mp w1]
          rfl
        · rw [(b0_z rfl).mp w2, Bool.and_false]
          rfl
        · rw [show z = true from ts_nf (fun y0 => w1 ((b0_z rfl).mpr y0)), show y = true from ts_nf (fun y0 => w2 ((b0_z rfl).mpr y0))]
          rfl
    · have c2 := c.2.1 (Or.inr q5)
      match st, hb, hd, hlen, go with
      | [], _, hd, _, _ =>
        have : (([] : List Bool).length : Int) = 0 := rfl
        omega
      | [y], _, hd, _, _ =>
        have : ([y].length : Int) = 1 := rfl
        omega
      | y :: z :: r, hb, hd, hlen, go =>
        have hr : (y :: z :: r).length = r.length + 1 + 1 := rfl
        have hz : I1 50 r.length = nI (if z = true then 1 else 0) := hb.2.1
        have hy : I1 50 (r.length + 1) = nI (if y = true then 1 else 0) := hb.1
        have e1 : nI (y :: z :: r).length + (-1 : Int32) = nI (r.length + 1) := nI_mm (r.length + 1)
        have e2 : nI (r.length + 1) - (1 : Int32) = nI r.length := nI_pr r.length
        have es : rSt (dR (fR J v p3 p4 own since)) w (y :: z :: r) = (z || y) :: r := by
          unfold rSt
          rw [if_neg q3, if_neg q4, if_pos q5]
        have el : (((z || y) :: r).length : Int) = ((y :: z :: r).length : Int) + (if w &&& 7 = 3 then 0 else if w &&& 7 = 4 ∨ w &&& 7 = 5 then -1 else 1) := by
          rw [if_neg q3, if_pos (Or.inr q5)]
          show ((r.length + 1 : Nat) : Int) = ((r.length + 1 + 1 : Nat) : Int) + -1
          omega
        have fin : ∀ u : Int32, u = nI (if (z || y) = true then 1 else 0) → wp S (d + 1) 195 6 [some (.ref 43), some (.int (nI (86 + 42 * l))), some (.int (nI v)), some (.long p3), none, some (.long p4), none, some (.int own), some (.int since), some (.int (nI (r.length + 1))), some (.int (nI Y.length + 1)), none, none, none, none, none] [] (wv x (mSet I1 50 r.length u) J) (rI x Q) := by
          intro u hu
          rw [← nI_succ]
          exact go _ _ es (fun b hb => (mSet_ne hb).trans (f b hb)) (bA_set (A := I1 50) hb.2.2 hu) el
        refine v195_43_86 ⟨fun q => absurd q q4, fun _ => ?_⟩
        rw [e1, e2, nI_clamp (by omega), nI_clamp (by omega), hz, hy, vz0, vz1]
        refine ⟨nI_in (by omega) (by omega), fun w1 => ⟨nI_in (by omega) (by omega), fun w2 => ⟨nI_in (by omega) (by omega), fin 0 ?_⟩, fun w2 => ⟨nI_in (by omega) (by omega), fin 1 ?_⟩⟩, fun w1 => ⟨nI_in (by omega) (by omega), fin 1 ?_⟩⟩
        · rw [(b0_z rfl).mp w1, (b0_z rfl).mp w2]
          rfl
        · rw [show y = true from ts_nf (fun y0 => w2 ((b0_z rfl).mpr y0)), Bool.or_true]
          rfl
        · rw [show z = true from ts_nf (fun y0 => w1 ((b0_z rfl).mpr y0))]
          rfl
    · have es : rSt (dR (fR J v p3 p4 own since)) w st = dR (fR J v p3 p4 own since) w :: st := by
        unfold rSt
        rw [if_neg q3, if_neg q4, if_neg q5]
      have el : ((dR (fR J v p3 p4 own since) w :: st).length : Int) = (st.length : Int) + (if w &&& 7 = 3 then 0 else if w &&& 7 = 4 ∨ w &&& 7 = 5 then -1 else 1) := by
        rw [if_neg q3, if_neg (fun z => z.elim q4 q5)]
        show ((st.length + 1 : Nat) : Int) = _
        omega
      have push : ∀ (u : Int32) (I2 : rI0), (∀ b, b ≠ 50 → I2 b = I b) → bA (I2 50) st → u = nI (if dR (fR J v p3 p4 own since) w = true then 1 else 0) → wp S (d + 1) 195 6 [some (.ref 43), some (.int (nI (86 + 42 * l))), some (.int (nI v)), some (.long p3), none, some (.long p4), none, some (.int own), some (.int since), some (.int (nI st.length + 1)), some (.int (nI Y.length + 1)), none, none, none, none, none] [] (wv x (mSet I2 50 st.length u) J) (rI x Q) := by
        intro u I2 f2 hb2 hu
        rw [← nI_succ, ← nI_succ]
        exact go _ _ es (fun b hb => (mSet_ne hb).trans (f2 b hb)) (bA_set (A := I2 50) hb2 hu) el
      have cmp : ∀ (s0 l12 : Int32), s0 = fR J v p3 p4 own since w → wp S (d + 1) 195 224 [some (.ref 43), some (.int (nI (86 + 42 * l))), some (.int (nI v)), some (.long p3), none, some (.long p4), none, some (.int own), some (.int since), some (.int (nI st.length)), some (.int (nI Y.length)), some (.int w), some (.int l12), none, none, none] [.int s0] (wv x I1 J) (rI x Q) := by
        intro s0 l12 hs0
        subst hs0
        refine v195_43_224 ?_
        rw [nI_clamp (by omega), vz0, vz1]
        have hi : ¬ mOut (nI st.length) 64 := nI_in (by omega) (by omega)
        refine ⟨fun y => ⟨fun z => ⟨hi, push _ I1 f hb ?_⟩, fun z => ⟨hi, push _ I1 f hb ?_⟩⟩, fun y => ⟨fun y2 => ⟨fun z => ⟨hi, push _ I1 f hb ?_⟩, fun z => ⟨hi, push _ I1 f hb ?_⟩⟩, fun y2 => ⟨fun z => ⟨hi, push _ I1 f hb ?_⟩, fun z => ⟨hi, push _ I1 f hb ?_⟩⟩⟩⟩
        · unfold dR
          rw [if_pos y, decide_eq_true z]
          rfl
        · unfold dR
          rw [if_pos y, decide_eq_false z]
          rfl
        · unfold dR
          rw [if_neg y, if_pos y2, decide_eq_true z]
          rfl
        · unfold dR
          rw [if_neg y, if_pos y2, decide_eq_false z]
          rfl
        · unfold dR
          rw [if_neg y, if_neg y2, decide_eq_true z]
          rfl
        · unfold dR
          rw [if_neg y, if_neg y2, decide_eq_false z]
          rfl
      have ar0 := (i_and (w >>> ((3 : Int32) &&& 31)) 3 (m := 7) ⟨by decide, by decide⟩).1
      have ar5 := c.2.2
      have eA : ∃ a, a ≤ 5 ∧ (w >>> ((3 : Int32) &&& 31)) &&& (7 : Int32) = nI a := i_nI (n := 5) ar0 ar5 (by omega)
      refine ⟨fun y1 => cmp _ _ ?_, fun y1 => ⟨fun y2 => cmp _ _ ?_, fun y2 => ⟨?_, fun y3 => rbX (cmp _ _ ?_), fun y3 => rbX (cmp _ _ ?_)⟩⟩⟩
      · unfold fR
        rw [if_pos y1]
      · unfold fR
        rw [if_neg y1, if_pos y2]
      · obtain ⟨a, ha, ea⟩ := eA
        rw [ea]
        show ¬ mOut (nI 6 * nI v + nI a) 384
        rw [nI_mu, nI_add]
        exact nI_in (by omega) (by omega)
      · unfold fR
        rw [if_neg y1, if_neg y2, if_pos y3]
      · unfold fR
        rw [if_neg y1, if_neg y2, if_neg y3]
theorem rWd_l {a lev sg num : Nat} (ha : a < 8) (h1 : lev ≤ 2) (h2 : sg ≤ 2) (h3 : num ≤ 999) : rWd a lev sg num < 2 ^ 31 := by
  unfold rWd
  split <;> omega
/-- the reference's comparisons are those of the night -/
theorem rDec_i {v : Nat} {p3 p4 : Int64} (hv : seB (I 45) v = true) (hA : AR (I 45) J) (oN : okN (I 45) N) (oH : okH (I 45) hd) (b3 : ∀ u, u < 64 → bits5 p3 u = decide (1 ≤ N u)) (b4 : ∀ u, u < 64 → bits5 p4 u = decide (2 ≤ N u)) : rDec (dR (fR J v p3 p4 (nI (N v)) (nI (hd v)))) (atB (I 45) N hd v) := by
  intro a lev sg num ha h1 h2 h3
  have hl := rWd_l ha h1 h2 h3
  have hv64 := seB_l hv
  have n7 : nI (rWd a lev sg num) &&& (7 : Int32) = nI (if a < 6 then 0 else a - 5) := by
    rw [pk_andN (Nat.lt_trans hl (by omega)) 3 (by decide)]
    refine congrArg nI ?_
    unfold rWd
    split <;> omega
  have n8 : (nI (rWd a lev sg num) >>> ((8 : Int32) &&& 31)) &&& (3 : Int32) = nI sg := by
    rw [pk_shrN hl _ 8 (by decide), pk_andN (Nat.lt_of_le_of_lt (Nat.div_le_self _ _) (Nat.lt_trans hl (by omega))) 2 (by decide)]
    refine congrArg nI ?_
    unfold rWd
    split <;> omega
  have n6 : (nI (rWd a lev sg num) >>> ((6 : Int32) &&& 31)) &&& (3 : Int32) = nI lev := by
    rw [pk_shrN hl _ 6 (by decide), pk_andN (Nat.lt_of_le_of_lt (Nat.div_le_self _ _) (Nat.lt_trans hl (by omega))) 2 (by decide)]
    refine congrArg nI ?_
    unfold rWd
    split <;> omega
  have n10 : nI (rWd a lev sg num) >>> ((10 : Int32) &&& 31) = nI num := by
    rw [pk_shrN hl _ 10 (by decide)]
    refine congrArg nI ?_
    unfold rWd
    split <;> omega
  have ef : ∃ f, f ≤ 1023 ∧ fR J v p3 p4 (nI (N v)) (nI (hd v)) (nI (rWd a lev sg num)) = nI f ∧ f = (if a = 6 then N v else if a = 7 then hd v else nb (fun u => arB (I 45) a v u && decide ((if lev = 1 then 1 else 2) ≤ N u)) 64) := by
    unfold fR
    rw [n7, n6]
    by_cases z6 : a = 6
    · subst z6
      refine ⟨N v, by have := (oN v).1; omega, ?_, by rw [if_pos rfl]⟩
      rw [if_pos (by decide)]
    · by_cases z7 : a = 7
      · subst z7
        refine ⟨hd v, by have := (oH v).1; omega, ?_, by rw [if_neg (by omega), if_pos rfl]⟩
        rw [if_neg (by decide), if_pos (by decide)]
      · have a6 : a < 6 := by omega
        have n3 : (nI (rWd a lev sg num) >>> ((3 : Int32) &&& 31)) &&& (7 : Int32) = nI a := by
          rw [pk_shrN hl _ 3 (by decide), pk_andN (Nat.lt_of_le_of_lt (Nat.div_le_self _ _) (Nat.lt_trans hl (by omega))) 3 (by decide)]
          refine congrArg nI ?_
          unfold rWd
          rw [if_pos a6]
          omega
        have ix : ((6 : Int32) * nI v + nI a).toNatClampNeg = 6 * v + a := by
          show (nI 6 * nI v + nI a).toNatClampNeg = _
          rw [nI_mu, nI_add, nI_clamp (by omega)]
        refine ⟨nb (fun u => arB (I 45) a v u && decide ((if lev = 1 then 1 else 2) ≤ N u)) 64, by have := nb_le (p := fun u => arB (I 45) a v u && decide ((if lev = 1 then 1 else 2) ≤ N u)) 64; omega, ?_, by rw [if_neg z6, if_neg z7]⟩
        rw [if_pos a6, if_neg (by decide), if_neg (by decide), n3, ix]
        refine congrArg nI (nb_cg 64 (fun u hu => ?_))
        rw [b5_and, hA v hv a a6 u hu]
        by_cases z : lev = 1
        · subst z
          rw [if_pos rfl, if_pos (show nI 1 = (1 : Int32) from rfl), b3 u hu]
        · rw [if_neg (show ¬ nI lev = (1 : Int32) from fun y => z (nI_ij (b := 1) (by omega) (by omega) y)), if_neg z, b4 u hu]
  obtain ⟨f, hf, e1, e2⟩ := ef
  unfold dR atB
  rw [n8, n10, e1, ← e2]
  unfold cmpB
  rcases (show sg = 0 ∨ sg = 1 ∨ sg = 2 by omega) with z | z | z <;> subst z
  · rw [if_pos (show nI 0 = (0 : Int32) from rfl), if_pos (show 0 = 0 from rfl)]
    exact decide_eq_decide.mpr (nI_ltI (by omega) (by omega))
  · rw [if_neg (show ¬ nI 1 = (0 : Int32) by decide), if_pos (show nI 1 = (1 : Int32) from rfl), if_neg (show ¬ 1 = 0 by decide), if_pos (show 1 = 1 from rfl)]
    exact decide_eq_decide.mpr ⟨fun y => nI_inj (by omega) (by omega) y, fun y => by rw [y]⟩
  · rw [if_neg (show ¬ nI 2 = (0 : Int32) by decide), if_neg (show ¬ nI 2 = (1 : Int32) by decide), if_neg (show ¬ 2 = 0 by decide), if_neg (show ¬ 2 = 1 by decide)]
    exact decide_eq_decide.mpr (nI_ltI (by omega) (by omega))
/-- isLaw -/
theorem ilw {l v : Nat} {p3 p4 : Int64} {Q : Int32 → rI0 → rJ0 → Prop} (hW : HW (I 45)) (hL : LR (I 45) W) (hA : AR (I 45) J) (hl : l < 12) (ht : tlB (I 45) l = true) (hv : seB (I 45) v = true) (oN : okN (I 45) N) (oH : okH (I 45) hd) (b3 : ∀ u, u < 64 → bits5 p3 u = decide (1 ≤ N u)) (b4 : ∀ u, u < 64 → bits5 p4 u = decide (2 ≤ N u)) (k : ∀ I', (∀ b, b ≠ 50 → I' b = I b) → Q (nI (if lwB (I 45) W N hd l v = true then 1 else 0)) I' J) : wcI S (d + 1) 195 [.ref 43, .int (nI (86 + 42 * l)), .int (nI v), .long p3, .long p4, .int (nI (N v)), .int (nI (hd v))] x I J Q := by
  obtain ⟨R, r1, r2, r3, r4⟩ := hL l hl ht
  have ck := (hW.2.2.2.2.2 l hl).2
  rw [r2, nI_toInt (by omega)] at ck
  have eV := r4 _ _ (rDec_i hv hA oN oH b3 b4) []
  refine c195_43 (ilp (V := W l (atB (I 45) N hd v)) hl (seB_l hv) r1 r2 r3 ck eV (fun I' f => ?_) R.length R [] I rfl (List.append_nil R).symm (fun _ _ => rfl) True.intro rfl)
  have e : lwB (I 45) W N hd l v = W l (atB (I 45) N hd v) := by
    unfold lwB
    rw [ht, Bool.true_and]
  rw [← e]
  exact k I' f
end RL0
end
section
/-! the reference's nights: levelOf, heldOf, lawLevel, moment -/
section RM0
/-- numbers of a row that are as they are read -/
def GI (g : Nat → Int32) : Prop := (∀ k, k ≤ 5 → g k = nI (gN g k)) ∧ (∀ s, s < 64 → g (6 + s) = nI (gN g (6 + s)) ∧ gN g (6 + s) ≤ 6) ∧ (∀ r, r < 8 → g (70 + r) = nI (gN g (70 + r)) ∧ gN g (70 + r) ≤ 999 ∧ g (78 + r) = nI (gN g (78 + r)) ∧ gN g (78 + r) ≤ 601) ∧ g 590 = nI (gN g 590) ∧ (∀ i, i < gN g 590 → g (591 + 3 * i) = nI (gN g (591 + 3 * i)) ∧ g (592 + 3 * i) = nI (gN g (592 + 3 * i)) ∧ (gN g (592 + 3 * i) ≠ 3 → g (593 + 3 * i) = nI (gN g (593 + 3 * i))))
def RP (J : rJ0) (N hd : Nat → Nat) : Prop := ∀ s, s < 64 → bits5 (J 43 38) s = decide (1 ≤ N s) ∧ bits5 (J 43 39) s = decide (2 ≤ N s) ∧ bits5 (J 43 40) s = decide (hd s % 2 = 1) ∧ bits5 (J 43 41) s = decide (2 ≤ hd s)
/-- ahead of t -/
def pvN (g : Nat → Int32) (W : Nat → lV) (P H : Nat → Bool) : Nat → (Nat → Nat) × (Nat → Nat)
  | 0 => (fun _ => 0, fun _ => 0)
  | t + 1 => nt g W P H t
/-- the reference's night, its next moment being t -/
def RSn (g : Nat → Int32) (W : Nat → lV) (P H : Nat → Bool) (t : Nat) (I : rI0) (J : rJ0) : Prop := I 43 42 = nI t ∧ I 43 43 = nI (prN g t) ∧ (∀ s, s < 64 → bits5 (J 43 36) s = cuP g 0 P (prN g t) s) ∧ (∀ s, s < 64 → bits5 (J 43 37) s = cuP g 1 H (prN g t) s) ∧ RP J (pvN g W P H t).1 (pvN g W P H t).2
/-- what a moment leaves as it was -/
def FM (I : rI0) (J : rJ0) (I' : rI0) (J' : rJ0) : Prop := (∀ b, b ≠ 43 → b ≠ 50 → I' b = I b) ∧ (∀ q, q ≠ 42 → q ≠ 43 → I' 43 q = I 43 q) ∧ (∀ b, b ≠ 43 → ¬ (52 ≤ b ∧ b ≤ 55) → J' b = J b) ∧ ∀ q, ¬ (36 ≤ q ∧ q ≤ 41) → J' 43 q = J 43 q
variable {S : Nat × (Nat → Int32)} {d : Nat} {x : mX} {I : rI0} {J : rJ0} {g : Nat → Int32} {W : Nat → lV} {N hd : Nat → Nat} {P H L : Nat → Bool} {py st : Bool}
theorem FM.rf : FM I J I J := ⟨fun _ _ _ => rfl, fun _ _ _ => rfl, fun _ _ _ => rfl, fun _ _ => rfl⟩
theorem FM.tr {I1 I2 : rI0} {J1 J2 : rJ0} (h : FM I J I1 J1) (h2 : FM I1 J1 I2 J2) : FM I J I2 J2 := ⟨fun b h3 h4 => (h2.1 b h3 h4).trans (h.1 b h3 h4), fun q h3 h4 => (h2.2.1 q h3 h4).trans (h.2.1 q h3 h4), fun b h3 h4 => (h2.2.2.1 b h3 h4).trans (h.2.2.1 b h3 h4), fun q h3 => (h2.2.2.2 q h3).trans (h.2.2.2 q h3)⟩
theorem hoX {p : Int64} {v : Nat} {Q : Int32 → rI0 → rJ0 → Prop} (hv : v < 64) (k : Q (nI (if bits5 p v = true then 1 else 0)) I J) : wcI S d 153 [.long p, .int (nI v)] x I J Q := by
  refine c153 ⟨fun z => ?_, fun z => ?_⟩
  · rw [if_pos (b5_SB.mp ((hb_iff hv).mp z))] at k
    exact k
  · rw [if_neg (show ¬ bits5 p v = true from fun y => z ((hb_iff hv).mpr (b5_SB.mpr y)))] at k
    exact k
theorem lvO {v : Nat} {Q : Int32 → rI0 → rJ0 → Prop} (hv : v < 64) (h : RP J N hd) (o : N v ≤ 2) (k : Q (nI (N v)) I J) : wcI S (d + 1) 196 [.ref 43, .int (nI v)] x I J Q := by
  obtain ⟨a1, a2, _, _⟩ := h v hv
  refine c196_43 (hoX hv ?_)
  rw [a2]
  rcases (show N v = 0 ∨ N v = 1 ∨ N v = 2 by omega) with z | z | z
  · rw [z] at k a1 ⊢
    refine ⟨fun _ => hoX hv ?_, fun y => absurd rfl y⟩
    rw [a1]
    exact ⟨fun _ => k, fun y => absurd rfl y⟩
  · rw [z] at k a1 ⊢
    refine ⟨fun _ => hoX hv ?_, fun y => absurd rfl y⟩
    rw [a1]
    exact ⟨fun y => absurd y (by decide), fun _ => k⟩
  · rw [z] at k ⊢
    exact ⟨fun y => absurd y (by decide), fun _ => k⟩
theorem hdO {v : Nat} {Q : Int32 → rI0 → rJ0 → Prop} (hv : v < 64) (h : RP J N hd) (o : hd v ≤ 3) (k : Q (nI (hd v)) I J) : wcI S (d + 1) 197 [.ref 43, .int (nI v)] x I J Q := by
  obtain ⟨_, _, a3, a4⟩ := h v hv
  refine c197_43 (hoX hv ?_)
  rw [a3]
  rcases (show hd v = 0 ∨ hd v = 1 ∨ hd v = 2 ∨ hd v = 3 by omega) with z | z | z | z
  · rw [z] at k a4 ⊢
    refine ⟨fun _ => hoX hv ?_, fun y => absurd rfl y⟩
    rw [a4]
    exact ⟨fun _ => k, fun y => absurd rfl y⟩
  · rw [z] at k a4 ⊢
    refine ⟨fun y => absurd y (by decide), fun _ => hoX hv ?_⟩
    rw [a4]
    exact ⟨fun _ => k, fun y => absurd rfl y⟩
  · rw [z] at k a4 ⊢
    refine ⟨fun _ => hoX hv ?_, fun y => absurd rfl y⟩
    rw [a4]
    exact ⟨fun y => absurd y (by decide), fun _ => k⟩
  · rw [z] at k a4 ⊢
    refine ⟨fun y => absurd y (by decide), fun _ => hoX hv ?_⟩
    rw [a4]
    exact ⟨fun y => absurd y (by decide), fun _ => k⟩
/-- a law's number in the row -/
theorem tl_i {l : Nat} : tlB g l = true ↔ (0 : Int32) < g (86 + 42 * l) := by
  unfold tlB
  rw [decide_eq_true_iff, Int32.lt_iff_toInt_lt]
  rfl
/-- lawLevel -/
theorem lwO {v : Nat} {p2 p3 : Int64} {Q : Int32 → rI0 → rJ0 → Prop} (hI : GI (I 45)) (hW : HW (I 45)) (hL : LR (I 45) W) (hA : AR (I 45) J) (hG : GA (I 45)) (hv : seB (I 45) v = true) (oN : okN (I 45) N) (oH : okH (I 45) hd) (b3 : ∀ u, u < 64 → bits5 p2 u = decide (1 ≤ N u)) (b4 : ∀ u, u < 64 → bits5 p3 u = decide (2 ≤ N u)) (k : ∀ I', (∀ b, b ≠ 50 → I' b = I b) → Q (nI (lwN (I 45) W N hd v)) I' J) : wcI S (d + 2) 198 [.ref 43, .int (nI v), .long p2, .long p3, .int (nI (N v)), .int (nI (hd v))] x I J Q := by
  have hv64 := seB_l hv
  obtain ⟨k1, k2⟩ := hI.2.1 v hv64
  have k3 := (hG.2.2.2.2.1 v hv).2
  have kp : gN (I 45) (6 + v) = kdN (I 45) v + 1 := by
    have hp : 0 < (I 45 (6 + v)).toInt := by
      unfold seB at hv
      rw [Bool.and_eq_true] at hv
      exact of_decide_eq_true hv.2
    unfold kdN
    have : 0 < gN (I 45) (6 + v) := by
      unfold gN
      omega
    omega
  have i1 : ((6 : Int32) + nI v).toNatClampNeg = 6 + v := by
    show (nI 6 + nI v).toNatClampNeg = _
    rw [nI_add, nI_clamp (by omega)]
  have o1 : ¬ mOut ((6 : Int32) + nI v) 681 := by
    show ¬ mOut (nI 6 + nI v) 681
    rw [nI_add]
    exact nI_in (by omega) (by omega)
  have e1 : (86 : Int32) + ((84 : Int32) * (I 45 (6 + v) - (1 : Int32))) = nI (86 + 42 * (2 * kdN (I 45) v)) := by
    rw [k1, kp, nI_pr]
    show nI 86 + (nI 84 * nI (kdN (I 45) v)) = _
    rw [nI_mu, nI_add]
    exact congrArg nI (by omega)
  have e2 : nI (86 + 42 * (2 * kdN (I 45) v)) + (42 : Int32) = nI (86 + 42 * (2 * kdN (I 45) v + 1)) := by
    show _ + nI 42 = _
    rw [nI_add]
    exact congrArg nI (by omega)
  have hn := (oN v).1
  have down : ∀ I1 : rI0, (∀ b, b ≠ 50 → I1 b = I b) → lwB (I 45) W N hd (2 * kdN (I 45) v) v = false → wp S (d + 2) 198 61 [some (.ref 43), some (.int (nI v)), some (.long p2), none, some (.long p3), none, some (.int (nI (N v))), some (.int (nI (hd v))), some (.int (nI (86 + 42 * (2 * kdN (I 45) v))))] [] (wv x I1 J) (rI x Q) := by
    intro I1 f hu
    refine v198_43_61 ?_
    rw [e2, nI_clamp (by omega), f 45 (by decide)]
    refine ⟨nI_in (by omega) (by omega), fun q => ?_, fun q => ?_⟩
    · have tl := tl_i.mpr q
      have h45 : I1 45 = I 45 := f 45 (by decide)
      refine ilw (I := I1) (W := W) (N := N) (hd := hd) (by rw [h45]; exact hW) (by rw [h45]; exact hL) (by rw [h45]; exact hA) (by omega) (by rw [h45]; exact tl) (by rw [h45]; exact hv) (by rw [h45]; exact oN) (by rw [h45]; exact oH) b3 b4 (fun I2 f2 => ?_)
      have f3 : ∀ b, b ≠ 50 → I2 b = I b := fun b hb => (f2 b hb).trans (f b hb)
      have kk := k I2 f3
      unfold lwN at kk
      rw [hu, if_neg (by decide)] at kk
      rw [h45]
      cases z : lwB (I 45) W N hd (2 * kdN (I 45) v + 1) v with
      | false =>
        rw [z, if_neg (by decide)] at kk
        exact ⟨fun _ => kk, fun y => absurd rfl y⟩
      | true =>
        rw [z, if_pos rfl] at kk
        refine ⟨fun y => absurd y (by decide), fun _ => ⟨fun y => ?_, fun y => ?_⟩⟩
        · have y : 0 < N v := (nI_ltI (a := 0) (by omega) (by omega)).mp y
          have e : nI (N v) - (1 : Int32) = nI (N v - 1) := by
            have := nI_pr (N v - 1)
            rw [show N v - 1 + 1 = N v by omega] at this
            exact this
          rw [e]
          exact kk
        · have y : N v = 0 := by
            rcases Nat.eq_zero_or_pos (N v) with w | w
            · exact w
            · exact absurd (nI_lt (a := 0) w (by omega)) y
          rw [y] at kk
          exact kk
    · have tl : tlB (I 45) (2 * kdN (I 45) v + 1) = false := ts_nt (fun y => q (tl_i.mp y))
      have kk := k I1 f
      unfold lwN at kk
      rw [hu, if_neg (by decide), show lwB (I 45) W N hd (2 * kdN (I 45) v + 1) v = false by unfold lwB; rw [tl]; rfl, if_neg (by decide)] at kk
      exact kk
  refine c198_43 ?_
  rw [i1, e1, nI_clamp (by omega)]
  refine ⟨o1, nI_in (by omega) (by omega), fun q => ?_, fun q => down I (fun _ _ => rfl) ?_⟩
  · have tl := tl_i.mpr q
    refine ilw (W := W) (N := N) (hd := hd) hW hL hA (by omega) tl hv oN oH b3 b4 (fun I2 f2 => ?_)
    cases z : lwB (I 45) W N hd (2 * kdN (I 45) v) v with
    | false => exact ⟨fun _ => down I2 f2 z, fun y => absurd rfl y⟩
    | true =>
      have kk := k I2 f2
      unfold lwN at kk
      rw [z, if_pos rfl] at kk
      refine ⟨fun y => absurd y (by decide), fun _ => ⟨fun y => ?_, fun y => ?_⟩⟩
      · have y : N v < 2 := (nI_ltI (b := 2) (by omega) (by omega)).mp y
        rw [if_pos y] at kk
        rw [← nI_succ]
        exact kk
      · have y : ¬ N v < 2 := fun w => y (nI_lt (b := 2) w (by omega))
        rw [if_neg y] at kk
        exact kk
  · unfold lwB
    rw [show tlB (I 45) (2 * kdN (I 45) v) = false from ts_nt (fun y => q (tl_i.mp y))]
    rfl
/-! rows, one behind another -/
theorem rw_e {r s : Nat} : rwB g r s = true ↔ r * gN g 1 ≤ s ∧ s < (r + 1) * gN g 1 := by
  unfold rwB
  rw [Bool.and_eq_true, decide_eq_true_iff, decide_eq_true_iff]
theorem rwN_old : ∀ r s, r * gN g 1 ≤ s → rwN g W P H L py st N hd r s = N s := by
  intro r
  induction r with
  | zero => intro s _; rfl
  | succ r ih =>
    intro s hs
    have e : (r + 1) * gN g 1 = r * gN g 1 + gN g 1 := Nat.succ_mul _ _
    show (if rwB g r s = true then _ else rwN g W P H L py st N hd r s) = _
    rw [if_neg (fun z => by have := (rw_e.mp z).2; omega)]
    exact ih s (by omega)
theorem rwN_fix {r s : Nat} (h : rwB g r s = true) : ∀ R, r < R → rwN g W P H L py st N hd R s = thN g W P H L py st (rwN g W P H L py st N hd r) hd s := by
  intro R
  induction R with
  | zero => intro h; exact absurd h (by omega)
  | succ R ih =>
    intro hR
    show (if rwB g R s = true then thN g W P H L py st (rwN g W P H L py st N hd R) hd s else rwN g W P H L py st N hd R s) = _
    by_cases z : r = R
    · subst z
      rw [if_pos h]
    · have e : (r + 1) * gN g 1 ≤ R * gN g 1 := Nat.mul_le_mul_right _ (by omega)
      rw [if_neg (fun y => by have := (rw_e.mp y).1; have := (rw_e.mp h).2; omega)]
      exact ih (by omega)
/-- what row r perceives -/
def Mr (g : Nat → Int32) (W : Nat → lV) (P H L : Nat → Bool) (py st : Bool) (N hd : Nat → Nat) (r : Nat) : Nat → Nat := if gN g 5 = 0 then N else rwN g W P H L py st N hd r
theorem Mr_o (h : okN g N) (r : Nat) : okN g (Mr g W P H L py st N hd r) := by
  unfold Mr
  split
  · exact h
  · exact rwN_o h r
theorem Mr_v {r s : Nat} (h : r * gN g 1 ≤ s) : Mr g W P H L py st N hd r s = N s := by
  unfold Mr
  split
  · rfl
  · exact rwN_old r s h
theorem nx_X {r s : Nat} (hr : r < gN g 0) (h : rwB g r s = true) (hs : seB g s = true) : nxN g W P H L py st N hd s = thN g W P H L py st (Mr g W P H L py st N hd r) hd s := by
  unfold nxN Mr
  split
  · show (if seB g s = true then _ else _) = _
    rw [if_pos hs]
  · exact rwN_fix h _ hr
/-- row by row: what the next row perceives -/
theorem Mr_n {r s : Nat} (h5 : gN g 5 ≠ 0) (hr : r < gN g 0) (o : okN g N) : Mr g W P H L py st N hd (r + 1) s = if s < (r + 1) * gN g 1 then nxN g W P H L py st N hd s else N s := by
  by_cases z : s < (r + 1) * gN g 1
  · rw [if_pos z]
    unfold Mr nxN
    rw [if_neg h5, if_neg h5]
    have hc : 0 < gN g 1 := by
      rcases Nat.eq_zero_or_pos (gN g 1) with y | y
      · rw [y] at z
        omega
      · exact y
    have e1 := Nat.div_add_mod s (gN g 1)
    have e2 := Nat.mod_lt s hc
    have e3 : (s / gN g 1 + 1) * gN g 1 = gN g 1 * (s / gN g 1) + gN g 1 := by rw [Nat.succ_mul, Nat.mul_comm]
    have hq : rwB g (s / gN g 1) s = true := rw_e.mpr ⟨Nat.div_mul_le_self s _, by omega⟩
    have hl : s / gN g 1 < r + 1 := Nat.div_lt_of_lt_mul (by rw [Nat.mul_comm]; exact z)
    rw [rwN_fix hq (r + 1) hl, rwN_fix hq (gN g 0) (by omega)]
  · rw [if_neg z]
    exact Mr_v (by omega)
end RM0
end
