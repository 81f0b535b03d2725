/-! two SEATS exchange their KINDS, on both sides -/
section TRE
variable {S : Nat × (Nat → Int32)} {d : Nat} {x : mX} {I I1 I2 : rI0} {J J1 J2 : rJ0} {g b : Nat → Int32} {W : Nat → lV} {P H : Nat → Bool} {u v : Nat}
theorem seB_p {s : Nat} (h : seB g s = true) : 0 < (g (6 + s)).toInt := by
  unfold seB at h
  rw [Bool.and_eq_true, decide_eq_true_iff, decide_eq_true_iff] at h
  exact h.2
theorem sw_pos (hu : seB g u = true) (hv : seB g v = true) (s : Nat) : 0 < (swG g u v (6 + s)).toInt ↔ 0 < (g (6 + s)).toInt := by
  have pu := seB_p hu
  have pv := seB_p hv
  rw [sw_c]
  by_cases z : s = u
  · rw [if_pos z, z]
    exact iff_of_true pv pu
  · rw [if_neg z]
    by_cases y : s = v
    · rw [if_pos y, y]
      exact iff_of_true pu pv
    · rw [if_neg y]
theorem sw_cnt (hu : seB g u = true) (hv : seB g v = true) : ∀ n, cnt (swG g u v) n = cnt g n := by
  intro n
  induction n with
  | zero => rfl
  | succ n ih =>
    show cnt (swG g u v) n + (if 0 < (swG g u v (6 + n)).toInt then 1 else 0) = cnt g n + (if 0 < (g (6 + n)).toInt then 1 else 0)
    rw [ih]
    by_cases z : 0 < (g (6 + n)).toInt
    · rw [if_pos z, if_pos ((sw_pos hu hv n).mpr z)]
    · rw [if_neg z, if_neg (fun w => z ((sw_pos hu hv n).mp w))]
theorem HW.sw (h : HW g) (hu : seB g u = true) (hv : seB g v = true) : HW (swG g u v) := by
  have lu := seB_l hu
  have lv := seB_l hv
  obtain ⟨h1, h2, h3, h4, h5, h6⟩ := h
  refine ⟨?_, ?_, fun s hs => ?_, ?_, fun s hs hr => ?_, fun l hl => ?_⟩
  · rw [sw_k lu lv (Or.inl (by decide))]; exact h1
  · rw [sw_k lu lv (Or.inl (by decide))]; exact h2
  · rw [sw_c]
    refine h3 _ ?_
    split
    · exact lv
    · split <;> omega
  · rw [sw_k lu lv (Or.inl (by decide)), sw_cnt hu hv]; exact h4
  · rw [sw_k lu lv (Or.inl (by decide)), sw_k lu lv (Or.inl (by decide))] at hr
    have z := h5 s hs hr
    have a := (h3 s hs).1
    have n := mt (sw_pos hu hv s).mp (by omega)
    have e : (if s = u then v else if s = v then u else s) < 64 := by
      split
      · exact lv
      · split <;> omega
    have c := (h3 _ e).1
    rw [← sw_c (g := g) (u := u) (v := v) (s := s)] at c
    omega
  · have t := h6 l hl
    unfold LWo at t ⊢
    have e : (fun j => swG g u v (88 + 42 * l + j)) = fun j => g (88 + 42 * l + j) := funext (fun j => sw_k lu lv (Or.inr (by omega)))
    rw [e, sw_k lu lv (Or.inr (by omega))]
    exact t
theorem RH.sw (h : RH g W I J) (hu : seB g u = true) (hv : seB g v = true) (e : I1 45 = swG g u v) (e30 : I1 43 30 = I 43 30) : RH (swG g u v) W I1 J := ⟨h.1.sw hu hv, h.2.1.sw hu hv, h.2.2.1.sw hu hv, h.2.2.2.1.sw (seB_l hu) (seB_l hv), e, fun z => (h.2.2.2.2.2 (e30.symm.trans z)).sw hu hv⟩
/-- the reference -/
theorem r232x {Q : rI0 → rJ0 → Prop} (hu : u < 64) (hv : v < 64) (eg : I 45 = g) (k : ∀ I', (∀ b, b ≠ 45 → I' b = I b) → I' 45 = swG g u v → Q I' J) : wcV S d 232 [.ref 43, .int (nI u), .int (nI v)] x I J Q := by
  have a : ∀ n, (6 : Int32) + nI n = nI (6 + n) := fun n => by
    rw [show (6 : Int32) = nI 6 from rfl, nI_add]
  refine c232_43 ?_
  rw [a, a, nI_clamp (by omega), nI_clamp (by omega)]
  refine ⟨nI_in (by omega) (by omega), nI_in (by omega) (by omega), nI_in (by omega) (by omega), nI_in (by omega) (by omega), k _ (fun b hb => by rw [mSet_ne hb, mSet_ne hb]) (funext (fun n => ?_))⟩
  show mSet (mSet I 45 (6 + u) (I 45 (6 + v))) 45 (6 + v) (I 45 (6 + u)) 45 n = swG g u v n
  rw [eg]
  unfold mSet va_up swG
  rw [if_pos rfl, if_pos rfl]
  by_cases z : n = 6 + v
  · rw [if_pos z]
    by_cases y : n = 6 + u
    · rw [if_pos y, ← y, z]
    · rw [if_neg y, if_pos z]
  · rw [if_neg z, if_neg z]
    by_cases y : n = 6 + u
    · rw [if_pos y, if_pos y]
    · rw [if_neg y, if_neg y, eg]
/-- the class -/
theorem c30x {Q : rI0 → rJ0 → Prop} (hM : HM g W I J) (hu : seB g u = true) (hv : seB g v = true) (hk : ∀ s, seB g s = true → kdN g s < 6 ∧ I 5 s = nI (kdN g s)) (k : ∀ I' J', (∀ b, b ≠ 5 → I' b = I b) → (∀ b, b ≠ 6 → J' b = J b) → HM (swG g u v) W I' J' → (∀ s, I' 5 s = I 5 (if s = u then v else if s = v then u else s)) → Q I' J') : wcV S (d + 2) 30 [.ref 4, .int (nI u), .int (nI v)] x I J Q := by
  have lu := seB_l hu
  have lv := seB_l hv
  refine c30_4 (d := d + 1) ⟨nI_in (by omega) (by omega), nI_in (by omega) (by omega), ?_⟩
  rw [nI_clamp (by omega), nI_clamp (by omega)]
  refine sk_4 (d := d) lu (fun J1 f1 b1 => sk_4 (d := d) lv (fun J2 f2 b2 => ?_))
  have fi : ∀ b, b ≠ 5 → mSet (mSet I 5 u (I 5 v)) 5 v (I 5 u) b = I b := fun b hb => by rw [mSet_ne hb, mSet_ne hb]
  have fj : ∀ b, b ≠ 6 → J2 b = J b := fun b hb => (f2 b hb).trans (f1 b hb)
  refine k _ J2 fi fj (hM.sw hu hv fi fj (fun q hq s hs => ?_)) (fun s => ?_)
  · rw [b2 q hq s hs, b1 q hq s hs, sw_kd, (hk u hu).2, (hk v hv).2]
    have ku := (hk u hu).1
    have kv := (hk v hv).1
    have dd : ∀ n, n < 6 → decide (nI n = nI q) = decide (n = q) := fun n hn => decide_eq_decide.mpr ⟨fun w => nI_inj (by omega) (by omega) w, fun w => by rw [w]⟩
    by_cases y : s = v
    · rw [if_pos y, dd _ ku]
      by_cases z : s = u
      · rw [if_pos z, y, hv, Bool.true_and, ← y, z]
      · rw [if_neg z, if_pos y, y, hv, Bool.true_and]
    · rw [if_neg y]
      by_cases z : s = u
      · rw [if_pos z, if_pos z, dd _ kv, z, hu, Bool.true_and]
      · rw [if_neg z, if_neg z, if_neg y]
        exact hM.2.2.2.2.2.1 q hq s hs
  · show mSet (mSet I 5 u (I 5 v)) 5 v (I 5 u) 5 s = _
    unfold mSet va_up
    rw [if_pos rfl, if_pos rfl]
    by_cases y : s = v
    · rw [if_pos y]
      by_cases z : s = u
      · rw [if_pos z, ← y, z]
      · rw [if_neg z, if_pos y]
    · rw [if_neg y]
      by_cases z : s = u
      · rw [if_pos z, if_pos z]
      · rw [if_neg z, if_neg z, if_neg y]
end TRE
