/-! two SEATS exchange their KINDS -/
section TRD
def swG (g : Nat → Int32) (u v k : Nat) : Int32 := if k = 6 + u then g (6 + v) else if k = 6 + v then g (6 + u) else g k
variable {S : Nat × (Nat → Int32)} {d : Nat} {x : mX} {I I1 I2 : rI0} {J J1 J2 : rJ0} {g b : Nat → Int32} {W : Nat → lV} {P H : Nat → Bool} {u v : Nat}
theorem sw_k {k : Nat} (hu : u < 64) (hv : v < 64) (h : k < 6 ∨ 70 ≤ k) : swG g u v k = g k := by
  unfold swG
  rw [if_neg (by omega), if_neg (by omega)]
theorem sw_n {k : Nat} (hu : u < 64) (hv : v < 64) (h : k < 6 ∨ 70 ≤ k) : gN (swG g u v) k = gN g k := by
  unfold gN
  rw [sw_k hu hv h]
theorem sw_c {s : Nat} : swG g u v (6 + s) = g (6 + (if s = u then v else if s = v then u else s)) := by
  unfold swG
  by_cases z : s = u
  · rw [if_pos (by omega), if_pos z]
  · rw [if_neg (by omega), if_neg z]
    by_cases y : s = v
    · rw [if_pos (by omega), if_pos y]
    · rw [if_neg (by omega), if_neg y]
theorem sw_se (hu : seB g u = true) (hv : seB g v = true) (s : Nat) : seB (swG g u v) s = seB g s := by
  have lu := seB_l hu
  have lv := seB_l hv
  unfold seB at hu hv ⊢
  rw [Bool.and_eq_true] at hu hv
  rw [sw_c]
  by_cases z : s = u
  · rw [if_pos z, z, hu.1, hu.2, hv.2]
  · rw [if_neg z]
    by_cases y : s = v
    · rw [if_pos y, y, hv.1, hv.2, hu.2]
    · rw [if_neg y]
theorem sw_kd {s : Nat} : kdN (swG g u v) s = kdN g (if s = u then v else if s = v then u else s) := by
  unfold kdN gN
  rw [sw_c]
theorem sw_ar (hu : seB g u = true) (hv : seB g v = true) (a s w : Nat) : arB (swG g u v) a s w = arB g a s w := by
  have lu := seB_l hu
  have lv := seB_l hv
  unfold arB
  rw [sw_n lu lv (Or.inl (by decide)), sw_n lu lv (Or.inl (by decide)), sw_se hu hv, sw_se hu hv]
theorem sw_tl (hu : u < 64) (hv : v < 64) (l : Nat) : tlB (swG g u v) l = tlB g l := by
  unfold tlB
  rw [sw_k hu hv (Or.inr (by omega))]
theorem sw_as {s : Nat} (hu : seB g u = true) (hv : seB g v = true) (hs : seB g s = true) : seB g (if s = u then v else if s = v then u else s) = true := by
  split
  · exact hv
  · split
    · exact hu
    · exact hs
theorem GA.sw (h : GA g) (hu : seB g u = true) (hv : seB g v = true) : GA (swG g u v) := by
  have lu := seB_l hu
  have lv := seB_l hv
  obtain ⟨h1, h2, h3, h4, h5, h6, h7, h8⟩ := h
  refine ⟨?_, ?_, ?_, ?_, fun s hs => ?_, ?_, fun i hi => ?_, fun i j hij hj => ?_⟩
  · rw [sw_n lu lv (Or.inl (by decide))]; exact h1
  · rw [sw_n lu lv (Or.inl (by decide))]; exact h2
  · rw [sw_n lu lv (Or.inl (by decide))]; exact h3
  · rw [sw_n lu lv (Or.inl (by decide))]; exact h4
  · rw [sw_se hu hv] at hs
    rw [sw_n lu lv (Or.inl (by decide)), sw_n lu lv (Or.inl (by decide)), sw_kd]
    exact ⟨(h5 s hs).1, (h5 _ (sw_as hu hv hs)).2⟩
  · rw [sw_n lu lv (Or.inr (by decide))]; exact h6
  · rw [sw_n lu lv (Or.inr (by decide))] at hi
    rw [sw_n lu lv (Or.inr (by omega)), sw_n lu lv (Or.inr (by omega)), sw_n lu lv (Or.inr (by omega)), sw_se hu hv]
    exact h7 i hi
  · rw [sw_n lu lv (Or.inr (by decide))] at hj
    rw [sw_n lu lv (Or.inr (by omega)), sw_n lu lv (Or.inr (by omega))]
    exact h8 i j hij hj
theorem GI.sw (h : GI g) (hu : seB g u = true) (hv : seB g v = true) : GI (swG g u v) := by
  have lu := seB_l hu
  have lv := seB_l hv
  obtain ⟨h1, h2, h3, h4, h5⟩ := h
  refine ⟨fun k hk => ?_, fun s hs => ?_, fun r hr => ?_, ?_, fun i hi => ?_⟩
  · rw [sw_n lu lv (Or.inl (by omega)), sw_k lu lv (Or.inl (by omega))]
    exact h1 k hk
  · have e : (if s = u then v else if s = v then u else s) < 64 := by
      split
      · exact lv
      · split <;> omega
    have t := h2 _ e
    unfold gN at t ⊢
    rw [sw_c]
    exact t
  · rw [sw_n lu lv (Or.inr (by omega)), sw_k lu lv (Or.inr (by omega)), sw_n lu lv (Or.inr (by omega)), sw_k lu lv (Or.inr (by omega))]
    exact h3 r hr
  · rw [sw_n lu lv (Or.inr (by decide)), sw_k lu lv (Or.inr (by decide))]
    exact h4
  · rw [sw_n lu lv (Or.inr (by decide))] at hi
    rw [sw_n lu lv (Or.inr (by omega)), sw_k lu lv (Or.inr (by omega)), sw_n lu lv (Or.inr (by omega)), sw_k lu lv (Or.inr (by omega)), sw_n lu lv (Or.inr (by omega)), sw_k lu lv (Or.inr (by omega))]
    exact h5 i hi
theorem LR.sw (h : LR g W) (hu : u < 64) (hv : v < 64) : LR (swG g u v) W := by
  intro l hl ht
  rw [sw_tl hu hv] at ht
  obtain ⟨R, h1, h2, h3, h4⟩ := h l hl ht
  refine ⟨R, h1, ?_, ?_, h4⟩
  · rw [sw_k hu hv (Or.inr (by omega))]
    exact h2
  · have e : (fun i => swG g u v (88 + 42 * l + i)) = fun i => g (88 + 42 * l + i) := funext (fun i => sw_k hu hv (Or.inr (by omega)))
    rw [e]
    exact h3
theorem AR.sw (h : AR g J) (hu : seB g u = true) (hv : seB g v = true) : AR (swG g u v) J := by
  intro s hs a ha w hw
  rw [sw_se hu hv] at hs
  rw [sw_ar hu hv]
  exact h s hs a ha w hw
theorem HM.sw (h : HM g W I J) (hu : seB g u = true) (hv : seB g v = true) (hi : ∀ b, b ≠ 5 → I1 b = I b) (hj : ∀ b, b ≠ 6 → J1 b = J b) (h6 : ∀ q, q < 6 → ∀ s, s < 64 → bits5 (J1 6 q) s = (seB g s && decide (kdN (swG g u v) s = q))) : HM (swG g u v) W I1 J1 := by
  have lu := seB_l hu
  have lv := seB_l hv
  obtain ⟨a1, a2, a3, a4, a5, a6, a7, a8, a9, a10, a11⟩ := h
  refine ⟨?_, ?_, ?_, ?_, fun s hs => ?_, fun q hq s hs => ?_, fun r hr => ?_, fun l hl => ?_, fun a ha s hs w hw => ?_, ?_, fun i hi2 => ?_⟩
  · rw [hi 4 (by decide), sw_n lu lv (Or.inl (by decide))]; exact a1
  · rw [hi 4 (by decide), sw_n lu lv (Or.inl (by decide))]; exact a2
  · rw [hi 4 (by decide), sw_n lu lv (Or.inl (by decide))]; exact a3
  · rw [hi 4 (by decide), sw_n lu lv (Or.inl (by decide))]; exact a4
  · rw [hj 4 (by decide), sw_se hu hv]; exact a5 s hs
  · rw [sw_se hu hv]; exact h6 q hq s hs
  · rw [hi 8 (by decide), sw_n lu lv (Or.inr (by omega))]; exact a7 r hr
  · rw [hi 9 (by decide), hi 10 (by decide), sw_tl lu lv]; exact a8 l hl
  · rw [sw_se hu hv] at hs
    rw [hj 11 (by decide), sw_ar hu hv]
    exact a9 a ha s hs w hw
  · rw [hi 3 (by decide), sw_n lu lv (Or.inr (by decide))]; exact a10
  · rw [sw_n lu lv (Or.inr (by decide))] at hi2
    rw [hi 12 (by decide), hi 13 (by decide), hi 14 (by decide), sw_n lu lv (Or.inr (by omega)), sw_n lu lv (Or.inr (by omega)), sw_n lu lv (Or.inr (by omega))]
    exact a11 i hi2
end TRD
