section CD
variable {S : Nat × (Nat → Int32)} {d : Nat} {x : mX} {I : rI0} {J : rJ0}
/-- what the diary asks -/
def DB (I : rI0) : Prop := RB (I 31 6) 601 ∧ RB (I 36 3) 30 ∧ RB (I 4 0) 8 ∧ RB (I 3 4) 30
theorem keepA {K : Nat} {Q : rI0 → rJ0 → Prop} (hK : K ≤ 600) (h : I 31 6 = nI K) (k : ∀ J', OffD I J (mSet I 31 6 (nI (K + 1))) J' → J' 36 = J 36 → Q (mSet I 31 6 (nI (K + 1))) J') : wcV S d 8 [.ref 31] x I J Q := by
  have hin : ¬ mOut (I 31 6) 601 := by rw [h]; exact nI_in (by omega) (by omega)
  refine c8_31 ⟨fun q => absurd q (by rw [h]; exact nI_nlt (a := 600) (by omega) (by omega)), fun _ => ⟨hin, hin, hin, hin, ?_⟩⟩
  rw [h, ← nI_succ]
  refine k _ ⟨fun a ha => mSet_ne (by omega), fun a ha => ?_⟩ ?_
  · rw [mSet_ne (by omega), mSet_ne (by omega), mSet_ne (by omega), mSet_ne (by omega)]
  · rw [mSet_ne (by omega), mSet_ne (by omega), mSet_ne (by omega), mSet_ne (by omega)]
theorem reach_res {K : Nat} {l1 : Int32} (h1 : 1 ≤ K) (h2 : K ≤ 601) : RB (if 0 < (if (nI K - 1) < l1 then nI K - 1 else l1) then if (nI K - 1) < l1 then nI K - 1 else l1 else 0) 600 := by
  obtain ⟨c, rfl⟩ : ∃ c, K = c + 1 := ⟨K - 1, by omega⟩
  rw [nI_pred]
  by_cases h : nI c < l1
  · rw [if_pos h]
    by_cases z : (0 : Int32) < nI c
    · rw [if_pos z]
      exact ⟨c, by omega, rfl⟩
    · rw [if_neg z]
      exact ⟨0, by omega, rfl⟩
  · rw [if_neg h]
    by_cases z : (0 : Int32) < l1
    · rw [if_pos z]
      obtain ⟨u, hu, e⟩ := i_nat (l := l1) (n := c) (by omega) (fun q => by
        rw [Int32.lt_iff_toInt_lt] at q z
        omega) h
      exact ⟨u, by omega, e⟩
    · rw [if_neg z]
      exact ⟨0, by omega, rfl⟩
theorem reach_lpA {l1 : Int32} {Q : Int32 → rI0 → rJ0 → Prop} : ∀ (m K : Nat) (I : rI0) (J : rJ0), K + m = 601 → 1 ≤ K → I 31 6 = nI K → RB (I 36 3) 30 → RB (I 4 0) 8 → (∀ r I' J', RB r 600 → OffD I J I' J' → RB (I' 31 6) 601 → RB (I' 36 3) 30 → Q r I' J') → wp S (d + 23) 7 37 [some (.ref 31), some (.int l1), some (.int (nI K))] [] (wv x I J) (rI x Q) := by
  intro m
  induction m with
  | zero =>
    intro K I J hm hK h6 h3 h4 k
    have e := k _ I J (reach_res (l1 := l1) hK (by omega)) OffD.rf ⟨K, by omega, h6⟩ h3
    rw [← h6] at e
    exact v7_31_37 ⟨fun _ => e, fun _ => ⟨fun _ => e, fun q => absurd (nI_lt (a := 600) (by omega) (by omega)) q⟩⟩
  | succ m ih =>
    intro K I J hm hK h6 h3 h4 k
    have e := k _ I J (reach_res (l1 := l1) hK (by omega)) OffD.rf ⟨K, by omega, h6⟩ h3
    rw [← h6] at e
    refine v7_31_37 ⟨fun _ => e, fun _ => ⟨fun _ => e, fun _ => ⟨fun _ => stepA_36 h4 h3 (fun I1 J1 o1 n1 => ?_), fun _ => e⟩⟩⟩
    refine keepA (K := K) (by omega) ((congrFun (o1.1 31 (by decide)) 6).trans h6) (fun J2 o2 e2 => ?_)
    rw [← nI_succ]
    exact ih (K + 1) _ J2 (by omega) (by omega) rfl n1 (by show RB (I1 4 0) 8; rw [o1.1 4 (by decide)]; exact h4) (fun r I' J' hr o3 a3 b3 => k r I' J' hr ((OffD.of o1).tr (o2.tr o3)) a3 b3)
theorem reachA {t : Int32} {Q : Int32 → rI0 → rJ0 → Prop} (h : DB I) (k : ∀ r I' J', RB r 600 → OffD I J I' J' → DB I' → Q r I' J') : wcI S (d + 23) 7 [.ref 31, .int t] x I J Q := by
  obtain ⟨⟨K, hK, e6⟩, h3, h4, h5⟩ := h
  have k' : ∀ r I' J', RB r 600 → OffD I J I' J' → RB (I' 31 6) 601 → RB (I' 36 3) 30 → Q r I' J' := fun r I' J' hr ho a1 b1 => k r I' J' hr ho ⟨a1, b1, by rw [ho.1 4 (by omega)]; exact h4, by rw [ho.1 3 (by omega)]; exact h5⟩
  refine c7_31 ⟨fun h0 => beginA_36 (d := d + 19) h4 h5 (fun I1 J1 o1 n1 => ?_), fun h0 => ?_⟩
  · refine keepA (K := 0) (by omega) ((congrFun (o1.1 31 (by decide)) 6).trans h0) (fun J2 o2 e2 => ?_)
    exact reach_lpA 600 1 _ J2 rfl (by omega) rfl n1 (by show RB (I1 4 0) 8; rw [o1.1 4 (by decide)]; exact h4) (fun r I' J' hr o3 a3 b3 => k' r I' J' hr ((OffD.of o1).tr (o2.tr o3)) a3 b3)
  · rw [e6]
    refine reach_lpA (601 - K) K I J (by omega) ?_ e6 h3 h4 k'
    rcases K with _ | K
    · exact absurd e6 h0
    · omega
theorem isUpA {p : Int32} {Q : Int32 → rI0 → rJ0 → Prop} (h : RB (I 31 6) 601) (k : ∀ r, (r = 0 ∨ r = 1) → Q r I J) : wcI S (d + 1) 9 [.ref 31, .int p] x I J Q := by
  refine c9_31 ⟨fun _ => k 0 (Or.inl rfl), fun h0 => ⟨fun h1 => ⟨?_, bcA (fun v => ⟨fun _ => k 0 (Or.inl rfl), fun _ => k 1 (Or.inr rfl)⟩)⟩, fun _ => k 0 (Or.inl rfl)⟩⟩
  obtain ⟨K, hK, e⟩ := h
  rw [e] at h1
  obtain ⟨u, hu, eu⟩ := i_nat (l := p) (n := K) (by omega) h0 (fun q => by
    rw [Int32.lt_iff_toInt_lt] at q h1
    omega)
  rw [eu] at h1 ⊢
  rcases Nat.lt_or_ge u K with z | z
  · exact nI_in (by omega) (by omega)
  · exact absurd h1 (nI_nlt z (by omega))
theorem heightD_lpA {Q : Int32 → rI0 → rJ0 → Prop} : ∀ (m c : Nat) (l1 : Int32) (I : rI0) (J : rJ0), c + m = 61 → DB I → (∀ v I' J', OffD I J I' J' → DB I' → Q v I' J') → wp S (d + 24) 10 4 [some (.ref 31), some (.int l1), some (.int (nI c))] [] (wv x I J) (rI x Q) := by
  intro m
  induction m with
  | zero =>
    intro c l1 I J hc h k
    have hc : c = 61 := by omega
    subst hc
    exact v10_31_4 ⟨fun _ => k _ I J OffD.rf h, fun q => absurd (by decide) q⟩
  | succ m ih =>
    intro c l1 I J hc h k
    refine v10_31_4 ⟨fun q => absurd q (nI_nlt (a := 60) (by omega) (by omega)), fun _ => reachA h (fun r I1 J1 hr o1 d1 => ⟨hr.mo (by omega) (by omega), bcA (fun v => ?_)⟩)⟩
    rw [← nI_succ]
    exact ih (c + 1) _ I1 J1 (by omega) d1 (fun v I' J' o2 d2 => k v I' J' (o1.tr o2) d2)
theorem heightDA {Q : Int32 → rI0 → rJ0 → Prop} (h : DB I) (k : ∀ v I' J', OffD I J I' J' → DB I' → Q v I' J') : wcI S (d + 24) 10 [.ref 31] x I J Q := c10_31 (heightD_lpA 61 0 _ I J rfl h k)
theorem alikeDA {p q : Int32} {Q : Int32 → rI0 → rJ0 → Prop} (hp : RB p 600) (hq : RB q 600) (k : ∀ r, (r = 0 ∨ r = 1) → Q r I J) : wcI S d 12 [.ref 31, .int p, .int q] x I J Q := by
  have hp := hp.mo (m := 601) (by omega) (by omega)
  have hq := hq.mo (m := 601) (by omega) (by omega)
  have k0 := k 0 (Or.inl rfl)
  exact c12_31 ⟨hp, hq, fun _ => ⟨hp, hq, fun _ => ⟨hp, hq, fun _ => ⟨hp, hq, fun _ => k 1 (Or.inr rfl), fun _ => k0⟩, fun _ => k0⟩, fun _ => k0⟩, fun _ => k0⟩
theorem like_lpA {l1 l2 : Int32} {Q : Int32 → rI0 → rJ0 → Prop} (h2 : RB l2 600) : ∀ (m c : Nat) (I : rI0) (J : rJ0), c + m = 601 → DB I → (∀ v I' J', OffD I J I' J' → DB I' → Q v I' J') → wp S (d + 24) 11 10 [some (.ref 31), some (.int l1), some (.int l2), some (.int (nI c)), none] [] (wv x I J) (rI x Q) := by
  intro m
  induction m with
  | zero =>
    intro c I J hc h k
    have hc : c = 601 := by omega
    subst hc
    exact v11_31_10 ⟨fun _ => k _ I J OffD.rf h, fun q => absurd (by decide) q⟩
  | succ m ih =>
    intro c I J hc h k
    refine v11_31_10 ⟨fun q => absurd q (nI_nlt (a := 600) (by omega) (by omega)), fun _ => reachA h (fun r I1 J1 hr o1 d1 => alikeDA h2 hr (fun r2 _ => ⟨fun _ => ⟨fun _ => k _ I1 J1 o1 d1, fun _ => ?_⟩, fun _ => k _ I1 J1 o1 d1⟩))⟩
    rw [← nI_succ]
    exact ih (c + 1) I1 J1 (by omega) d1 (fun v I' J' o2 d2 => k v I' J' (o1.tr o2) d2)
theorem likeBehindA {c : Nat} {Q : Int32 → rI0 → rJ0 → Prop} (hc : c ≤ 600) (h : DB I) (k : ∀ v I' J', OffD I J I' J' → DB I' → Q v I' J') : wcI S (d + 24) 11 [.ref 31, .int (nI c)] x I J Q := by
  refine c11_31 (reachA h (fun r I1 J1 hr o1 d1 => ?_))
  rw [← nI_succ]
  exact like_lpA hr (600 - c) (c + 1) I1 J1 (by omega) d1 (fun v I' J' o2 d2 => k v I' J' (o1.tr o2) d2)
end CD
