/-! the calls, one by one, on both sides -/
section OS0
variable {S : Nat × (Nat → Int32)} {d n : Nat} {x : mX} {I I' I1 I2 : rI0} {J J' J1 J2 : rJ0} {g : Nat → Int32} {W : Nat → lV} {Q : Int32 → rI0 → rJ0 → Prop}
theorem op_k {dc mc dr mr : Nat} {as bs : List Value} {Pc : Int32 → rI0 → rJ0 → Prop} (h : INV n x I J) (rl : RLx x I J) (cb : wcI S dc mc as x I J (fun _ I1 J1 => CV I1 J1 ∧ UN I J I1 J1 ∧ I1 1 1 = I 1 1)) (cx : wcI S dc mc as x I J Pc) (rb : ∀ I1 J1, MV I1 J1 → wcI S dr mr bs x I1 J1 (fun _ I2 J2 => Mz_ I1 J1 (I1 43 2, some (I1 43 13)) (I1 45 0).toInt (I1 45 1).toInt I2 J2)) (ry : ∀ v I1 J1, Pc v I1 J1 → UN I J I1 J1 → MV I1 J1 → wcI S dr mr bs x I1 J1 (fun r I2 J2 => v = r ∧ ∃ W, NTw W x I2 J2)) (k : ∀ r1 I1 J1, wcI S dr mr bs x I1 J1 (fun r2 I2 J2 => r1 = r2 ∧ INV (n + 1) x I2 J2 ∧ RX x I2 J2) → Q r1 I1 J1) : wcI S dc mc as x I J Q := by
  refine wcI_mono (wcI_and cb cx) (fun r1 I1 J1 g => k _ _ _ ?_)
  obtain ⟨⟨c, u, e1⟩, p⟩ := g
  have hi := h.c c u.w
  refine wcI_mono (wcI_and (rb I1 J1 hi.2.1) (ry r1 I1 J1 p u hi.2.1)) (fun r2 I2 J2 g2 => ?_)
  exact ⟨g2.2.1, hi.m g2.1.f, rl_k rl u e1 g2.1, g2.2.2⟩
theorem op_v {dc mc dr mr : Nat} {as bs : List Value} {Pc : Int32 → rI0 → rJ0 → Prop} (h : INV n x I J) (rl : RLx x I J) (cb : wcI S dc mc as x I J (fun _ I1 J1 => CV I1 J1 ∧ UN I J I1 J1 ∧ I1 1 1 = 0)) (cx : wcI S dc mc as x I J Pc) (rb : ∀ I1 J1, MV I1 J1 → wcI S dr mr bs x I1 J1 (fun _ I2 J2 => Mz_ I1 J1 (0, some (I1 43 13)) (I1 45 0).toInt (I1 45 1).toInt I2 J2)) (ry : ∀ v I1 J1, Pc v I1 J1 → UN I J I1 J1 → MV I1 J1 → wcI S dr mr bs x I1 J1 (fun r I2 J2 => v = r ∧ ∃ W, NTw W x I2 J2)) (k : ∀ r1 I1 J1, wcI S dr mr bs x I1 J1 (fun r2 I2 J2 => r1 = r2 ∧ INV (n + 1) x I2 J2 ∧ RX x I2 J2) → Q r1 I1 J1) : wcI S dc mc as x I J Q := by
  refine wcI_mono (wcI_and cb cx) (fun r1 I1 J1 g => k _ _ _ ?_)
  obtain ⟨⟨c, u, e1⟩, p⟩ := g
  have hi := h.c c u.w
  refine wcI_mono (wcI_and (rb I1 J1 hi.2.1) (ry r1 I1 J1 p u hi.2.1)) (fun r2 I2 J2 g2 => ?_)
  exact ⟨g2.2.1, hi.m g2.1.f, rl_v rl u e1 g2.1, g2.2.2⟩
/-- the reference's side behind the class's -/
theorem NTw.r1 (nt : NTw W x I J) (rl : RLx x I J) (h : MV I J) (u : UN I J I1 J1) : RH (I 45) W I1 J1 ∧ (∀ s, s < 64 → bits5 (J1 43 16) s = bits5 (J 3 5) s) ∧ ∀ s, s < 64 → bits5 (J1 43 17) s = bits5 (J 3 6) s := ⟨(nt.rh rl h).mv (u.1 45 (by omega)) (by rw [u.1 43 (by omega)]) (u.2.1 51 (by omega)), fun s hs => by rw [u.2.1 43 (by omega)]; exact nt.e6 s hs, fun s hs => by rw [u.2.1 43 (by omega)]; exact nt.e7 s hs⟩
theorem op_10 {p1 : Int32} {p2 : Int32} {p3 : Int32} {p4 : Int32} (h : INV n x I J) (ht : RX x I J) (k : ∀ r1 I1 J1, wcI S (d + 47) 204 [.ref 43, .int p1, .int p2, .int p3, .int p4] x I1 J1 (fun r2 I2 J2 => r1 = r2 ∧ INV (n + 1) x I2 J2 ∧ RX x I2 J2) → Q r1 I1 J1) : wcI S (d + 47) 109 [.ref 0, .int p1, .int p2, .int p3, .int p4] x I J Q := by
  obtain ⟨rl, W, nt⟩ := ht
  have hC := nt.ce rl
  have hD := nt.2.2.2.2.2.2
  refine op_k h rl (zSees h.1.cz (fun _ _ _ c => c)) (xSees (d := d + 24) (Q := fun v I1 J1 => v = seesV (I 45) W (bits5 (J 3 5)) (bits5 (J 3 6)) p1 p2 p3 p4 ∧ AKc W I J I1 J1) hC hD (fun I1 J1 f di => ⟨rfl, AKc.fa nt rl f di⟩)) (fun I1 J1 m => mSees m.mq (fun _ _ _ z => z)) (fun v I1 J1 c u m => ?_) k
  have r1 := nt.r1 rl h.2.1 u
  exact ySees (d := d + 41) r1.1 r1.2.1 r1.2.2 (fun I2 J2 f r => ⟨c.1, W, nt.ask rl c.2 f.p r⟩)
theorem op_11 {p1 : Int32} {p2 : Int32} {p3 : Int32} (h : INV n x I J) (ht : RX x I J) (k : ∀ r1 I1 J1, wcI S (d + 47) 205 [.ref 43, .int p1, .int p2, .int p3] x I1 J1 (fun r2 I2 J2 => r1 = r2 ∧ INV (n + 1) x I2 J2 ∧ RX x I2 J2) → Q r1 I1 J1) : wcI S (d + 47) 110 [.ref 0, .int p1, .int p2, .int p3] x I J Q := by
  obtain ⟨rl, W, nt⟩ := ht
  have hC := nt.ce rl
  have hD := nt.2.2.2.2.2.2
  refine op_k h rl (zAt h.1.cz (fun _ _ _ c => c)) (xAt (d := d + 24) (Q := fun v I1 J1 => v = atV (I 45) W (bits5 (J 3 5)) (bits5 (J 3 6)) p1 p2 p3 ∧ AKc W I J I1 J1) hC hD (fun I1 J1 f di => ⟨rfl, AKc.fa nt rl f di⟩)) (fun I1 J1 m => mAt m.mq (fun _ _ _ z => z)) (fun v I1 J1 c u m => ?_) k
  have r1 := nt.r1 rl h.2.1 u
  exact yAt (d := d + 41) r1.1 r1.2.1 r1.2.2 (fun I2 J2 f r => ⟨c.1, W, nt.ask rl c.2 f.p r⟩)
theorem op_12 {p1 : Int32} {p2 : Int32} (h : INV n x I J) (ht : RX x I J) (k : ∀ r1 I1 J1, wcI S (d + 47) 206 [.ref 43, .int p1, .int p2] x I1 J1 (fun r2 I2 J2 => r1 = r2 ∧ INV (n + 1) x I2 J2 ∧ RX x I2 J2) → Q r1 I1 J1) : wcI S (d + 47) 111 [.ref 0, .int p1, .int p2] x I J Q := by
  obtain ⟨rl, W, nt⟩ := ht
  have hC := nt.ce rl
  have hD := nt.2.2.2.2.2.2
  refine op_k h rl (manyP h.1 (fun _ _ _ c u => ⟨c, u.1, u.2⟩)) (xMany (d := d + 24) (Q := fun v I1 J1 => v = manyV (I 45) W (bits5 (J 3 5)) (bits5 (J 3 6)) p1 p2 ∧ AKc W I J I1 J1) hC hD (fun I1 J1 f di => ⟨rfl, AKc.fa nt rl f di⟩)) (fun I1 J1 m => mMany m.mq (fun _ _ _ z => z)) (fun v I1 J1 c u m => ?_) k
  have r1 := nt.r1 rl h.2.1 u
  exact yMany (d := d + 41) r1.1 r1.2.1 r1.2.2 (fun I2 J2 f r => ⟨c.1, W, nt.ask rl c.2 f.p r⟩)
theorem op_13 {p1 : Int32} {p2 : Int32} {p3 : Int32} (h : INV n x I J) (ht : RX x I J) (k : ∀ r1 I1 J1, wcI S (d + 47) 207 [.ref 43, .int p1, .int p2, .int p3] x I1 J1 (fun r2 I2 J2 => r1 = r2 ∧ INV (n + 1) x I2 J2 ∧ RX x I2 J2) → Q r1 I1 J1) : wcI S (d + 47) 112 [.ref 0, .int p1, .int p2, .int p3] x I J Q := by
  obtain ⟨rl, W, nt⟩ := ht
  have hC := nt.ce rl
  have hD := nt.2.2.2.2.2.2
  refine op_k h rl (zWould h.1.cz (fun _ _ _ c => c)) (xWould (d := d + 24) (Q := fun v I1 J1 => v = wouldV (I 45) W (bits5 (J 3 5)) (bits5 (J 3 6)) p1 p2 p3 ∧ AKc W I J I1 J1) hC hD (fun s hs => (nt.kd s hs).2) (fun I1 J1 f di => ⟨rfl, AKc.fa nt rl f di⟩)) (fun I1 J1 m => mWould m.mq (fun _ _ _ z => z)) (fun v I1 J1 c u m => ?_) k
  have r1 := nt.r1 rl h.2.1 u
  exact yWould (d := d + 41) (NTw.tl rl) r1.1 r1.2.1 r1.2.2 (fun I2 J2 f r => ⟨c.1, W, nt.ask rl c.2 f.p r⟩)
theorem op_14 {p1 : Int32} (h : INV n x I J) (ht : RX x I J) (k : ∀ r1 I1 J1, wcI S (d + 47) 208 [.ref 43, .int p1] x I1 J1 (fun r2 I2 J2 => r1 = r2 ∧ INV (n + 1) x I2 J2 ∧ RX x I2 J2) → Q r1 I1 J1) : wcI S (d + 47) 113 [.ref 0, .int p1] x I J Q := by
  obtain ⟨rl, W, nt⟩ := ht
  have hC := nt.ce rl
  have hD := nt.2.2.2.2.2.2
  refine op_k h rl (zStands h.1.cz (fun _ _ _ c => c)) (xStands (d := d + 24) (Q := fun v I1 J1 => v = standsV (I 45) W (bits5 (J 3 5)) (bits5 (J 3 6)) p1 ∧ AKc W I J I1 J1) hC hD (fun I1 J1 f di => ⟨rfl, AKc.fa nt rl f di⟩)) (fun I1 J1 m => mStands m.mq (fun _ _ _ z => z)) (fun v I1 J1 c u m => ?_) k
  have r1 := nt.r1 rl h.2.1 u
  exact yStands (d := d + 41) r1.1 r1.2.1 r1.2.2 (fun I2 J2 f r => ⟨c.1, W, nt.ask rl c.2 f.p r⟩)
theorem op_15 {p1 : Int32} (h : INV n x I J) (ht : RX x I J) (k : ∀ r1 I1 J1, wcI S (d + 47) 209 [.ref 43, .int p1] x I1 J1 (fun r2 I2 J2 => r1 = r2 ∧ INV (n + 1) x I2 J2 ∧ RX x I2 J2) → Q r1 I1 J1) : wcI S (d + 47) 114 [.ref 0, .int p1] x I J Q := by
  obtain ⟨rl, W, nt⟩ := ht
  have hC := nt.ce rl
  have hD := nt.2.2.2.2.2.2
  refine op_k h rl (anywayP h.1 (fun _ _ _ c u => ⟨c, u.1, u.2⟩)) (xAnyway (d := d + 24) (Q := fun v I1 J1 => v = anywayV (I 45) W (bits5 (J 3 5)) (bits5 (J 3 6)) p1 ∧ AKc W I J I1 J1) hC hD (fun I1 J1 f di => ⟨rfl, AKc.fa nt rl f di⟩)) (fun I1 J1 m => mAnyway m.mq (fun _ _ _ z => z)) (fun v I1 J1 c u m => ?_) k
  have r1 := nt.r1 rl h.2.1 u
  exact yAnyway (d := d + 41) r1.1 r1.2.1 r1.2.2 (fun I2 J2 f r => ⟨c.1, W, nt.ask rl c.2 f.p r⟩)
theorem op_16 (h : INV n x I J) (ht : RX x I J) (k : ∀ r1 I1 J1, wcI S (d + 47) 211 [.ref 43] x I1 J1 (fun r2 I2 J2 => r1 = r2 ∧ INV (n + 1) x I2 J2 ∧ RX x I2 J2) → Q r1 I1 J1) : wcI S (d + 47) 115 [.ref 0] x I J Q := by
  obtain ⟨rl, W, nt⟩ := ht
  have hC := nt.ce rl
  have hD := nt.2.2.2.2.2.2
  refine op_k h rl (upP h.1 (fun _ _ _ c u => ⟨c, u.1, u.2⟩)) (xUp (d := d + 24) (Q := fun v I1 J1 => v = upV (I 45) W (bits5 (J 3 5)) (bits5 (J 3 6)) ∧ AKc W I J I1 J1) hC hD (fun I1 J1 f di => ⟨rfl, AKc.fa nt rl f di⟩)) (fun I1 J1 m => mUp m.mq (fun _ _ _ z => z)) (fun v I1 J1 c u m => ?_) k
  have r1 := nt.r1 rl h.2.1 u
  exact yUp (d := d + 41) r1.1 hC.2.2.2.2.2.2 r1.2.1 r1.2.2 (fun I2 J2 f r => ⟨c.1, W, nt.ask rl c.2 f.p r⟩)
theorem op_17 {p1 : Int32} (h : INV n x I J) (ht : RX x I J) (k : ∀ r1 I1 J1, wcI S (d + 47) 212 [.ref 43, .int p1] x I1 J1 (fun r2 I2 J2 => r1 = r2 ∧ INV (n + 1) x I2 J2 ∧ RX x I2 J2) → Q r1 I1 J1) : wcI S (d + 47) 116 [.ref 0, .int p1] x I J Q := by
  obtain ⟨rl, W, nt⟩ := ht
  have hC := nt.ce rl
  have hD := nt.2.2.2.2.2.2
  refine op_k h rl (zCalls h.1.cz (fun _ _ _ c => c)) (xCalls (d := d + 24) (Q := fun v I1 J1 => v = callsV (I 45) W (bits5 (J 3 5)) (bits5 (J 3 6)) p1 ∧ AKc W I J I1 J1) hC hD (fun I1 J1 f di => ⟨rfl, AKc.fa nt rl f di⟩)) (fun I1 J1 m => mCalls m.mq (fun _ _ _ z => z)) (fun v I1 J1 c u m => ?_) k
  have r1 := nt.r1 rl h.2.1 u
  exact yCalls (d := d + 41) r1.1 hC.2.2.2.2.2.2 r1.2.1 r1.2.2 (fun I2 J2 f r => ⟨c.1, W, nt.ask rl c.2 f.p r⟩)
theorem op_18 {p1 : Int32} (h : INV n x I J) (ht : RX x I J) (k : ∀ r1 I1 J1, wcI S (d + 47) 214 [.ref 43, .int p1] x I1 J1 (fun r2 I2 J2 => r1 = r2 ∧ INV (n + 1) x I2 J2 ∧ RX x I2 J2) → Q r1 I1 J1) : wcI S (d + 47) 117 [.ref 0, .int p1] x I J Q := by
  obtain ⟨rl, W, nt⟩ := ht
  have hC := nt.ce rl
  have hD := nt.2.2.2.2.2.2
  refine op_k h rl (zAgain h.1.cz (fun _ _ _ c => c)) (xAgain (d := d + 23) (Q := fun v I1 J1 => v = againV (I 45) W (bits5 (J 3 5)) (bits5 (J 3 6)) p1 ∧ AKc W I J I1 J1) (nt.rh rl h.2.1).2.1 hC hD (fun I1 J1 f di => ⟨rfl, AKc.fa nt rl f di⟩)) (fun I1 J1 m => mAgain m.mq (fun _ _ _ z => z)) (fun v I1 J1 c u m => ?_) k
  have r1 := nt.r1 rl h.2.1 u
  exact yAgain (d := d + 41) r1.1 r1.2.1 r1.2.2 (fun I2 J2 f r => ⟨c.1, W, nt.ask rl c.2 f.p r⟩)
theorem op_19 {p1 : Int32} (h : INV n x I J) (ht : RX x I J) (k : ∀ r1 I1 J1, wcI S (d + 47) 215 [.ref 43, .int p1] x I1 J1 (fun r2 I2 J2 => r1 = r2 ∧ INV (n + 1) x I2 J2 ∧ RX x I2 J2) → Q r1 I1 J1) : wcI S (d + 47) 118 [.ref 0, .int p1] x I J Q := by
  obtain ⟨rl, W, nt⟩ := ht
  have hC := nt.ce rl
  have hD := nt.2.2.2.2.2.2
  refine op_k h rl (carriesP h.1 (fun _ _ _ c u => ⟨c, u.1, u.2⟩)) (xCarries (d := d + 23) (Q := fun v I1 J1 => v = carriesV (I 45) W (bits5 (J 3 5)) (bits5 (J 3 6)) p1 ∧ AKc W I J I1 J1) hC hD (fun I1 J1 f di => ⟨rfl, AKc.fa nt rl f di⟩)) (fun I1 J1 m => mCarries m.mq (fun _ _ _ z => z)) (fun v I1 J1 c u m => ?_) k
  have r1 := nt.r1 rl h.2.1 u
  exact yCarries (d := d + 41) r1.1 hC.2.2.2.2.2.2 r1.2.1 r1.2.2 (fun I2 J2 f r => ⟨c.1, W, nt.ask rl c.2 f.p r⟩)
theorem op_30 {p1 : Int32} {p2 : Int32} (h : INV n x I J) (ht : RX x I J) (k : ∀ r1 I1 J1, wcI S (d + 47) 231 [.ref 43, .int p1, .int p2] x I1 J1 (fun r2 I2 J2 => r1 = r2 ∧ INV (n + 1) x I2 J2 ∧ RX x I2 J2) → Q r1 I1 J1) : wcI S (d + 47) 129 [.ref 0, .int p1, .int p2] x I J Q := by
  obtain ⟨rl, W, nt⟩ := ht
  have hC := nt.ce rl
  have hD := nt.2.2.2.2.2.2
  refine op_k h rl (zParts2 h.1.cz (fun _ _ _ c => c)) (xPartv (d := d + 23) (Q := fun v I1 J1 => v = partsV (I 45) W (bits5 (J 3 6)) p1 p2 ∧ AKc W I J I1 J1) hC (fun I1 J1 f => ⟨rfl, AKc.fv nt rl f⟩)) (fun I1 J1 m => mParts m.mq (fun _ _ _ z => z)) (fun v I1 J1 c u m => ?_) k
  have r1 := nt.r1 rl h.2.1 u
  exact yParts (d := d + 41) r1.1 hC.2.2.2.2.2.2 r1.2.2 (fun I2 J2 f r => ⟨c.1, W, nt.ask rl c.2 f r⟩)
theorem op_33 {p1 : Int32} (h : INV n x I J) (ht : RX x I J) (k : ∀ r1 I1 J1, wcI S (d + 47) 239 [.ref 43, .int p1] x I1 J1 (fun r2 I2 J2 => r1 = r2 ∧ INV (n + 1) x I2 J2 ∧ RX x I2 J2) → Q r1 I1 J1) : wcI S (d + 47) 132 [.ref 0, .int p1] x I J Q := by
  obtain ⟨rl, W, nt⟩ := ht
  have hC := nt.ce rl
  have hD := nt.2.2.2.2.2.2
  refine op_k h rl (startsP h.1 (fun _ _ _ c u => ⟨c, u.1, u.2⟩)) (xStarts (d := d + 24) (Q := fun v I1 J1 => v = startsV (I 45) W (bits5 (J 3 6)) p1 ∧ AKc W I J I1 J1) hC (fun I1 J1 f => ⟨rfl, AKc.fv nt rl f.v⟩)) (fun I1 J1 m => mStarts m.mq (fun _ _ _ z => z)) (fun v I1 J1 c u m => ?_) k
  have r1 := nt.r1 rl h.2.1 u
  exact yStarts (d := d + 41) r1.1 hC.2.2.2.2.2.2 r1.2.2 (fun I2 J2 f r => ⟨c.1, W, nt.ask rl c.2 f.p r⟩)
theorem op_34 {p1 : Int32} (h : INV n x I J) (ht : RX x I J) (k : ∀ r1 I1 J1, wcI S (d + 47) 240 [.ref 43, .int p1] x I1 J1 (fun r2 I2 J2 => r1 = r2 ∧ INV (n + 1) x I2 J2 ∧ RX x I2 J2) → Q r1 I1 J1) : wcI S (d + 47) 133 [.ref 0, .int p1] x I J Q := by
  obtain ⟨rl, W, nt⟩ := ht
  have hC := nt.ce rl
  have hD := nt.2.2.2.2.2.2
  refine op_k h rl (zLeader h.1.cz (fun _ _ _ c => c)) (xLead (d := d + 23) (Q := fun v I1 J1 => v = leadV (I 45) W (bits5 (J 3 6)) p1 ∧ AKc W I J I1 J1) hC (fun r hr => (NTw.pr rl r hr).1) (fun r hr => (NTw.pr rl r hr).2) (fun I1 J1 f => ⟨rfl, AKc.fv nt rl f.v⟩)) (fun I1 J1 m => mLeader m.mq (fun _ _ _ z => z)) (fun v I1 J1 c u m => ?_) k
  have r1 := nt.r1 rl h.2.1 u
  exact yLead (d := d + 41) r1.1 hC.2.2.2.2.2.2 r1.2.2 (fun I2 J2 f r => ⟨c.1, W, nt.ask rl c.2 f.p r⟩)
theorem op_31 (h : INV n x I J) (ht : RX x I J) (k : ∀ r1 I1 J1, wcI S (d + 47) 234 [.ref 43] x I1 J1 (fun r2 I2 J2 => r1 = r2 ∧ INV (n + 1) x I2 J2 ∧ RX x I2 J2) → Q r1 I1 J1) : wcI S (d + 47) 130 [.ref 0] x I J Q := by
  obtain ⟨rl, W, nt⟩ := ht
  have hC := nt.ce rl
  have hD := nt.2.2.2.2.2.2
  obtain ⟨V, v1, v0⟩ : ∃ V : Int32, (∀ u v, nb (seB (I 45)) 64 ≤ 24 → hgt (I 45) W (bits5 (J 3 5)) (bits5 (J 3 6)) 60 < gN (I 45) 3 → exF (I 45) W (bits5 (J 3 5)) (bits5 (J 3 6)) u v → V = nI (100 * u + v)) ∧ (24 < nb (seB (I 45)) 64 ∨ gN (I 45) 3 ≤ hgt (I 45) W (bits5 (J 3 5)) (bits5 (J 3 6)) 60 ∨ (∀ u v, ¬ exB (I 45) W (bits5 (J 3 5)) (bits5 (J 3 6)) u v) → V = -1) := by
    by_cases c : ∃ u v, nb (seB (I 45)) 64 ≤ 24 ∧ hgt (I 45) W (bits5 (J 3 5)) (bits5 (J 3 6)) 60 < gN (I 45) 3 ∧ exF (I 45) W (bits5 (J 3 5)) (bits5 (J 3 6)) u v
    · obtain ⟨u, v, c1, c2, c3⟩ := c
      refine ⟨nI (100 * u + v), fun a b _ _ h3 => ?_, fun z => ?_⟩
      · obtain ⟨e1, e2⟩ := exF_u c3 h3
        rw [e1, e2]
      · rcases z with z | z | z
        · omega
        · omega
        · exact absurd c3.1 (z u v)
    · exact ⟨-1, fun u v h1 h2 h3 => absurd ⟨u, v, h1, h2, h3⟩ c, fun _ => rfl⟩
  refine op_k h rl (zExd h.1.cz (fun _ _ _ c => c)) (xExch (d := d + 22) (Q := fun v I1 J1 => v = V ∧ AKc W I J I1 J1) hC hD nt.kd (fun u v I1 J1 _ _ h1 h2 h3 f => ⟨(v1 u v h1 h2 h3).symm, AKc.fx rfl rfl f⟩) (fun z I1 J1 f => ⟨(v0 z).symm, AKc.fx rfl rfl f⟩)) (fun I1 J1 m => mExchanged m.mq (fun _ _ _ z => z)) (fun v I1 J1 c u m => ?_) k
  have r1 := nt.r1 rl h.2.1 u
  exact yExch (d := d + 40) r1.1 hC.2.2.2.2.2.2 r1.2.1 r1.2.2 (fun u v I2 J2 _ _ h1 h2 h3 f r => ⟨c.1.trans (v1 u v h1 h2 h3), W, nt.ask rl c.2 f.p r⟩) (fun z I2 J2 f r => ⟨c.1.trans (v0 z), W, nt.ask rl c.2 f.p r⟩)
/-! the calls that take the tape -/
theorem NTw.tk (nt : NTw W x I J) (rl : RLx x I J) (ci : ∀ b, ¬ (b = 1 ∨ (37 ≤ b ∧ b ≤ 42)) → I1 b = I b) (cj : ∀ b, ¬ (37 ≤ b ∧ b ≤ 42) → J1 b = J b) (ri : ∀ b, ¬ (b = 43 ∨ b = 50 ∨ (56 ≤ b ∧ b ≤ 60)) → I2 b = I1 b) (rj : ∀ b, b ≠ 43 → ¬ (51 ≤ b ∧ b ≤ 62) → J2 b = J1 b) (j16 : J2 43 16 = J1 43 16) (j17 : J2 43 17 = J1 43 17) (r : RH (I 45) W I2 J2) (tr : TRs I2 J2) : NTw W x I2 J2 := by
  have f1 : ∀ b, ¬ (b = 43 ∨ b = 50 ∨ (56 ≤ b ∧ b ≤ 60)) → ¬ (b = 1 ∨ (37 ≤ b ∧ b ≤ 42)) → I2 b = I b := fun b h1 h2 => (ri b h1).trans (ci b h2)
  have j1 : ∀ b, b ≠ 43 → ¬ (51 ≤ b ∧ b ≤ 62) → ¬ (37 ≤ b ∧ b ≤ 42) → J2 b = J b := fun b h1 h2 h3 => (rj b h1 h2).trans (cj b h3)
  exact nt.go rl r.2.2.2.2.1 (nt.2.2.2.2.1.m3 (fun b h1 h2 => f1 b (by omega) (by omega)) (fun b h1 h2 => j1 b (by omega) (by omega) (by omega))) (f1 5 (by omega) (by omega)) (j1 3 (by omega) (by omega) (by omega)) (j16.trans (by rw [cj 43 (by omega)])) (j17.trans (by rw [cj 43 (by omega)])) (fun b hb => f1 b (by omega) (by omega)) (fun b hb => j1 b (by omega) (by omega) (by omega)) tr r.2.2.2.2.2 (nt.2.2.2.2.2.2.mv (fun b hb => f1 b (by omega) (by omega)) (fun b hb => j1 b (by omega) (by omega) (by omega)))
theorem RLx.tp (rl : RLx x I J) (h : INV n x I J) (u : UN I J I1 J1) : ∃ m, m ≤ 940 ∧ I 1 1 = nI m ∧ I1 43 2 = nI m ∧ ∀ i, i < 940 → I1 44 i &&& 255 = I 2 i := by
  obtain ⟨m, hm, em⟩ := h.1.1
  exact ⟨m, hm, em, by rw [u.1 43 (by omega), ← rl.1.1]; exact em, fun i hi => by rw [u.1 44 (by omega)]; exact rl.1.2 i hi⟩
theorem rlb {m : Nat} (rl : RLx x I J) (h : INV n x I J) (em : I 1 1 = nI m) (u : UN I J I1 J1) : I1 43 2 = nI m ∧ ∀ i, i < 940 → I1 44 i &&& 255 = I 2 i := ⟨by rw [u.1 43 (by omega), ← rl.1.1]; exact em, fun i hi => by rw [u.1 44 (by omega)]; exact rl.1.2 i hi⟩
theorem byt0 (rl : RLx x I J) : 0 ≤ (I 2 0).toInt ∧ (I 2 0).toInt ≤ 255 := by
  have e := rl.1.2 0 (by omega)
  have k : ∀ v : Int32, 0 ≤ (v &&& 255).toInt ∧ (v &&& 255).toInt ≤ 255 := fun v => by
    obtain ⟨b, hb, eb⟩ : ∃ b : Nat, b < 256 ∧ v &&& 255 = nI b := by
      refine ⟨v.toBitVec.toNat % 256, Nat.mod_lt _ (by omega), nI_bv ?_⟩
      rw [Int32.toBitVec_and, BitVec.toNat_and]
      exact Nat.and_two_pow_sub_one_eq_mod _ 8
    rw [eb, nI_toInt (by omega)]
    omega
  rw [← e]
  exact k _
theorem sI_ne {a q B b : Nat} (h : b ≠ a) : stI I a q B b = I b := by
  unfold stI
  split
  · rfl
  · exact mSet_ne h
theorem sI_nk {a q B k : Nat} (h : k ≠ q) : stI I a q B a k = I a k := by
  unfold stI
  split
  · rfl
  · exact mS_nk h
theorem sI_at {a q B : Nat} : stI I a q B a q = if B = 256 then I a q else nI B := by
  unfold stI
  split
  · rfl
  · exact mSet_at
theorem op_20 (h : INV n x I J) (ht : RX x I J) (k : ∀ r1 I1 J1, wcI S (d + 47) 219 [.ref 43] x I1 J1 (fun r2 I2 J2 => r1 = r2 ∧ INV (n + 1) x I2 J2 ∧ RX x I2 J2) → Q r1 I1 J1) : wcI S (d + 47) 119 [.ref 0] x I J Q := by
  obtain ⟨rl, W, nt⟩ := ht
  have hC := nt.ce rl
  have hD := nt.2.2.2.2.2.2
  obtain ⟨m, hm, em⟩ := h.1.1
  refine op_v h rl (zCheapest h.1.cz (fun _ _ _ c => c)) (xCheap (d := d + 23) (Q := fun v I1 J1 => v = cheV (I 45) W (bits5 (J 3 5)) (bits5 (J 3 6)) (I 2) m ∧ ∃ I', FC I J I' J1 ∧ I1 = stI I' 37 8 (chB (I 45) W (bits5 (J 3 5)) (bits5 (J 3 6)) (I 2) m)) hC (fun r hr => (NTw.pr rl r hr).1) (fun r hr => (NTw.pr rl r hr).2) em hm (fun I1 J1 f => ⟨rfl, I1, f, rfl⟩)) (fun I1 J1 m => mCheapest m.mq (fun _ _ _ z => z)) (fun v I1 J1 c u mv => ?_) k
  obtain ⟨cv, I3, f3, e3⟩ := c
  have r1 := nt.r1 rl h.2.1 u
  have tp := rlb rl h em u
  subst e3
  refine r219x (d := d + 41) (b := I 2) r1.1 hC.2.2.2.2.2.2 r1.2.1 r1.2.2 tp.2 tp.1 hm (fun I4 J4 f4 r4 => ⟨cv, W, ?_⟩)
  refine nt.tk rl (I1 := stI I3 37 8 (chB (I 45) W (bits5 (J 3 5)) (bits5 (J 3 6)) (I 2) m)) (J1 := J1) (fun b hb => by rw [sI_ne (by omega)]; exact f3.1 b (by omega) (by omega) (by omega) (by omega)) (fun b hb => f3.2.2.2 b (by omega)) (fun b hb => by rw [sI_ne (by omega)]; exact f4.1 b (by omega) (by omega) (by omega)) (fun b h1 h2 => f4.2.2.1 b h1 (by omega)) (f4.2.2.2.1 16 (by omega)) (f4.2.2.2.1 17 (by omega)) ?_ ?_
  · exact ⟨r4.1, r4.2.1, r4.2.2.1, r4.2.2.2.1, by rw [sI_ne (by decide)]; exact r4.2.2.2.2.1, fun z => r4.2.2.2.2.2 (by rw [sI_nk (by decide)] at z; exact z)⟩
  · have a37 : ∀ q, q ≠ 8 → stI I4 43 48 (chB (I 45) W (bits5 (J 3 5)) (bits5 (J 3 6)) (I 2) m) 37 q = I 37 q := fun q hq => by
      rw [sI_ne (by decide), f4.1 37 (by decide) (by decide) (by omega), sI_nk hq, f3.1 37 (by decide) (by decide) (by decide) (by decide)]
    have a43 : ∀ q, q ≠ 48 → q = 52 ∨ q = 55 ∨ q = 63 → stI I4 43 48 (chB (I 45) W (bits5 (J 3 5)) (bits5 (J 3 6)) (I 2) m) 43 q = I 43 q := fun q hq h5 => by
      rw [sI_nk hq, f4.2.1 q (by omega) (by omega) (by omega) (by omega) (by omega), sI_ne (by decide), f3.1 43 (by decide) (by decide) (by decide) (by decide)]
    have ai : ∀ b, b ≠ 1 → ¬ (37 ≤ b ∧ b ≤ 39) → b ≠ 41 → b ≠ 43 → b ≠ 50 → ¬ (56 ≤ b ∧ b ≤ 58) → stI I4 43 48 (chB (I 45) W (bits5 (J 3 5)) (bits5 (J 3 6)) (I 2) m) b = I b := fun b h1 h2 h3 h4 h5 h6 => by
      rw [sI_ne h4, f4.1 b h4 h5 h6, sI_ne (by omega), f3.1 b h1 (by omega) (by omega) h3]
    have aj : ∀ b, b ≠ 41 → b ≠ 43 → ¬ (51 ≤ b ∧ b ≤ 55) → J4 b = J b := fun b h1 h2 h3 => (f4.2.2.1 b h2 h3).trans (f3.2.2.2 b h1)
    obtain ⟨t1, t2, t3, t4⟩ := nt.2.2.1
    refine ⟨?_, ?_, ?_, ?_⟩
    · rw [sI_at, sI_ne (by decide), f4.1 37 (by decide) (by decide) (by omega), sI_at, f4.2.1 48 (by omega) (by omega) (by omega) (by omega) (by omega), sI_ne (by decide), f3.1 37 (by decide) (by decide) (by decide) (by decide), f3.1 43 (by decide) (by decide) (by decide) (by decide), t1]
    · unfold WR
      rw [a37 7 (by decide), a43 52 (by decide) (by omega), ai 40 (by decide) (by omega) (by decide) (by decide) (by decide) (by omega), aj 59 (by decide) (by decide) (by omega), f4.2.2.2.1 53 (by omega), f3.2.2.2 43 (by decide)]
      exact t2
    · rw [a37 9 (by decide), a37 10 (by decide), a37 11 (by decide), a43 55 (by decide) (by omega), ai 60 (by decide) (by omega) (by decide) (by decide) (by decide) (by omega)]
      exact t3
    · rw [ai 0 (by decide) (by omega) (by decide) (by decide) (by decide) (by omega), a43 63 (by decide) (by omega)]
      exact t4
theorem TRs.fcu (tr : TRs I J) (f3 : FC I J I1 J1) (f4 : FU I1 J1 I2 J2) : TRs I2 J2 := tr.mv (fun q _ _ => by rw [f4.1 37 (by decide) (by decide) (by omega), f3.1 37 (by decide) (by decide) (by decide) (by decide)]) (by rw [f4.1 40 (by decide) (by decide) (by omega), f3.1 40 (by decide) (by decide) (by decide) (by decide)]) (fun q hq => by rw [f4.2.1 q (by omega) (by omega) (by omega) (by omega) (by omega), f3.1 43 (by decide) (by decide) (by decide) (by decide)]) (by rw [f4.1 60 (by decide) (by decide) (by omega), f3.1 60 (by decide) (by decide) (by decide) (by decide)]) (by rw [f4.2.2.1 59 (by decide) (by omega), f3.2.2.2 59 (by decide)]) (by rw [f4.2.2.2.1 53 (by omega), f3.2.2.2 43 (by decide)]) (by rw [f4.1 0 (by decide) (by decide) (by omega), f3.1 0 (by decide) (by decide) (by decide) (by decide)])
theorem NTw.fcu (nt : NTw W x I J) (rl : RLx x I J) (f3 : FC I J I1 J1) (f4 : FU I1 J1 I2 J2) (r4 : RH (I 45) W I2 J2) : NTw W x I2 J2 := nt.tk rl (fun b hb => f3.1 b (by omega) (by omega) (by omega) (by omega)) (fun b hb => f3.2.2.2 b (by omega)) (fun b hb => f4.1 b (by omega) (by omega) (by omega)) (fun b h1 h2 => f4.2.2.1 b h1 (by omega)) (f4.2.2.2.1 16 (by omega)) (f4.2.2.2.1 17 (by omega)) r4 (nt.2.2.1.fcu f3 f4)
theorem FC.tk : FC I J (mSet I 1 1 0) J := ⟨fun b h1 _ _ _ => mSet_ne h1, fun q h1 => mS_nk h1, mSet_at, fun _ _ => rfl⟩
theorem op_22 (h : INV n x I J) (ht : RX x I J) (k : ∀ r1 I1 J1, wcI S (d + 47) 221 [.ref 43] x I1 J1 (fun r2 I2 J2 => r1 = r2 ∧ INV (n + 1) x I2 J2 ∧ RX x I2 J2) → Q r1 I1 J1) : wcI S (d + 47) 121 [.ref 0] x I J Q := by
  obtain ⟨rl, W, nt⟩ := ht
  have hC := nt.ce rl
  have hD := nt.2.2.2.2.2.2
  obtain ⟨m, hm, em⟩ := h.1.1
  refine op_v h rl (zHushP h.1.cz (fun _ _ _ c => c)) (xHush (d := d + 23) (Q := fun v I1 J1 => v = hushV (I 45) W (bits5 (J 3 5)) (bits5 (J 3 6)) (I 2) m ∧ FC I J I1 J1) hC em hm (fun I1 J1 f => ⟨rfl, f⟩)) (fun I1 J1 m => mHush m.mq (fun _ _ _ z => z)) (fun v I1 J1 c u mv => ?_) k
  obtain ⟨cv, f3⟩ := c
  have r1 := nt.r1 rl h.2.1 u
  have tp := rlb rl h em u
  refine r221x (d := d + 41) (b := I 2) r1.1 hC.2.2.2.2.2.2 r1.2.1 r1.2.2 tp.2 tp.1 hm (fun I4 J4 f4 r4 => ⟨cv, W, ?_⟩)
  exact nt.fcu rl f3 f4 r4
theorem op_23 {p1 : Int32} (h : INV n x I J) (ht : RX x I J) (k : ∀ r1 I1 J1, wcI S (d + 47) 222 [.ref 43, .int p1] x I1 J1 (fun r2 I2 J2 => r1 = r2 ∧ INV (n + 1) x I2 J2 ∧ RX x I2 J2) → Q r1 I1 J1) : wcI S (d + 47) 122 [.ref 0, .int p1] x I J Q := by
  obtain ⟨rl, W, nt⟩ := ht
  have hC := nt.ce rl
  have hD := nt.2.2.2.2.2.2
  obtain ⟨m, hm, em⟩ := h.1.1
  refine op_v h rl (zCoalP h.1.cz (fun _ _ _ c => c)) (xCoal (d := d + 23) (Q := fun v I1 J1 => v = coalV (I 45) W (bits5 (J 3 5)) (bits5 (J 3 6)) (I 2) m p1 ∧ FC I J I1 J1) hC em hm (fun I1 J1 f => ⟨rfl, f⟩)) (fun I1 J1 m => mCoal m.mq (fun _ _ _ z => z)) (fun v I1 J1 c u mv => ?_) k
  obtain ⟨cv, f3⟩ := c
  have r1 := nt.r1 rl h.2.1 u
  have tp := rlb rl h em u
  refine r222x (d := d + 41) (b := I 2) r1.1 hC.2.2.2.2.2.2 r1.2.1 r1.2.2 tp.2 tp.1 hm (fun I4 J4 f4 r4 => ⟨cv, W, ?_⟩)
  exact nt.fcu rl f3 f4 r4
theorem op_24 (h : INV n x I J) (ht : RX x I J) (k : ∀ r1 I1 J1, wcI S (d + 47) 224 [.ref 43] x I1 J1 (fun r2 I2 J2 => r1 = r2 ∧ INV (n + 1) x I2 J2 ∧ RX x I2 J2) → Q r1 I1 J1) : wcI S (d + 47) 123 [.ref 0] x I J Q := by
  obtain ⟨rl, W, nt⟩ := ht
  have hC := nt.ce rl
  have hD := nt.2.2.2.2.2.2
  obtain ⟨m, hm, em⟩ := h.1.1
  refine op_v h rl (zWorthP h.1.cz (fun _ _ _ c => c)) (xWorth (d := d + 23) (Q := fun v I1 J1 => (hdB (I 45) (I 2) m = false ∧ v = -1 ∧ FC I J I1 J1) ∨ (hdB (I 45) (I 2) m = true ∧ v = nI (hhN (I 45) W (bits5 (J 3 6)) (I 2) m (2 ^ m - 1)) ∧ ∃ I3 I4, FC I J I3 J1 ∧ (∀ b, b ≠ 40 → I4 b = I3 b) ∧ (∀ i, i < m → I4 40 i = Int32.ofInt (adI (hhN (I 45) W (bits5 (J 3 6)) (I 2) m) m i (2 ^ m))) ∧ I1 = mSet I4 37 7 (nI m))) hC em hm (fun z => Or.inl ⟨z, rfl, FC.tk⟩) (fun z I3 J1 I4 f3 f4 f5 => Or.inr ⟨z, rfl, I3, I4, f3, f4, f5, rfl⟩)) (fun I1 J1 m => mWorth m.mq (fun _ _ _ z => z)) (fun v I1 J1 c u mv => ?_) k
  have r1 := nt.r1 rl h.2.1 u
  have tp := rlb rl h em u
  rcases c with ⟨hz, cv, f3⟩ | ⟨hz, cv, I3, I4, f3, f4, f5, e1⟩
  · exact r224x (d := d + 41) (b := I 2) r1.1 hC.2.2.2.2.2.2 r1.2.2 tp.2 tp.1 hm (fun _ I4 f4 r4 => ⟨cv, W, nt.fcu rl f3 f4 r4⟩) (fun z => absurd (hz.symm.trans z) (by decide))
  · have hd := hdB_t hz
    refine r224x (d := d + 41) (b := I 2) r1.1 hC.2.2.2.2.2.2 r1.2.2 tp.2 tp.1 hm (fun z => absurd (z.symm.trans hz) (by decide)) (fun _ I5 J5 J6 f6 r6 f7 f8 => ⟨cv, W, ?_⟩)
    subst e1
    have ci : ∀ b, b ≠ 1 → ¬ (37 ≤ b ∧ b ≤ 41) → mSet I4 37 7 (nI m) b = I b := fun b h1 h2 => by
      rw [mSet_ne (by omega), f4 b (by omega), f3.1 b h1 (by omega) (by omega) (by omega)]
    have c37 : ∀ q, q ≠ 7 → mSet I4 37 7 (nI m) 37 q = I 37 q := fun q hq => by
      rw [mS_nk hq, f4 37 (by decide), f3.1 37 (by decide) (by decide) (by decide) (by decide)]
    have ri : ∀ b, b ≠ 43 → b ≠ 50 → ¬ (56 ≤ b ∧ b ≤ 58) → mSet I5 43 52 (nI m) b = mSet I4 37 7 (nI m) b := fun b h1 h2 h3 => by
      rw [mSet_ne h1, f6.1 b h1 h2 h3]
    have rq : ∀ q, q = 48 ∨ q = 55 ∨ q = 63 → mSet I5 43 52 (nI m) 43 q = I 43 q := fun q hq => by
      rw [mS_nk (by omega), f6.2.1 q (by omega) (by omega) (by omega) (by omega) (by omega), ci 43 (by decide) (by omega)]
    have rj : ∀ b, b ≠ 43 → ¬ (51 ≤ b ∧ b ≤ 55) → b ≠ 59 → mSet J6 43 53 (Int64.ofNat (faN m)) b = J1 b := fun b h1 h2 h3 => by
      rw [mSet_ne h1, f7 b h3, f6.2.2.1 b h1 h2]
    have jq : ∀ q, q ≠ 53 → ¬ (36 ≤ q ∧ q ≤ 41) → mSet J6 43 53 (Int64.ofNat (faN m)) 43 q = J1 43 q := fun q h1 h2 => by
      rw [mS_nk h1, f7 43 (by decide), f6.2.2.2.1 q h2]
    refine nt.tk rl (I1 := mSet I4 37 7 (nI m)) (J1 := J1) (fun b hb => ci b (by omega) (by omega)) (fun b hb => f3.2.2.2 b (by omega)) (fun b hb => ri b (by omega) (by omega) (by omega)) (fun b h1 h2 => rj b h1 (by omega) (by omega)) (jq 16 (by omega) (by omega)) (jq 17 (by omega) (by omega)) ?_ ?_
    · exact (r6.q (by decide)).j (by rw [mSet_ne (by decide), f7 51 (by decide)])
    · obtain ⟨t1, -, t3, t4⟩ := nt.2.2.1
      refine ⟨?_, ⟨m, fun i => adI (hhN (I 45) W (bits5 (J 3 6)) (I 2) m) m i (2 ^ m), hd.2.1, ?_, mSet_at, fun i hi => ?_, Or.inr mSet_at⟩, ?_, ?_⟩
      · rw [ri 37 (by decide) (by decide) (by omega), c37 8 (by decide), rq 48 (by omega)]
        exact t1
      · rw [ri 37 (by decide) (by decide) (by omega), mSet_at]
      · have p8 := pw_8 hd.2.1
        have ab := ad_b (h := hhN (I 45) W (bits5 (J 3 6)) (I 2) m) (n := m) (i := i) (fun Y => hh_l) hd.2.1 hi (2 ^ m) (Nat.le_refl _)
        refine ⟨?_, ?_, ?_, ?_⟩
        · show -82575360 ≤ adI (hhN (I 45) W (bits5 (J 3 6)) (I 2) m) m i (2 ^ m)
          omega
        · show adI (hhN (I 45) W (bits5 (J 3 6)) (I 2) m) m i (2 ^ m) ≤ 82575360
          omega
        · rw [ri 40 (by decide) (by decide) (by omega), mSet_ne (by decide)]
          exact f5 i hi
        · rw [mSet_ne (by decide)]
          exact f8 i hi
      · rw [ri 37 (by decide) (by decide) (by omega), c37 9 (by decide), c37 10 (by decide), c37 11 (by decide), rq 55 (by omega), ri 60 (by decide) (by decide) (by omega), ci 60 (by decide) (by omega)]
        exact t3
      · rw [ri 0 (by decide) (by decide) (by omega), ci 0 (by decide) (by omega), rq 63 (by omega)]
        exact t4
theorem op_26 (h : INV n x I J) (ht : RX x I J) (k : ∀ r1 I1 J1, wcI S (d + 47) 226 [.ref 43] x I1 J1 (fun r2 I2 J2 => r1 = r2 ∧ INV (n + 1) x I2 J2 ∧ RX x I2 J2) → Q r1 I1 J1) : wcI S (d + 47) 125 [.ref 0] x I J Q := by
  obtain ⟨rl, W, nt⟩ := ht
  have hC := nt.ce rl
  have hD := nt.2.2.2.2.2.2
  obtain ⟨m, hm, em⟩ := h.1.1
  refine op_v h rl (zSidesP h.1.cz (fun _ _ _ c => c)) (xSides (d := d + 23) (Q := fun v I1 J1 => (sdB (I 45) (I 2) m = false ∧ v = -1 ∧ FC I J I1 J1) ∨ (sdB (I 45) (I 2) m = true ∧ v = nI (mnS (shN (I 45) W (bits5 (J 3 5)) (bits5 (J 3 6)) (I 2) (sdA (I 2) m)) (fiS (shN (I 45) W (bits5 (J 3 5)) (bits5 (J 3 6)) (I 2) (sdA (I 2) m)) (m - 1 - sdA (I 2) m) (sdA (I 2) m)) (m - 1 - sdA (I 2) m)) ∧ FS (mSet I 1 1 0) J I1 J1 ∧ I1 37 9 = nI (mxS (shN (I 45) W (bits5 (J 3 5)) (bits5 (J 3 6)) (I 2) (sdA (I 2) m)) (seS (shN (I 45) W (bits5 (J 3 5)) (bits5 (J 3 6)) (I 2) (sdA (I 2) m)) (sdA (I 2) m) (m - 1 - sdA (I 2) m)) (sdA (I 2) m)) ∧ I1 37 10 = I 2 (1 + fiS (shN (I 45) W (bits5 (J 3 5)) (bits5 (J 3 6)) (I 2) (sdA (I 2) m)) (m - 1 - sdA (I 2) m) (sdA (I 2) m)) ∧ I1 37 11 = I 2 (1 + (sdA (I 2) m + seS (shN (I 45) W (bits5 (J 3 5)) (bits5 (J 3 6)) (I 2) (sdA (I 2) m)) (sdA (I 2) m) (m - 1 - sdA (I 2) m))))) hC (byt0 rl) em hm (fun z => Or.inl ⟨z, rfl, FC.tk⟩) (fun z I1 J1 f a1 a2 a3 => Or.inr ⟨z, rfl, f, a1, a2, a3⟩)) (fun I1 J1 m => mSides m.mq (fun _ _ _ z => z)) (fun v I1 J1 c u mv => ?_) k
  have r1 := nt.r1 rl h.2.1 u
  have tp := rlb rl h em u
  rcases c with ⟨hz, cv, f3⟩ | ⟨hz, cv, f3, a1, a2, a3⟩
  · exact ySides (d := d + 41) (b := I 2) r1.1 hC.2.2.2.2.2.2 r1.2.1 r1.2.2 tp.2 (byt0 rl) tp.1 hm (fun _ I4 f4 r4 => ⟨cv, W, nt.fcu rl f3 f4 r4⟩) (fun z => absurd (hz.symm.trans z) (by decide))
  · refine ySides (d := d + 41) (b := I 2) r1.1 hC.2.2.2.2.2.2 r1.2.1 r1.2.2 tp.2 (byt0 rl) tp.1 hm (fun z => absurd (z.symm.trans hz) (by decide)) (fun _ I5 J5 f6 r6 b0 b1 b2 b3 => ⟨cv, W, ?_⟩)
    have ci : ∀ b, b ≠ 1 → b ≠ 37 → b ≠ 38 → b ≠ 41 → I1 b = I b := fun b h1 h2 h3 h4 => by
      rw [f3.1 b h2 h3 h4, mSet_ne h1]
    refine nt.tk rl (I1 := I1) (J1 := J1) (fun b hb => ci b (by omega) (by omega) (by omega) (by omega)) (fun b hb => f3.2.2 b (by omega)) (fun b hb => f6.1 b (by omega) (by omega) (by omega) (by omega)) (fun b h1 h2 => f6.2.2.1 b h1 (by omega)) (f6.2.2.2.1 16 (by omega)) (f6.2.2.2.1 17 (by omega)) r6 ?_
    have rq : ∀ q, q = 48 ∨ q = 52 ∨ q = 63 → I5 43 q = I 43 q := fun q hq => by
      rw [f6.2.1 q (by omega) (by omega) (by omega) (by omega) (by omega) (by omega), ci 43 (by decide) (by decide) (by decide) (by decide)]
    have c37 : ∀ q, ¬ (9 ≤ q ∧ q ≤ 11) → I5 37 q = I 37 q := fun q hq => by
      rw [f6.1 37 (by decide) (by decide) (by omega) (by decide), f3.2.1 q hq, mSet_ne (by decide)]
    obtain ⟨t1, t2, -, t4⟩ := nt.2.2.1
    refine ⟨?_, ?_, Or.inr ⟨?_, ?_, ?_, ?_⟩, ?_⟩
    · rw [c37 8 (by omega), rq 48 (by omega)]
      exact t1
    · unfold WR
      rw [c37 7 (by omega), rq 52 (by omega), f6.1 40 (by decide) (by decide) (by omega) (by decide), ci 40 (by decide) (by decide) (by decide) (by decide), f6.2.2.1 59 (by decide) (by omega), f3.2.2 59 (by decide), f6.2.2.2.1 53 (by omega), f3.2.2 43 (by decide)]
      exact t2
    · rw [b0]
      decide
    · rw [b1, f6.1 37 (by decide) (by decide) (by omega) (by decide), a1]
    · rw [b2, f6.1 37 (by decide) (by decide) (by omega) (by decide), a2]
    · rw [b3, f6.1 37 (by decide) (by decide) (by omega) (by decide), a3]
    · rw [f6.1 0 (by decide) (by decide) (by omega) (by decide), ci 0 (by decide) (by decide) (by decide) (by decide), rq 63 (by omega)]
      exact t4
theorem op_w {dc mc dr mr : Nat} {as bs : List Value} {Pc : Int32 → rI0 → rJ0 → Prop} (h : INV n x I J) (rl : RLx x I J) (cb : wcI S dc mc as x I J (fun _ I1 J1 => CV I1 J1 ∧ UN I J I1 J1 ∧ I1 1 1 = 0)) (cx : wcI S dc mc as x I J Pc) (rb : ∀ I1 J1, MV I1 J1 → wcI S dr mr bs x I1 J1 (fun _ I2 J2 => Mz_ I1 J1 (0, some (I1 43 13)) (I1 45 0).toInt (I1 45 1).toInt I2 J2)) (ry : ∀ v I1 J1, Pc v I1 J1 → UN I J I1 J1 → MV I1 J1 → wcI S dr mr bs x I1 J1 (fun _ I2 J2 => ∃ W, NTw W x I2 J2)) (k : ∀ r1 I1 J1, wcI S dr mr bs x I1 J1 (fun _ I2 J2 => INV (n + 1) x I2 J2 ∧ RX x I2 J2) → Q r1 I1 J1) : wcI S dc mc as x I J Q := by
  refine wcI_mono (wcI_and cb cx) (fun r1 I1 J1 g => k _ _ _ ?_)
  obtain ⟨⟨c, u, e1⟩, p⟩ := g
  have hi := h.c c u.w
  refine wcI_mono (wcI_and (rb I1 J1 hi.2.1) (ry r1 I1 J1 p u hi.2.1)) (fun r2 I2 J2 g2 => ?_)
  exact ⟨hi.m g2.1.f, rl_v rl u e1 g2.1, g2.2⟩
theorem op_28 {p1 : Int32} (h : INV n x I J) (ht : RX x I J) (k : ∀ r1 I1 J1, wcI S (d + 47) 229 [.ref 43, .int p1] x I1 J1 (fun _ I2 J2 => INV (n + 1) x I2 J2 ∧ RX x I2 J2) → Q r1 I1 J1) : wcI S (d + 47) 127 [.ref 0, .int p1] x I J Q := by
  obtain ⟨rl, W, nt⟩ := ht
  have hC := nt.ce rl
  have hD := nt.2.2.2.2.2.2
  obtain ⟨m, hm, em⟩ := h.1.1
  refine op_w h rl (zBeganP h.1.cz (fun _ _ _ c => c)) (xBegan (d := d + 23) (Q := fun _ I1 J1 => FBc I J I1 J1) hC em hm (fun _ I1 J1 f => f)) (fun I1 J1 m => mBegan m.mq (fun _ _ _ z => z)) (fun v I1 J1 f3 u mv => ?_) k
  have r1 := nt.r1 rl h.2.1 u
  have tp := rlb rl h em u
  refine yBegan (d := d + 41) (H := bits5 (J 3 6)) r1.1 r1.2.2 tp.1 hm (fun _ I5 J5 f6 r6 => ⟨W, ?_⟩)
  refine nt.tk rl (I1 := I1) (J1 := J1) (fun b hb => f3.1 b (by omega) (by omega) (by omega)) (fun b hb => f3.2.2 b (by omega) (by omega)) (fun b hb => f6.1 b (by omega) (by omega)) (fun b h1 h2 => f6.2.2.1 b h1 (by omega)) (f6.2.2.2 16 (by omega) (by omega)) (f6.2.2.2 17 (by omega) (by omega)) r6 ?_
  exact nt.2.2.1.mv (fun q _ _ => by rw [f6.1 37 (by decide) (by decide), f3.2.1 q (by omega) (by omega)]) (by rw [f6.1 40 (by decide) (by decide), f3.1 40 (by decide) (by decide) (by decide)]) (fun q hq => by rw [f6.2.1 q (by omega) (by omega) (by omega) (by omega) (by omega) (by omega), f3.1 43 (by decide) (by decide) (by decide)]) (by rw [f6.1 60 (by decide) (by decide), f3.1 60 (by decide) (by decide) (by decide)]) (by rw [f6.2.2.1 59 (by decide) (by omega), f3.2.2 59 (by decide) (by decide)]) (by rw [f6.2.2.2 53 (by omega) (by omega), f3.2.2 43 (by decide) (by decide)]) (by rw [f6.1 0 (by decide) (by decide), f3.1 0 (by decide) (by decide) (by decide)])
end OS0
