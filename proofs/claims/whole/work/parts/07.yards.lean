def fX3_freeAll_L2 : Nat → Int32 → OS → Option (OS)
  | 0, _, _ => none
  | n_2 + 1, v1_2, y_2 => if 16 ≤ v1_2 then some (y_2) else gB (ib v1_2 16) (fX3_freeAll_L2 n_2 (v1_2 + 1) (u2 y_2 4 v1_2.toNatClampNeg (-4)))
def fX3_freeAll (y : OS) : Option (OS) := fX3_freeAll_L2 FU 0 y
abbrev rmX3_freeAll : Room := { frames := 0, cells := 0, slots := 0, locals := 0 }
set_option maxHeartbeats 4000000 in
set_option maxRecDepth 100000 in
theorem c_X3_freeAll (l : Launch) (E : En) (q : Nat → Nat) (y : OS) (r : OS) (h : fX3_freeAll y = some r) : Met l yX3_freeAll (kX3_freeAll :: BIG) rmX3_freeAll (Pk E [.ref (q 0)] (Yd E q y)) (QW none (AY q) (Yd E q r)) 0 0 (AY q) := by
  refine Mb (by decide) (Nat.le_of_ble_eq_true rfl) ?_
  intro p e s m below meth c ls hx hb hr hlk hB hown hml _ hK hw hl
  have hS : va_S (AY q) s.heap s.heap [] := va_S.rf
  have hl : lv_has ls 2 [(0, .ref (q 0))] := hl
  rw [fX3_freeAll] at h
  have hL2 : ∀ (n_2 : Nat) (v1_2 : Int32) (y_2 : OS) (H_2 : Heap) (L_2 : List Loc) (ls_2 : Array Slot), lv_has ls_2 2 [(0, .ref (q 0)), (1, .int v1_2)] → Yd E q y_2 H_2 → va_S (AY q) s.heap H_2 L_2 → fX3_freeAll_L2 n_2 v1_2 y_2 = some r → W p l e rmX3_freeAll s m ([.ref (q 0)] : List Value).toArray below meth c H_2 L_2 0 0 (MQ below (QW none (AY q) (Yd E q r)) ([.ref (q 0)] : List Value).toArray s 0 0 (AY q)) (F0 m 2 ls_2 []) := by
    intro n_2
    induction n_2 with
    | zero =>
      intro v1_2 y_2 H_2 L_2 ls_2 hl hw hS h
      exact nn h
    | succ n_2 ih_2 =>
      intro v1_2 y_2 H_2 L_2 ls_2 hl hw hS h
      rw [fX3_freeAll_L2] at h
      refine lv_iload_n hx hb dX3_freeAll_2 rfl (lv_at hl 1 rfl) ?_
      refine lv_bipush (v := 16) hx hb dX3_freeAll_3 (by decide) ?_
      refine lv_icmp_ge (tgt := 22) hx hb dX3_freeAll_5 (by decide) (fun g1 => ?_) (fun g1 => ?_)
      · rw [if_pos g1] at h
        cases h
        exact e_vW hx hb hr hlk hw hS dX3_freeAll_22
      · rw [if_neg g1] at h
        refine lv_aload_n hx hb dX3_freeAll_8 rfl (lv_at hl 0 rfl) ?_
        refine gX3_21 hx hb hB hown hK hw dX3_freeAll_9 ?_
        refine lv_iload_n hx hb dX3_freeAll_12 rfl (lv_at hl 1 rfl) ?_
        refine lv_bipush (v := (-4)) hx hb dX3_freeAll_13 (by decide) ?_
        obtain ⟨g2, h⟩ := gB_ok h
        refine sY4 hx hb hK hw hS (fun _ z => z) (ib_ok g2) dX3_freeAll_15 (fun H3 L3 hw _ hS => ?_)
        refine lv_iinc (v := (v1_2 + 1)) (lv' := [(1, .int (v1_2 + 1)), (0, .ref (q 0))]) hx hb dX3_freeAll_16 hl (k := 1) rfl rfl (by decide) rfl (fun ls hl => ?_)
        refine lv_goto (tgt := 2) hx hb dX3_freeAll_19 (by decide) ?_
        exact ih_2 (v1_2 + 1) (u2 y_2 4 v1_2.toNatClampNeg (-4)) _ _ _ (lv_sub hl [1, 0] rfl) hw hS h
  refine lv_iconst (v := 0) hx hb dX3_freeAll_0 (by decide) ?_
  refine lv_istore_n (lv' := [(1, .int 0), (0, .ref (q 0))]) hx hb dX3_freeAll_1 rfl hl (by decide) rfl (fun ls hl => ?_)
  exact hL2 FU 0 y _ _ _ (lv_sub hl [1, 0] rfl) hw hS h
def fX3_empty (y : OS) : Option (OS) := (fX3_freeAll (u2 (u2 (u2 (u2 y 0 0 6) 0 1 60) 0 2 0) 0 3 0)).bind (fun r5 => (some (r5)))
abbrev rmX3_empty : Room := { frames := 1, cells := 0, slots := 0, locals := 21 }
set_option maxHeartbeats 4000000 in
set_option maxRecDepth 100000 in
theorem c_X3_empty (l : Launch) (E : En) (q : Nat → Nat) (y : OS) (r : OS) (h : fX3_empty y = some r) : Met l yX3_empty (kX3_empty :: BIG) rmX3_empty (Pk E [.ref (q 0)] (Yd E q y)) (QW none (AY q) (Yd E q r)) 0 0 (AY q) := by
  refine Mb (by decide) (Nat.le_of_ble_eq_true rfl) ?_
  intro p e s m below meth c ls hx hb hr hlk hB hown hml _ hK hw hl
  have hS : va_S (AY q) s.heap s.heap [] := va_S.rf
  have hl : lv_has ls 1 [(0, .ref (q 0))] := hl
  rw [fX3_empty] at h
  refine lv_aload_n hx hb dX3_empty_0 rfl (lv_at hl 0 rfl) ?_
  refine lv_bipush (v := 6) hx hb dX3_empty_1 (by decide) ?_
  refine pX3_33 hx hb hB hown hK hw hS (fun _ z => z) dX3_empty_3 (fun H1 L1 hw _ hS => ?_)
  refine lv_aload_n hx hb dX3_empty_6 rfl (lv_at hl 0 rfl) ?_
  refine lv_bipush (v := 60) hx hb dX3_empty_7 (by decide) ?_
  refine pX3_37 hx hb hB hown hK hw hS (fun _ z => z) dX3_empty_9 (fun H2 L2 hw _ hS => ?_)
  refine lv_aload_n hx hb dX3_empty_12 rfl (lv_at hl 0 rfl) ?_
  refine lv_iconst (v := 0) hx hb dX3_empty_13 (by decide) ?_
  refine pX3_40 hx hb hB hown hK hw hS (fun _ z => z) dX3_empty_14 (fun H3 L3 hw _ hS => ?_)
  refine lv_aload_n hx hb dX3_empty_17 rfl (lv_at hl 0 rfl) ?_
  refine lv_iconst (v := 0) hx hb dX3_empty_18 (by decide) ?_
  refine pX3_43 hx hb hB hown hK hw hS (fun _ z => z) dX3_empty_19 (fun H4 L4 hw _ hS => ?_)
  refine lv_aload_n hx hb dX3_empty_22 rfl (lv_at hl 0 rfl) ?_
  obtain ⟨r5, e5, h⟩ := ob h
  refine k_VWv ⟨hx, hb, hml, hown, hB⟩ (c_X3_freeAll l E q (u2 (u2 (u2 (u2 y 0 0 6) 0 1 60) 0 2 0) 0 3 0) r5 e5) (clX3_46 hB rfl rfl ⟨Nat.le_of_ble_eq_true rfl, Nat.le_of_ble_eq_true rfl⟩) hK hw (rvY hK hw) rfl hl.1 rfl (Nat.le_of_ble_eq_true rfl) dX3_empty_23 ⟨Nat.zero_le _, Nat.zero_le _⟩ hS (fun _ z => z) (fun H6 L6 hw _ _ hS => ?_)
  cases h
  exact e_vW hx hb hr hlk hw hS dX3_empty_26
def fX3_hasDead (y : OS) (a1 : Int32) : Option (Int32) := if a1 < 0 then some 0 else if (y 0 2) ≤ a1 then some 0 else if 12 ≤ a1 then some 0 else some 1
abbrev rmX3_hasDead : Room := { frames := 0, cells := 0, slots := 0, locals := 0 }
set_option maxHeartbeats 4000000 in
set_option maxRecDepth 100000 in
theorem c_X3_hasDead (l : Launch) (E : En) (q : Nat → Nat) (y : OS) (a1 : Int32) (r : Int32) (h : fX3_hasDead y a1 = some r) : Met l yX3_hasDead (kX3_hasDead :: BIG) rmX3_hasDead (Pk E [.ref (q 0), .int a1] (Yd E q y)) (QcRead r) 0 0 (fun _ => False) := by
  refine Mb (by decide) (Nat.le_of_ble_eq_true rfl) ?_
  intro p e s m below meth c ls hx hb hr hlk hB hown hml _ hK hw hl
  have hl : lv_has ls 2 [(0, .ref (q 0)), (1, .int a1)] := hl
  rw [fX3_hasDead] at h
  refine lv_iload_n hx hb dX3_hasDead_0 rfl (lv_at hl 1 rfl) ?_
  refine lv_if_lt (tgt := 22) hx hb dX3_hasDead_1 (by decide) (fun g1 => ?_) (fun g1 => ?_)
  · rw [if_pos g1] at h
    refine lv_iconst (v := 0) hx hb dX3_hasDead_22 (by decide) ?_
    exact e_zR hx hb hr hlk (by decide) h dX3_hasDead_23
  · rw [if_neg g1] at h
    refine lv_iload_n hx hb dX3_hasDead_4 rfl (lv_at hl 1 rfl) ?_
    refine lv_aload_n hx hb dX3_hasDead_5 rfl (lv_at hl 0 rfl) ?_
    refine gX3_40 hx hb hB hown hK hw dX3_hasDead_6 ?_
    refine lv_icmp_ge (tgt := 22) hx hb dX3_hasDead_9 (by decide) (fun g2 => ?_) (fun g2 => ?_)
    · rw [if_pos g2] at h
      refine lv_iconst (v := 0) hx hb dX3_hasDead_22 (by decide) ?_
      exact e_zR hx hb hr hlk (by decide) h dX3_hasDead_23
    · rw [if_neg g2] at h
      refine lv_iload_n hx hb dX3_hasDead_12 rfl (lv_at hl 1 rfl) ?_
      refine lv_bipush (v := 12) hx hb dX3_hasDead_13 (by decide) ?_
      refine lv_icmp_ge (tgt := 22) hx hb dX3_hasDead_15 (by decide) (fun g3 => ?_) (fun g3 => ?_)
      · rw [if_pos g3] at h
        refine lv_iconst (v := 0) hx hb dX3_hasDead_22 (by decide) ?_
        exact e_zR hx hb hr hlk (by decide) h dX3_hasDead_23
      · rw [if_neg g3] at h
        refine lv_iconst (v := 1) hx hb dX3_hasDead_18 (by decide) ?_
        refine lv_goto (tgt := 23) hx hb dX3_hasDead_19 (by decide) ?_
        exact e_zR hx hb hr hlk (by decide) h dX3_hasDead_23
def fX3_hasPlot (y : OS) (a1 : Int32) : Option (Int32) := if a1 < 0 then some 0 else if (y 0 0) ≤ a1 then some 0 else if 8 ≤ a1 then some 0 else some 1
abbrev rmX3_hasPlot : Room := { frames := 0, cells := 0, slots := 0, locals := 0 }
set_option maxHeartbeats 4000000 in
set_option maxRecDepth 100000 in
theorem c_X3_hasPlot (l : Launch) (E : En) (q : Nat → Nat) (y : OS) (a1 : Int32) (r : Int32) (h : fX3_hasPlot y a1 = some r) : Met l yX3_hasPlot (kX3_hasPlot :: BIG) rmX3_hasPlot (Pk E [.ref (q 0), .int a1] (Yd E q y)) (QcRead r) 0 0 (fun _ => False) := by
  refine Mb (by decide) (Nat.le_of_ble_eq_true rfl) ?_
  intro p e s m below meth c ls hx hb hr hlk hB hown hml _ hK hw hl
  have hl : lv_has ls 2 [(0, .ref (q 0)), (1, .int a1)] := hl
  rw [fX3_hasPlot] at h
  refine lv_iload_n hx hb dX3_hasPlot_0 rfl (lv_at hl 1 rfl) ?_
  refine lv_if_lt (tgt := 22) hx hb dX3_hasPlot_1 (by decide) (fun g1 => ?_) (fun g1 => ?_)
  · rw [if_pos g1] at h
    refine lv_iconst (v := 0) hx hb dX3_hasPlot_22 (by decide) ?_
    exact e_zR hx hb hr hlk (by decide) h dX3_hasPlot_23
  · rw [if_neg g1] at h
    refine lv_iload_n hx hb dX3_hasPlot_4 rfl (lv_at hl 1 rfl) ?_
    refine lv_aload_n hx hb dX3_hasPlot_5 rfl (lv_at hl 0 rfl) ?_
    refine gX3_33 hx hb hB hown hK hw dX3_hasPlot_6 ?_
    refine lv_icmp_ge (tgt := 22) hx hb dX3_hasPlot_9 (by decide) (fun g2 => ?_) (fun g2 => ?_)
    · rw [if_pos g2] at h
      refine lv_iconst (v := 0) hx hb dX3_hasPlot_22 (by decide) ?_
      exact e_zR hx hb hr hlk (by decide) h dX3_hasPlot_23
    · rw [if_neg g2] at h
      refine lv_iload_n hx hb dX3_hasPlot_12 rfl (lv_at hl 1 rfl) ?_
      refine lv_bipush (v := 8) hx hb dX3_hasPlot_13 (by decide) ?_
      refine lv_icmp_ge (tgt := 22) hx hb dX3_hasPlot_15 (by decide) (fun g3 => ?_) (fun g3 => ?_)
      · rw [if_pos g3] at h
        refine lv_iconst (v := 0) hx hb dX3_hasPlot_22 (by decide) ?_
        exact e_zR hx hb hr hlk (by decide) h dX3_hasPlot_23
      · rw [if_neg g3] at h
        refine lv_iconst (v := 1) hx hb dX3_hasPlot_18 (by decide) ?_
        refine lv_goto (tgt := 23) hx hb dX3_hasPlot_19 (by decide) ?_
        exact e_zR hx hb hr hlk (by decide) h dX3_hasPlot_23
def fX3_hasVisitor (y : OS) (a1 : Int32) : Option (Int32) := if a1 < 0 then some 0 else if (y 0 3) ≤ a1 then some 0 else if 6 ≤ a1 then some 0 else some 1
abbrev rmX3_hasVisitor : Room := { frames := 0, cells := 0, slots := 0, locals := 0 }
set_option maxHeartbeats 4000000 in
set_option maxRecDepth 100000 in
theorem c_X3_hasVisitor (l : Launch) (E : En) (q : Nat → Nat) (y : OS) (a1 : Int32) (r : Int32) (h : fX3_hasVisitor y a1 = some r) : Met l yX3_hasVisitor (kX3_hasVisitor :: BIG) rmX3_hasVisitor (Pk E [.ref (q 0), .int a1] (Yd E q y)) (QcRead r) 0 0 (fun _ => False) := by
  refine Mb (by decide) (Nat.le_of_ble_eq_true rfl) ?_
  intro p e s m below meth c ls hx hb hr hlk hB hown hml _ hK hw hl
  have hl : lv_has ls 2 [(0, .ref (q 0)), (1, .int a1)] := hl
  rw [fX3_hasVisitor] at h
  refine lv_iload_n hx hb dX3_hasVisitor_0 rfl (lv_at hl 1 rfl) ?_
  refine lv_if_lt (tgt := 22) hx hb dX3_hasVisitor_1 (by decide) (fun g1 => ?_) (fun g1 => ?_)
  · rw [if_pos g1] at h
    refine lv_iconst (v := 0) hx hb dX3_hasVisitor_22 (by decide) ?_
    exact e_zR hx hb hr hlk (by decide) h dX3_hasVisitor_23
  · rw [if_neg g1] at h
    refine lv_iload_n hx hb dX3_hasVisitor_4 rfl (lv_at hl 1 rfl) ?_
    refine lv_aload_n hx hb dX3_hasVisitor_5 rfl (lv_at hl 0 rfl) ?_
    refine gX3_43 hx hb hB hown hK hw dX3_hasVisitor_6 ?_
    refine lv_icmp_ge (tgt := 22) hx hb dX3_hasVisitor_9 (by decide) (fun g2 => ?_) (fun g2 => ?_)
    · rw [if_pos g2] at h
      refine lv_iconst (v := 0) hx hb dX3_hasVisitor_22 (by decide) ?_
      exact e_zR hx hb hr hlk (by decide) h dX3_hasVisitor_23
    · rw [if_neg g2] at h
      refine lv_iload_n hx hb dX3_hasVisitor_12 rfl (lv_at hl 1 rfl) ?_
      refine lv_bipush (v := 6) hx hb dX3_hasVisitor_13 (by decide) ?_
      refine lv_icmp_ge (tgt := 22) hx hb dX3_hasVisitor_15 (by decide) (fun g3 => ?_) (fun g3 => ?_)
      · rw [if_pos g3] at h
        refine lv_iconst (v := 0) hx hb dX3_hasVisitor_22 (by decide) ?_
        exact e_zR hx hb hr hlk (by decide) h dX3_hasVisitor_23
      · rw [if_neg g3] at h
        refine lv_iconst (v := 1) hx hb dX3_hasVisitor_18 (by decide) ?_
        refine lv_goto (tgt := 23) hx hb dX3_hasVisitor_19 (by decide) ?_
        exact e_zR hx hb hr hlk (by decide) h dX3_hasVisitor_23
def fX3_villageOf (y : OS) (a1 : Int32) : Option (Int32) := (fX3_hasDead y a1).bind (fun r1 => (if r1 = 0 then some (-4) else gB (ib a1 12) (some (y 1 a1.toNatClampNeg))))
abbrev rmX3_villageOf : Room := { frames := 1, cells := 0, slots := 0, locals := 21 }
set_option maxHeartbeats 4000000 in
set_option maxRecDepth 100000 in
theorem c_X3_villageOf (l : Launch) (E : En) (q : Nat → Nat) (y : OS) (a1 : Int32) (r : Int32) (h : fX3_villageOf y a1 = some r) : Met l yX3_villageOf (kX3_villageOf :: BIG) rmX3_villageOf (Pk E [.ref (q 0), .int a1] (Yd E q y)) (QcRead r) 0 0 (fun _ => False) := by
  refine Mb (by decide) (Nat.le_of_ble_eq_true rfl) ?_
  intro p e s m below meth c ls hx hb hr hlk hB hown hml _ hK hw hl
  have hl : lv_has ls 2 [(0, .ref (q 0)), (1, .int a1)] := hl
  rw [fX3_villageOf] at h
  refine lv_aload_n hx hb dX3_villageOf_0 rfl (lv_at hl 0 rfl) ?_
  refine lv_iload_n hx hb dX3_villageOf_1 rfl (lv_at hl 1 rfl) ?_
  obtain ⟨r1, e1, h⟩ := ob h
  refine k_VR ⟨hx, hb, hml, hown, hB⟩ (c_X3_hasDead l E q y a1 r1 e1) (clX3_49 hB rfl rfl ⟨Nat.le_of_ble_eq_true rfl, Nat.le_of_ble_eq_true rfl⟩) hK hw (rvY hK hw) rfl hl.1 rfl (Nat.le_of_ble_eq_true rfl) dX3_villageOf_2 ⟨Nat.zero_le _, Nat.zero_le _⟩ ?_
  refine lv_if_eq (tgt := 17) hx hb dX3_villageOf_5 (by decide) (fun g2 => ?_) (fun g2 => ?_)
  · rw [if_pos g2] at h
    refine lv_bipush (v := (-4)) hx hb dX3_villageOf_17 (by decide) ?_
    exact e_zR hx hb hr hlk rfl h dX3_villageOf_19
  · rw [if_neg g2] at h
    refine lv_aload_n hx hb dX3_villageOf_8 rfl (lv_at hl 0 rfl) ?_
    refine gX3_9 hx hb hB hown hK hw dX3_villageOf_9 ?_
    refine lv_iload_n hx hb dX3_villageOf_12 rfl (lv_at hl 1 rfl) ?_
    obtain ⟨g3, h⟩ := gB_ok h
    refine r_ald hx hb hK (aY1 hw) (ib_ok g3) dX3_villageOf_13 ?_
    refine lv_goto (tgt := 19) hx hb dX3_villageOf_14 (by decide) ?_
    exact e_zR hx hb hr hlk rfl h dX3_villageOf_19
def fX3_kindOf (y : OS) (a1 : Int32) : Option (Int32) := (fX3_hasDead y a1).bind (fun r1 => (if r1 = 0 then some (-4) else gB (ib a1 12) (some (y 2 a1.toNatClampNeg))))
abbrev rmX3_kindOf : Room := { frames := 1, cells := 0, slots := 0, locals := 21 }
set_option maxHeartbeats 4000000 in
set_option maxRecDepth 100000 in
theorem c_X3_kindOf (l : Launch) (E : En) (q : Nat → Nat) (y : OS) (a1 : Int32) (r : Int32) (h : fX3_kindOf y a1 = some r) : Met l yX3_kindOf (kX3_kindOf :: BIG) rmX3_kindOf (Pk E [.ref (q 0), .int a1] (Yd E q y)) (QcRead r) 0 0 (fun _ => False) := by
  refine Mb (by decide) (Nat.le_of_ble_eq_true rfl) ?_
  intro p e s m below meth c ls hx hb hr hlk hB hown hml _ hK hw hl
  have hl : lv_has ls 2 [(0, .ref (q 0)), (1, .int a1)] := hl
  rw [fX3_kindOf] at h
  refine lv_aload_n hx hb dX3_kindOf_0 rfl (lv_at hl 0 rfl) ?_
  refine lv_iload_n hx hb dX3_kindOf_1 rfl (lv_at hl 1 rfl) ?_
  obtain ⟨r1, e1, h⟩ := ob h
  refine k_VR ⟨hx, hb, hml, hown, hB⟩ (c_X3_hasDead l E q y a1 r1 e1) (clX3_49 hB rfl rfl ⟨Nat.le_of_ble_eq_true rfl, Nat.le_of_ble_eq_true rfl⟩) hK hw (rvY hK hw) rfl hl.1 rfl (Nat.le_of_ble_eq_true rfl) dX3_kindOf_2 ⟨Nat.zero_le _, Nat.zero_le _⟩ ?_
  refine lv_if_eq (tgt := 17) hx hb dX3_kindOf_5 (by decide) (fun g2 => ?_) (fun g2 => ?_)
  · rw [if_pos g2] at h
    refine lv_bipush (v := (-4)) hx hb dX3_kindOf_17 (by decide) ?_
    exact e_zR hx hb hr hlk rfl h dX3_kindOf_19
  · rw [if_neg g2] at h
    refine lv_aload_n hx hb dX3_kindOf_8 rfl (lv_at hl 0 rfl) ?_
    refine gX3_15 hx hb hB hown hK hw dX3_kindOf_9 ?_
    refine lv_iload_n hx hb dX3_kindOf_12 rfl (lv_at hl 1 rfl) ?_
    obtain ⟨g3, h⟩ := gB_ok h
    refine r_ald hx hb hK (aY2 hw) (ib_ok g3) dX3_kindOf_13 ?_
    refine lv_goto (tgt := 19) hx hb dX3_kindOf_14 (by decide) ?_
    exact e_zR hx hb hr hlk rfl h dX3_kindOf_19
def fX3_forgivenOf (y : OS) (a1 : Int32) : Option (Int32) := (fX3_hasDead y a1).bind (fun r1 => (if r1 = 0 then some (-4) else gB (ib a1 12) (some (y 3 a1.toNatClampNeg))))
abbrev rmX3_forgivenOf : Room := { frames := 1, cells := 0, slots := 0, locals := 21 }
set_option maxHeartbeats 4000000 in
set_option maxRecDepth 100000 in
theorem c_X3_forgivenOf (l : Launch) (E : En) (q : Nat → Nat) (y : OS) (a1 : Int32) (r : Int32) (h : fX3_forgivenOf y a1 = some r) : Met l yX3_forgivenOf (kX3_forgivenOf :: BIG) rmX3_forgivenOf (Pk E [.ref (q 0), .int a1] (Yd E q y)) (QcRead r) 0 0 (fun _ => False) := by
  refine Mb (by decide) (Nat.le_of_ble_eq_true rfl) ?_
  intro p e s m below meth c ls hx hb hr hlk hB hown hml _ hK hw hl
  have hl : lv_has ls 2 [(0, .ref (q 0)), (1, .int a1)] := hl
  rw [fX3_forgivenOf] at h
  refine lv_aload_n hx hb dX3_forgivenOf_0 rfl (lv_at hl 0 rfl) ?_
  refine lv_iload_n hx hb dX3_forgivenOf_1 rfl (lv_at hl 1 rfl) ?_
  obtain ⟨r1, e1, h⟩ := ob h
  refine k_VR ⟨hx, hb, hml, hown, hB⟩ (c_X3_hasDead l E q y a1 r1 e1) (clX3_49 hB rfl rfl ⟨Nat.le_of_ble_eq_true rfl, Nat.le_of_ble_eq_true rfl⟩) hK hw (rvY hK hw) rfl hl.1 rfl (Nat.le_of_ble_eq_true rfl) dX3_forgivenOf_2 ⟨Nat.zero_le _, Nat.zero_le _⟩ ?_
  refine lv_if_eq (tgt := 17) hx hb dX3_forgivenOf_5 (by decide) (fun g2 => ?_) (fun g2 => ?_)
  · rw [if_pos g2] at h
    refine lv_bipush (v := (-4)) hx hb dX3_forgivenOf_17 (by decide) ?_
    exact e_zR hx hb hr hlk rfl h dX3_forgivenOf_19
  · rw [if_neg g2] at h
    refine lv_aload_n hx hb dX3_forgivenOf_8 rfl (lv_at hl 0 rfl) ?_
    refine gX3_18 hx hb hB hown hK hw dX3_forgivenOf_9 ?_
    refine lv_iload_n hx hb dX3_forgivenOf_12 rfl (lv_at hl 1 rfl) ?_
    obtain ⟨g3, h⟩ := gB_ok h
    refine r_ald hx hb hK (aY3 hw) (ib_ok g3) dX3_forgivenOf_13 ?_
    refine lv_goto (tgt := 19) hx hb dX3_forgivenOf_14 (by decide) ?_
    exact e_zR hx hb hr hlk rfl h dX3_forgivenOf_19
def fX3_visitedBy (y : OS) (a1 : Int32) : Option (Int32) := (fX3_hasVisitor y a1).bind (fun r1 => (if r1 = 0 then some (-4) else gB (ib a1 6) (some (y 5 a1.toNatClampNeg))))
abbrev rmX3_visitedBy : Room := { frames := 1, cells := 0, slots := 0, locals := 21 }
set_option maxHeartbeats 4000000 in
set_option maxRecDepth 100000 in
theorem c_X3_visitedBy (l : Launch) (E : En) (q : Nat → Nat) (y : OS) (a1 : Int32) (r : Int32) (h : fX3_visitedBy y a1 = some r) : Met l yX3_visitedBy (kX3_visitedBy :: BIG) rmX3_visitedBy (Pk E [.ref (q 0), .int a1] (Yd E q y)) (QcRead r) 0 0 (fun _ => False) := by
  refine Mb (by decide) (Nat.le_of_ble_eq_true rfl) ?_
  intro p e s m below meth c ls hx hb hr hlk hB hown hml _ hK hw hl
  have hl : lv_has ls 2 [(0, .ref (q 0)), (1, .int a1)] := hl
  rw [fX3_visitedBy] at h
  refine lv_aload_n hx hb dX3_visitedBy_0 rfl (lv_at hl 0 rfl) ?_
  refine lv_iload_n hx hb dX3_visitedBy_1 rfl (lv_at hl 1 rfl) ?_
  obtain ⟨r1, e1, h⟩ := ob h
  refine k_VR ⟨hx, hb, hml, hown, hB⟩ (c_X3_hasVisitor l E q y a1 r1 e1) (clX3_53 hB rfl rfl ⟨Nat.le_of_ble_eq_true rfl, Nat.le_of_ble_eq_true rfl⟩) hK hw (rvY hK hw) rfl hl.1 rfl (Nat.le_of_ble_eq_true rfl) dX3_visitedBy_2 ⟨Nat.zero_le _, Nat.zero_le _⟩ ?_
  refine lv_if_eq (tgt := 17) hx hb dX3_visitedBy_5 (by decide) (fun g2 => ?_) (fun g2 => ?_)
  · rw [if_pos g2] at h
    refine lv_bipush (v := (-4)) hx hb dX3_visitedBy_17 (by decide) ?_
    exact e_zR hx hb hr hlk rfl h dX3_visitedBy_19
  · rw [if_neg g2] at h
    refine lv_aload_n hx hb dX3_visitedBy_8 rfl (lv_at hl 0 rfl) ?_
    refine gX3_24 hx hb hB hown hK hw dX3_visitedBy_9 ?_
    refine lv_iload_n hx hb dX3_visitedBy_12 rfl (lv_at hl 1 rfl) ?_
    obtain ⟨g3, h⟩ := gB_ok h
    refine r_ald hx hb hK (aY5 hw) (ib_ok g3) dX3_visitedBy_13 ?_
    refine lv_goto (tgt := 19) hx hb dX3_visitedBy_14 (by decide) ?_
    exact e_zR hx hb hr hlk rfl h dX3_visitedBy_19
def fX3_minutesOf (y : OS) (a1 : Int32) : Option (Int32) := (fX3_hasVisitor y a1).bind (fun r1 => (if r1 = 0 then some (-4) else gB (ib a1 6) (some (y 6 a1.toNatClampNeg))))
abbrev rmX3_minutesOf : Room := { frames := 1, cells := 0, slots := 0, locals := 21 }
set_option maxHeartbeats 4000000 in
set_option maxRecDepth 100000 in
theorem c_X3_minutesOf (l : Launch) (E : En) (q : Nat → Nat) (y : OS) (a1 : Int32) (r : Int32) (h : fX3_minutesOf y a1 = some r) : Met l yX3_minutesOf (kX3_minutesOf :: BIG) rmX3_minutesOf (Pk E [.ref (q 0), .int a1] (Yd E q y)) (QcRead r) 0 0 (fun _ => False) := by
  refine Mb (by decide) (Nat.le_of_ble_eq_true rfl) ?_
  intro p e s m below meth c ls hx hb hr hlk hB hown hml _ hK hw hl
  have hl : lv_has ls 2 [(0, .ref (q 0)), (1, .int a1)] := hl
  rw [fX3_minutesOf] at h
  refine lv_aload_n hx hb dX3_minutesOf_0 rfl (lv_at hl 0 rfl) ?_
  refine lv_iload_n hx hb dX3_minutesOf_1 rfl (lv_at hl 1 rfl) ?_
  obtain ⟨r1, e1, h⟩ := ob h
  refine k_VR ⟨hx, hb, hml, hown, hB⟩ (c_X3_hasVisitor l E q y a1 r1 e1) (clX3_53 hB rfl rfl ⟨Nat.le_of_ble_eq_true rfl, Nat.le_of_ble_eq_true rfl⟩) hK hw (rvY hK hw) rfl hl.1 rfl (Nat.le_of_ble_eq_true rfl) dX3_minutesOf_2 ⟨Nat.zero_le _, Nat.zero_le _⟩ ?_
  refine lv_if_eq (tgt := 17) hx hb dX3_minutesOf_5 (by decide) (fun g2 => ?_) (fun g2 => ?_)
  · rw [if_pos g2] at h
    refine lv_bipush (v := (-4)) hx hb dX3_minutesOf_17 (by decide) ?_
    exact e_zR hx hb hr hlk rfl h dX3_minutesOf_19
  · rw [if_neg g2] at h
    refine lv_aload_n hx hb dX3_minutesOf_8 rfl (lv_at hl 0 rfl) ?_
    refine gX3_27 hx hb hB hown hK hw dX3_minutesOf_9 ?_
    refine lv_iload_n hx hb dX3_minutesOf_12 rfl (lv_at hl 1 rfl) ?_
    obtain ⟨g3, h⟩ := gB_ok h
    refine r_ald hx hb hK (aY6 hw) (ib_ok g3) dX3_minutesOf_13 ?_
    refine lv_goto (tgt := 19) hx hb dX3_minutesOf_14 (by decide) ?_
    exact e_zR hx hb hr hlk rfl h dX3_minutesOf_19
def fX3_whoLies (y : OS) (a1 : Int32) (a2 : Int32) : Option (Int32) := if a1 < 0 then some (-4) else if 1 < a1 then some (-4) else if a2 < 0 then some (-4) else if (y 0 0) ≤ a2 then some (-4) else if 8 ≤ a2 then some (-4) else gB (ib ((a1 * 8) + a2) 16) (some (y 4 ((a1 * 8) + a2).toNatClampNeg))
abbrev rmX3_whoLies : Room := { frames := 0, cells := 0, slots := 0, locals := 0 }
set_option maxHeartbeats 4000000 in
set_option maxRecDepth 100000 in
theorem c_X3_whoLies (l : Launch) (E : En) (q : Nat → Nat) (y : OS) (a1 : Int32) (a2 : Int32) (r : Int32) (h : fX3_whoLies y a1 a2 = some r) : Met l yX3_whoLies (kX3_whoLies :: BIG) rmX3_whoLies (Pk E [.ref (q 0), .int a1, .int a2] (Yd E q y)) (QcRead r) 0 0 (fun _ => False) := by
  refine Mb (by decide) (Nat.le_of_ble_eq_true rfl) ?_
  intro p e s m below meth c ls hx hb hr hlk hB hown hml _ hK hw hl
  have hl : lv_has ls 4 [(0, .ref (q 0)), (1, .int a1), (2, .int a2)] := hl
  rw [fX3_whoLies] at h
  refine lv_iload_n hx hb dX3_whoLies_0 rfl (lv_at hl 1 rfl) ?_
  refine lv_if_lt (tgt := 31) hx hb dX3_whoLies_1 (by decide) (fun g1 => ?_) (fun g1 => ?_)
  · rw [if_pos g1] at h
    refine lv_iconst (v := 0) hx hb dX3_whoLies_31 (by decide) ?_
    refine lv_istore_n (lv' := [(3, .int 0), (0, .ref (q 0)), (1, .int a1), (2, .int a2)]) hx hb dX3_whoLies_32 rfl hl (by decide) rfl (fun ls hl => ?_)
    refine lv_iload_n hx hb dX3_whoLies_33 rfl (lv_at hl 0 rfl) ?_
    refine lv_if_eq (tgt := 51) hx hb dX3_whoLies_34 (by decide) (fun _ => ?_) (fun g => absurd (by decide) g)
    refine lv_bipush (v := (-4)) hx hb dX3_whoLies_51 (by decide) ?_
    exact e_zR hx hb hr hlk rfl h dX3_whoLies_53
  · rw [if_neg g1] at h
    refine lv_iload_n hx hb dX3_whoLies_4 rfl (lv_at hl 1 rfl) ?_
    refine lv_iconst (v := 1) hx hb dX3_whoLies_5 (by decide) ?_
    refine lv_icmp_gt (tgt := 31) hx hb dX3_whoLies_6 (by decide) (fun g2 => ?_) (fun g2 => ?_)
    · rw [if_pos g2] at h
      refine lv_iconst (v := 0) hx hb dX3_whoLies_31 (by decide) ?_
      refine lv_istore_n (lv' := [(3, .int 0), (0, .ref (q 0)), (1, .int a1), (2, .int a2)]) hx hb dX3_whoLies_32 rfl hl (by decide) rfl (fun ls hl => ?_)
      refine lv_iload_n hx hb dX3_whoLies_33 rfl (lv_at hl 0 rfl) ?_
      refine lv_if_eq (tgt := 51) hx hb dX3_whoLies_34 (by decide) (fun _ => ?_) (fun g => absurd (by decide) g)
      refine lv_bipush (v := (-4)) hx hb dX3_whoLies_51 (by decide) ?_
      exact e_zR hx hb hr hlk rfl h dX3_whoLies_53
    · rw [if_neg g2] at h
      refine lv_iload_n hx hb dX3_whoLies_9 rfl (lv_at hl 2 rfl) ?_
      refine lv_if_lt (tgt := 31) hx hb dX3_whoLies_10 (by decide) (fun g3 => ?_) (fun g3 => ?_)
      · rw [if_pos g3] at h
        refine lv_iconst (v := 0) hx hb dX3_whoLies_31 (by decide) ?_
        refine lv_istore_n (lv' := [(3, .int 0), (0, .ref (q 0)), (1, .int a1), (2, .int a2)]) hx hb dX3_whoLies_32 rfl hl (by decide) rfl (fun ls hl => ?_)
        refine lv_iload_n hx hb dX3_whoLies_33 rfl (lv_at hl 0 rfl) ?_
        refine lv_if_eq (tgt := 51) hx hb dX3_whoLies_34 (by decide) (fun _ => ?_) (fun g => absurd (by decide) g)
        refine lv_bipush (v := (-4)) hx hb dX3_whoLies_51 (by decide) ?_
        exact e_zR hx hb hr hlk rfl h dX3_whoLies_53
      · rw [if_neg g3] at h
        refine lv_iload_n hx hb dX3_whoLies_13 rfl (lv_at hl 2 rfl) ?_
        refine lv_aload_n hx hb dX3_whoLies_14 rfl (lv_at hl 0 rfl) ?_
        refine gX3_33 hx hb hB hown hK hw dX3_whoLies_15 ?_
        refine lv_icmp_ge (tgt := 31) hx hb dX3_whoLies_18 (by decide) (fun g4 => ?_) (fun g4 => ?_)
        · rw [if_pos g4] at h
          refine lv_iconst (v := 0) hx hb dX3_whoLies_31 (by decide) ?_
          refine lv_istore_n (lv' := [(3, .int 0), (0, .ref (q 0)), (1, .int a1), (2, .int a2)]) hx hb dX3_whoLies_32 rfl hl (by decide) rfl (fun ls hl => ?_)
          refine lv_iload_n hx hb dX3_whoLies_33 rfl (lv_at hl 0 rfl) ?_
          refine lv_if_eq (tgt := 51) hx hb dX3_whoLies_34 (by decide) (fun _ => ?_) (fun g => absurd (by decide) g)
          refine lv_bipush (v := (-4)) hx hb dX3_whoLies_51 (by decide) ?_
          exact e_zR hx hb hr hlk rfl h dX3_whoLies_53
        · rw [if_neg g4] at h
          refine lv_iload_n hx hb dX3_whoLies_21 rfl (lv_at hl 2 rfl) ?_
          refine lv_bipush (v := 8) hx hb dX3_whoLies_22 (by decide) ?_
          refine lv_icmp_ge (tgt := 31) hx hb dX3_whoLies_24 (by decide) (fun g5 => ?_) (fun g5 => ?_)
          · rw [if_pos g5] at h
            refine lv_iconst (v := 0) hx hb dX3_whoLies_31 (by decide) ?_
            refine lv_istore_n (lv' := [(3, .int 0), (0, .ref (q 0)), (1, .int a1), (2, .int a2)]) hx hb dX3_whoLies_32 rfl hl (by decide) rfl (fun ls hl => ?_)
            refine lv_iload_n hx hb dX3_whoLies_33 rfl (lv_at hl 0 rfl) ?_
            refine lv_if_eq (tgt := 51) hx hb dX3_whoLies_34 (by decide) (fun _ => ?_) (fun g => absurd (by decide) g)
            refine lv_bipush (v := (-4)) hx hb dX3_whoLies_51 (by decide) ?_
            exact e_zR hx hb hr hlk rfl h dX3_whoLies_53
          · rw [if_neg g5] at h
            refine lv_iconst (v := 1) hx hb dX3_whoLies_27 (by decide) ?_
            refine lv_goto (tgt := 32) hx hb dX3_whoLies_28 (by decide) ?_
            refine lv_istore_n (lv' := [(3, .int 1), (0, .ref (q 0)), (1, .int a1), (2, .int a2)]) hx hb dX3_whoLies_32 rfl hl (by decide) rfl (fun ls hl => ?_)
            refine lv_iload_n hx hb dX3_whoLies_33 rfl (lv_at hl 0 rfl) ?_
            refine lv_if_eq (tgt := 51) hx hb dX3_whoLies_34 (by decide) (fun g => absurd g (by decide)) (fun _ => ?_)
            refine lv_aload_n hx hb dX3_whoLies_37 rfl (lv_at hl 1 rfl) ?_
            refine gX3_21 hx hb hB hown hK hw dX3_whoLies_38 ?_
            refine lv_iload_n hx hb dX3_whoLies_41 rfl (lv_at hl 2 rfl) ?_
            refine lv_bipush (v := 8) hx hb dX3_whoLies_42 (by decide) ?_
            refine lv_imul hx hb dX3_whoLies_44 ?_
            refine lv_iload_n hx hb dX3_whoLies_45 rfl (lv_at hl 3 rfl) ?_
            refine lv_iadd hx hb dX3_whoLies_46 ?_
            obtain ⟨g6, h⟩ := gB_ok h
            refine r_ald hx hb hK (aY4 hw) (ib_ok g6) dX3_whoLies_47 ?_
            refine lv_goto (tgt := 53) hx hb dX3_whoLies_48 (by decide) ?_
            exact e_zR hx hb hr hlk rfl h dX3_whoLies_53
def fX3_placeIn_L2 (y : OS) (v1_2 : Int32) (v2_2 : Int32) : Nat → Int32 → Option (Int32)
  | 0, _ => none
  | n_2 + 1, v3_2 => if (y 0 0) ≤ v3_2 then some (-4) else (fX3_whoLies y v1_2 v3_2).bind (fun r2 => (if r2 = v2_2 then some v3_2 else fX3_placeIn_L2 y v1_2 v2_2 n_2 (v3_2 + 1)))
def fX3_placeIn (y : OS) (a1 : Int32) (a2 : Int32) : Option (Int32) := fX3_placeIn_L2 y a1 a2 FU 0
abbrev rmX3_placeIn : Room := { frames := 1, cells := 0, slots := 0, locals := 23 }
set_option maxHeartbeats 4000000 in
set_option maxRecDepth 100000 in
theorem c_X3_placeIn (l : Launch) (E : En) (q : Nat → Nat) (y : OS) (a1 : Int32) (a2 : Int32) (r : Int32) (h : fX3_placeIn y a1 a2 = some r) : Met l yX3_placeIn (kX3_placeIn :: BIG) rmX3_placeIn (Pk E [.ref (q 0), .int a1, .int a2] (Yd E q y)) (QcRead r) 0 0 (fun _ => False) := by
  refine Mb (by decide) (Nat.le_of_ble_eq_true rfl) ?_
  intro p e s m below meth c ls hx hb hr hlk hB hown hml _ hK hw hl
  have hl : lv_has ls 4 [(0, .ref (q 0)), (1, .int a1), (2, .int a2)] := hl
  rw [fX3_placeIn] at h
  have hL2 : ∀ (n_2 : Nat) (v1_2 : Int32) (v2_2 : Int32) (v3_2 : Int32) (ls_2 : Array Slot), lv_has ls_2 4 [(0, .ref (q 0)), (1, .int v1_2), (2, .int v2_2), (3, .int v3_2)] → fX3_placeIn_L2 y v1_2 v2_2 n_2 v3_2 = some r → W p l e rmX3_placeIn s m ([.ref (q 0), .int a1, .int a2] : List Value).toArray below meth c s.heap [] 0 0 (MQ below (QcRead r) ([.ref (q 0), .int a1, .int a2] : List Value).toArray s 0 0 (fun _ => False)) (F0 m 2 ls_2 []) := by
    intro n_2
    induction n_2 with
    | zero =>
      intro v1_2 v2_2 v3_2 ls_2 hl h
      exact nn h
    | succ n_2 ih_2 =>
      intro v1_2 v2_2 v3_2 ls_2 hl h
      rw [fX3_placeIn_L2] at h
      refine lv_iload_n hx hb dX3_placeIn_2 rfl (lv_at hl 3 rfl) ?_
      refine lv_aload_n hx hb dX3_placeIn_3 rfl (lv_at hl 0 rfl) ?_
      refine gX3_33 hx hb hB hown hK hw dX3_placeIn_4 ?_
      refine lv_icmp_ge (tgt := 28) hx hb dX3_placeIn_7 (by decide) (fun g1 => ?_) (fun g1 => ?_)
      · rw [if_pos g1] at h
        refine lv_bipush (v := (-4)) hx hb dX3_placeIn_28 (by decide) ?_
        exact e_zR hx hb hr hlk rfl h dX3_placeIn_30
      · rw [if_neg g1] at h
        refine lv_aload_n hx hb dX3_placeIn_10 rfl (lv_at hl 0 rfl) ?_
        refine lv_iload_n hx hb dX3_placeIn_11 rfl (lv_at hl 1 rfl) ?_
        refine lv_iload_n hx hb dX3_placeIn_12 rfl (lv_at hl 3 rfl) ?_
        obtain ⟨r2, e2, h⟩ := ob h
        refine k_VR ⟨hx, hb, hml, hown, hB⟩ (c_X3_whoLies l E q y v1_2 v3_2 r2 e2) (clX3_60 hB rfl rfl ⟨Nat.le_of_ble_eq_true rfl, Nat.le_of_ble_eq_true rfl⟩) hK hw (rvY hK hw) rfl hl.1 rfl (Nat.le_of_ble_eq_true rfl) dX3_placeIn_13 ⟨Nat.zero_le _, Nat.zero_le _⟩ ?_
        refine lv_iload_n hx hb dX3_placeIn_16 rfl (lv_at hl 2 rfl) ?_
        refine lv_icmp_ne (tgt := 22) hx hb dX3_placeIn_17 (by decide) (fun g3 => ?_) (fun g3 => ?_)
        · rw [if_neg g3] at h
          refine lv_iinc (v := (v3_2 + 1)) (lv' := [(3, .int (v3_2 + 1)), (0, .ref (q 0)), (1, .int v1_2), (2, .int v2_2)]) hx hb dX3_placeIn_22 hl (k := 3) rfl rfl (by decide) rfl (fun ls hl => ?_)
          refine lv_goto (tgt := 2) hx hb dX3_placeIn_25 (by decide) ?_
          exact ih_2 v1_2 v2_2 (v3_2 + 1) _ (lv_sub hl [1, 2, 3, 0] rfl) h
        · rw [if_pos g3] at h
          refine lv_iload_n hx hb dX3_placeIn_20 rfl (lv_at hl 3 rfl) ?_
          exact e_zR hx hb hr hlk rfl h dX3_placeIn_21
  refine lv_iconst (v := 0) hx hb dX3_placeIn_0 (by decide) ?_
  refine lv_istore_n (lv' := [(3, .int 0), (0, .ref (q 0)), (1, .int a1), (2, .int a2)]) hx hb dX3_placeIn_1 rfl hl (by decide) rfl (fun ls hl => ?_)
  exact hL2 FU a1 a2 0 _ (lv_sub hl [1, 2, 3, 0] rfl) h
def fX3_plotOf (y : OS) (a1 : Int32) : Option (Int32) := (fX3_hasDead y a1).bind (fun r1 => (if r1 = 0 then some (-4) else gB (ib a1 12) ((fX3_placeIn y (1 - (y 1 a1.toNatClampNeg)) a1).bind (fun r4 => (some r4)))))
abbrev rmX3_plotOf : Room := { frames := 2, cells := 0, slots := 0, locals := 46 }
set_option maxHeartbeats 4000000 in
set_option maxRecDepth 100000 in
theorem c_X3_plotOf (l : Launch) (E : En) (q : Nat → Nat) (y : OS) (a1 : Int32) (r : Int32) (h : fX3_plotOf y a1 = some r) : Met l yX3_plotOf (kX3_plotOf :: BIG) rmX3_plotOf (Pk E [.ref (q 0), .int a1] (Yd E q y)) (QcRead r) 0 0 (fun _ => False) := by
  refine Mb (by decide) (Nat.le_of_ble_eq_true rfl) ?_
  intro p e s m below meth c ls hx hb hr hlk hB hown hml _ hK hw hl
  have hl : lv_has ls 2 [(0, .ref (q 0)), (1, .int a1)] := hl
  rw [fX3_plotOf] at h
  refine lv_aload_n hx hb dX3_plotOf_0 rfl (lv_at hl 0 rfl) ?_
  refine lv_iload_n hx hb dX3_plotOf_1 rfl (lv_at hl 1 rfl) ?_
  obtain ⟨r1, e1, h⟩ := ob h
  refine k_VR ⟨hx, hb, hml, hown, hB⟩ (c_X3_hasDead l E q y a1 r1 e1) (clX3_49 hB rfl rfl ⟨Nat.le_of_ble_eq_true rfl, Nat.le_of_ble_eq_true rfl⟩) hK hw (rvY hK hw) rfl hl.1 rfl (Nat.le_of_ble_eq_true rfl) dX3_plotOf_2 ⟨Nat.zero_le _, Nat.zero_le _⟩ ?_
  refine lv_if_eq (tgt := 24) hx hb dX3_plotOf_5 (by decide) (fun g2 => ?_) (fun g2 => ?_)
  · rw [if_pos g2] at h
    refine lv_bipush (v := (-4)) hx hb dX3_plotOf_24 (by decide) ?_
    exact e_zR hx hb hr hlk rfl h dX3_plotOf_26
  · rw [if_neg g2] at h
    refine lv_aload_n hx hb dX3_plotOf_8 rfl (lv_at hl 0 rfl) ?_
    refine lv_iconst (v := 1) hx hb dX3_plotOf_9 (by decide) ?_
    refine lv_aload_n hx hb dX3_plotOf_10 rfl (lv_at hl 0 rfl) ?_
    refine gX3_9 hx hb hB hown hK hw dX3_plotOf_11 ?_
    refine lv_iload_n hx hb dX3_plotOf_14 rfl (lv_at hl 1 rfl) ?_
    obtain ⟨g3, h⟩ := gB_ok h
    refine r_ald hx hb hK (aY1 hw) (ib_ok g3) dX3_plotOf_15 ?_
    refine lv_isub hx hb dX3_plotOf_16 ?_
    refine lv_iload_n hx hb dX3_plotOf_17 rfl (lv_at hl 1 rfl) ?_
    obtain ⟨r4, e4, h⟩ := ob h
    refine k_VR ⟨hx, hb, hml, hown, hB⟩ (c_X3_placeIn l E q y (1 - (y 1 a1.toNatClampNeg)) a1 r4 e4) (clX3_56 hB rfl rfl ⟨Nat.le_of_ble_eq_true rfl, Nat.le_of_ble_eq_true rfl⟩) hK hw (rvY hK hw) rfl hl.1 rfl (Nat.le_of_ble_eq_true rfl) dX3_plotOf_18 ⟨Nat.zero_le _, Nat.zero_le _⟩ ?_
    refine lv_goto (tgt := 26) hx hb dX3_plotOf_21 (by decide) ?_
    exact e_zR hx hb hr hlk rfl h dX3_plotOf_26
def fX3_plotOfDouble (y : OS) (a1 : Int32) : Option (Int32) := (fX3_hasDead y a1).bind (fun r1 => (if r1 = 0 then some (-4) else gB (ib a1 12) ((fX3_placeIn y (y 1 a1.toNatClampNeg) (a1 + 20)).bind (fun r4 => (some r4)))))
abbrev rmX3_plotOfDouble : Room := { frames := 2, cells := 0, slots := 0, locals := 46 }
set_option maxHeartbeats 4000000 in
set_option maxRecDepth 100000 in
theorem c_X3_plotOfDouble (l : Launch) (E : En) (q : Nat → Nat) (y : OS) (a1 : Int32) (r : Int32) (h : fX3_plotOfDouble y a1 = some r) : Met l yX3_plotOfDouble (kX3_plotOfDouble :: BIG) rmX3_plotOfDouble (Pk E [.ref (q 0), .int a1] (Yd E q y)) (QcRead r) 0 0 (fun _ => False) := by
  refine Mb (by decide) (Nat.le_of_ble_eq_true rfl) ?_
  intro p e s m below meth c ls hx hb hr hlk hB hown hml _ hK hw hl
  have hl : lv_has ls 2 [(0, .ref (q 0)), (1, .int a1)] := hl
  rw [fX3_plotOfDouble] at h
  refine lv_aload_n hx hb dX3_plotOfDouble_0 rfl (lv_at hl 0 rfl) ?_
  refine lv_iload_n hx hb dX3_plotOfDouble_1 rfl (lv_at hl 1 rfl) ?_
  obtain ⟨r1, e1, h⟩ := ob h
  refine k_VR ⟨hx, hb, hml, hown, hB⟩ (c_X3_hasDead l E q y a1 r1 e1) (clX3_49 hB rfl rfl ⟨Nat.le_of_ble_eq_true rfl, Nat.le_of_ble_eq_true rfl⟩) hK hw (rvY hK hw) rfl hl.1 rfl (Nat.le_of_ble_eq_true rfl) dX3_plotOfDouble_2 ⟨Nat.zero_le _, Nat.zero_le _⟩ ?_
  refine lv_if_eq (tgt := 25) hx hb dX3_plotOfDouble_5 (by decide) (fun g2 => ?_) (fun g2 => ?_)
  · rw [if_pos g2] at h
    refine lv_bipush (v := (-4)) hx hb dX3_plotOfDouble_25 (by decide) ?_
    exact e_zR hx hb hr hlk rfl h dX3_plotOfDouble_27
  · rw [if_neg g2] at h
    refine lv_aload_n hx hb dX3_plotOfDouble_8 rfl (lv_at hl 0 rfl) ?_
    refine lv_aload_n hx hb dX3_plotOfDouble_9 rfl (lv_at hl 0 rfl) ?_
    refine gX3_9 hx hb hB hown hK hw dX3_plotOfDouble_10 ?_
    refine lv_iload_n hx hb dX3_plotOfDouble_13 rfl (lv_at hl 1 rfl) ?_
    obtain ⟨g3, h⟩ := gB_ok h
    refine r_ald hx hb hK (aY1 hw) (ib_ok g3) dX3_plotOfDouble_14 ?_
    refine lv_iload_n hx hb dX3_plotOfDouble_15 rfl (lv_at hl 1 rfl) ?_
    refine lv_bipush (v := 20) hx hb dX3_plotOfDouble_16 (by decide) ?_
    refine lv_iadd hx hb dX3_plotOfDouble_18 ?_
    obtain ⟨r4, e4, h⟩ := ob h
    refine k_VR ⟨hx, hb, hml, hown, hB⟩ (c_X3_placeIn l E q y (y 1 a1.toNatClampNeg) (a1 + 20) r4 e4) (clX3_56 hB rfl rfl ⟨Nat.le_of_ble_eq_true rfl, Nat.le_of_ble_eq_true rfl⟩) hK hw (rvY hK hw) rfl hl.1 rfl (Nat.le_of_ble_eq_true rfl) dX3_plotOfDouble_19 ⟨Nat.zero_le _, Nat.zero_le _⟩ ?_
    refine lv_goto (tgt := 27) hx hb dX3_plotOfDouble_22 (by decide) ?_
    exact e_zR hx hb hr hlk rfl h dX3_plotOfDouble_27
def fX3_setForgiven (y : OS) (a1 : Int32) (a2 : Int32) : Option (OS) := (fX3_hasDead y a1).bind (fun r1 => (if r1 = 0 then some (y) else gB (ib a1 12) (some ((u2 y 3 a1.toNatClampNeg a2)))))
abbrev rmX3_setForgiven : Room := { frames := 1, cells := 0, slots := 0, locals := 21 }
set_option maxHeartbeats 4000000 in
set_option maxRecDepth 100000 in
theorem c_X3_setForgiven (l : Launch) (E : En) (q : Nat → Nat) (y : OS) (a1 : Int32) (a2 : Int32) (r : OS) (h : fX3_setForgiven y a1 a2 = some r) : Met l yX3_setForgiven (kX3_setForgiven :: BIG) rmX3_setForgiven (Pk E [.ref (q 0), .int a1, .int a2] (Yd E q y)) (QW none (AY q) (Yd E q r)) 0 0 (AY q) := by
  refine Mb (by decide) (Nat.le_of_ble_eq_true rfl) ?_
  intro p e s m below meth c ls hx hb hr hlk hB hown hml _ hK hw hl
  have hS : va_S (AY q) s.heap s.heap [] := va_S.rf
  have hl : lv_has ls 3 [(0, .ref (q 0)), (1, .int a1), (2, .int a2)] := hl
  rw [fX3_setForgiven] at h
  refine lv_aload_n hx hb dX3_setForgiven_0 rfl (lv_at hl 0 rfl) ?_
  refine lv_iload_n hx hb dX3_setForgiven_1 rfl (lv_at hl 1 rfl) ?_
  obtain ⟨r1, e1, h⟩ := ob h
  refine k_VR ⟨hx, hb, hml, hown, hB⟩ (c_X3_hasDead l E q y a1 r1 e1) (clX3_49 hB rfl rfl ⟨Nat.le_of_ble_eq_true rfl, Nat.le_of_ble_eq_true rfl⟩) hK hw (rvY hK hw) rfl hl.1 rfl (Nat.le_of_ble_eq_true rfl) dX3_setForgiven_2 ⟨Nat.zero_le _, Nat.zero_le _⟩ ?_
  refine lv_if_eq (tgt := 15) hx hb dX3_setForgiven_5 (by decide) (fun g2 => ?_) (fun g2 => ?_)
  · rw [if_pos g2] at h
    cases h
    exact e_vW hx hb hr hlk hw hS dX3_setForgiven_15
  · rw [if_neg g2] at h
    refine lv_aload_n hx hb dX3_setForgiven_8 rfl (lv_at hl 0 rfl) ?_
    refine gX3_18 hx hb hB hown hK hw dX3_setForgiven_9 ?_
    refine lv_iload_n hx hb dX3_setForgiven_12 rfl (lv_at hl 1 rfl) ?_
    refine lv_iload_n hx hb dX3_setForgiven_13 rfl (lv_at hl 2 rfl) ?_
    obtain ⟨g3, h⟩ := gB_ok h
    refine sY3 hx hb hK hw hS (fun _ z => z) (ib_ok g3) dX3_setForgiven_14 (fun H4 L4 hw _ hS => ?_)
    cases h
    exact e_vW hx hb hr hlk hw hS dX3_setForgiven_15
def fX3_addVisitor (y : OS) (a1 : Int32) (a2 : Int32) : Option (OS) := if (y 0 3) < 0 then some (y) else if 6 ≤ (y 0 3) then some (y) else gB (ib (y 0 3) 6) (gB (ib ((u2 y 5 (y 0 3).toNatClampNeg a1) 0 3) 6) (some ((u2 (u2 (u2 y 5 (y 0 3).toNatClampNeg a1) 6 ((u2 y 5 (y 0 3).toNatClampNeg a1) 0 3).toNatClampNeg a2) 0 3 (((u2 (u2 y 5 (y 0 3).toNatClampNeg a1) 6 ((u2 y 5 (y 0 3).toNatClampNeg a1) 0 3).toNatClampNeg a2) 0 3) + 1)))))
abbrev rmX3_addVisitor : Room := { frames := 0, cells := 0, slots := 0, locals := 0 }
set_option maxHeartbeats 4000000 in
set_option maxRecDepth 100000 in
theorem c_X3_addVisitor (l : Launch) (E : En) (q : Nat → Nat) (y : OS) (a1 : Int32) (a2 : Int32) (r : OS) (h : fX3_addVisitor y a1 a2 = some r) : Met l yX3_addVisitor (kX3_addVisitor :: BIG) rmX3_addVisitor (Pk E [.ref (q 0), .int a1, .int a2] (Yd E q y)) (QW none (AY q) (Yd E q r)) 0 0 (AY q) := by
  refine Mb (by decide) (Nat.le_of_ble_eq_true rfl) ?_
  intro p e s m below meth c ls hx hb hr hlk hB hown hml _ hK hw hl
  have hS : va_S (AY q) s.heap s.heap [] := va_S.rf
  have hl : lv_has ls 3 [(0, .ref (q 0)), (1, .int a1), (2, .int a2)] := hl
  rw [fX3_addVisitor] at h
  refine lv_aload_n hx hb dX3_addVisitor_0 rfl (lv_at hl 0 rfl) ?_
  refine gX3_43 hx hb hB hown hK hw dX3_addVisitor_1 ?_
  refine lv_if_lt (tgt := 46) hx hb dX3_addVisitor_4 (by decide) (fun g1 => ?_) (fun g1 => ?_)
  · rw [if_pos g1] at h
    cases h
    exact e_vW hx hb hr hlk hw hS dX3_addVisitor_46
  · rw [if_neg g1] at h
    refine lv_aload_n hx hb dX3_addVisitor_7 rfl (lv_at hl 0 rfl) ?_
    refine gX3_43 hx hb hB hown hK hw dX3_addVisitor_8 ?_
    refine lv_bipush (v := 6) hx hb dX3_addVisitor_11 (by decide) ?_
    refine lv_icmp_ge (tgt := 46) hx hb dX3_addVisitor_13 (by decide) (fun g2 => ?_) (fun g2 => ?_)
    · rw [if_pos g2] at h
      cases h
      exact e_vW hx hb hr hlk hw hS dX3_addVisitor_46
    · rw [if_neg g2] at h
      refine lv_aload_n hx hb dX3_addVisitor_16 rfl (lv_at hl 0 rfl) ?_
      refine gX3_24 hx hb hB hown hK hw dX3_addVisitor_17 ?_
      refine lv_aload_n hx hb dX3_addVisitor_20 rfl (lv_at hl 0 rfl) ?_
      refine gX3_43 hx hb hB hown hK hw dX3_addVisitor_21 ?_
      refine lv_iload_n hx hb dX3_addVisitor_24 rfl (lv_at hl 1 rfl) ?_
      obtain ⟨g3, h⟩ := gB_ok h
      refine sY5 hx hb hK hw hS (fun _ z => z) (ib_ok g3) dX3_addVisitor_25 (fun H4 L4 hw _ hS => ?_)
      refine lv_aload_n hx hb dX3_addVisitor_26 rfl (lv_at hl 0 rfl) ?_
      refine gX3_27 hx hb hB hown hK hw dX3_addVisitor_27 ?_
      refine lv_aload_n hx hb dX3_addVisitor_30 rfl (lv_at hl 0 rfl) ?_
      refine gX3_43 hx hb hB hown hK hw dX3_addVisitor_31 ?_
      refine lv_iload_n hx hb dX3_addVisitor_34 rfl (lv_at hl 2 rfl) ?_
      obtain ⟨g5, h⟩ := gB_ok h
      refine sY6 hx hb hK hw hS (fun _ z => z) (ib_ok g5) dX3_addVisitor_35 (fun H6 L6 hw _ hS => ?_)
      refine lv_aload_n hx hb dX3_addVisitor_36 rfl (lv_at hl 0 rfl) ?_
      refine lv_dup hx hb dX3_addVisitor_37 rfl ?_
      refine gX3_43 hx hb hB hown hK hw dX3_addVisitor_38 ?_
      refine lv_iconst (v := 1) hx hb dX3_addVisitor_41 (by decide) ?_
      refine lv_iadd hx hb dX3_addVisitor_42 ?_
      refine pX3_43 hx hb hB hown hK hw hS (fun _ z => z) dX3_addVisitor_43 (fun H7 L7 hw _ hS => ?_)
      cases h
      exact e_vW hx hb hr hlk hw hS dX3_addVisitor_46
def fX3_freePlot_L38 (y : OS) (v1_38 : Int32) (v5_38 : Int32) : Nat → Int32 → Int32 → Option (Int32)
  | 0, _, _ => none
  | n_38 + 1, v4_38, v6_38 => if (y 0 0) ≤ v6_38 then some (-4) else (fX3_whoLies y v1_38 v4_38).bind (fun r2 => (if r2 = (-4) then some v4_38 else if (v4_38 + v5_38) < (y 0 0) then if 0 ≤ (v4_38 + v5_38) then fX3_freePlot_L38 y v1_38 v5_38 n_38 (v4_38 + v5_38) (v6_38 + 1) else fX3_freePlot_L38 y v1_38 v5_38 n_38 ((y 0 0) - 1) (v6_38 + 1) else fX3_freePlot_L38 y v1_38 v5_38 n_38 0 (v6_38 + 1)))
def fX3_freePlot (y : OS) (a1 : Int32) (a2 : Int32) (a3 : Int32) : Option (Int32) := if a2 = 2 then if a2 = 1 then fX3_freePlot_L38 y a1 (-1) FU 0 0 else fX3_freePlot_L38 y a1 1 FU 0 0 else if a2 = 1 then fX3_freePlot_L38 y a1 (-1) FU (((9 - a3) * (y 0 0)) / 10) 0 else fX3_freePlot_L38 y a1 1 FU (((9 - a3) * (y 0 0)) / 10) 0
abbrev rmX3_freePlot : Room := { frames := 1, cells := 0, slots := 0, locals := 23 }
set_option maxHeartbeats 4000000 in
set_option maxRecDepth 100000 in
theorem c_X3_freePlot (l : Launch) (E : En) (q : Nat → Nat) (y : OS) (a1 : Int32) (a2 : Int32) (a3 : Int32) (r : Int32) (h : fX3_freePlot y a1 a2 a3 = some r) : Met l yX3_freePlot (kX3_freePlot :: BIG) rmX3_freePlot (Pk E [.ref (q 0), .int a1, .int a2, .int a3] (Yd E q y)) (QcRead r) 0 0 (fun _ => False) := by
  refine Mb (by decide) (Nat.le_of_ble_eq_true rfl) ?_
  intro p e s m below meth c ls hx hb hr hlk hB hown hml _ hK hw hl
  have hl : lv_has ls 7 [(0, .ref (q 0)), (1, .int a1), (2, .int a2), (3, .int a3)] := hl
  rw [fX3_freePlot] at h
  have hL38 : ∀ (n_38 : Nat) (v1_38 : Int32) (v4_38 : Int32) (v5_38 : Int32) (v6_38 : Int32) (ls_38 : Array Slot), lv_has ls_38 7 [(0, .ref (q 0)), (1, .int v1_38), (4, .int v4_38), (5, .int v5_38), (6, .int v6_38)] → fX3_freePlot_L38 y v1_38 v5_38 n_38 v4_38 v6_38 = some r → W p l e rmX3_freePlot s m ([.ref (q 0), .int a1, .int a2, .int a3] : List Value).toArray below meth c s.heap [] 0 0 (MQ below (QcRead r) ([.ref (q 0), .int a1, .int a2, .int a3] : List Value).toArray s 0 0 (fun _ => False)) (F0 m 38 ls_38 []) := by
    intro n_38
    induction n_38 with
    | zero =>
      intro v1_38 v4_38 v5_38 v6_38 ls_38 hl h
      exact nn h
    | succ n_38 ih_38 =>
      intro v1_38 v4_38 v5_38 v6_38 ls_38 hl h
      rw [fX3_freePlot_L38] at h
      refine lv_iload hx hb dX3_freePlot_38 (lv_at hl 4 rfl) ?_
      refine lv_aload_n hx hb dX3_freePlot_40 rfl (lv_at hl 0 rfl) ?_
      refine gX3_33 hx hb hB hown hK hw dX3_freePlot_41 ?_
      refine lv_icmp_ge (tgt := 103) hx hb dX3_freePlot_44 (by decide) (fun g1 => ?_) (fun g1 => ?_)
      · rw [if_pos g1] at h
        refine lv_bipush (v := (-4)) hx hb dX3_freePlot_103 (by decide) ?_
        exact e_zR hx hb hr hlk rfl h dX3_freePlot_105
      · rw [if_neg g1] at h
        refine lv_aload_n hx hb dX3_freePlot_47 rfl (lv_at hl 0 rfl) ?_
        refine lv_iload_n hx hb dX3_freePlot_48 rfl (lv_at hl 1 rfl) ?_
        refine lv_iload hx hb dX3_freePlot_49 (lv_at hl 2 rfl) ?_
        obtain ⟨r2, e2, h⟩ := ob h
        refine k_VR ⟨hx, hb, hml, hown, hB⟩ (c_X3_whoLies l E q y v1_38 v4_38 r2 e2) (clX3_60 hB rfl rfl ⟨Nat.le_of_ble_eq_true rfl, Nat.le_of_ble_eq_true rfl⟩) hK hw (rvY hK hw) rfl hl.1 rfl (Nat.le_of_ble_eq_true rfl) dX3_freePlot_51 ⟨Nat.zero_le _, Nat.zero_le _⟩ ?_
        refine lv_bipush (v := (-4)) hx hb dX3_freePlot_54 (by decide) ?_
        refine lv_icmp_ne (tgt := 62) hx hb dX3_freePlot_56 (by decide) (fun g3 => ?_) (fun g3 => ?_)
        · rw [if_neg g3] at h
          refine lv_iload hx hb dX3_freePlot_62 (lv_at hl 2 rfl) ?_
          refine lv_iload hx hb dX3_freePlot_64 (lv_at hl 3 rfl) ?_
          refine lv_iadd hx hb dX3_freePlot_66 ?_
          refine lv_istore (lv' := [(4, .int (v4_38 + v5_38)), (0, .ref (q 0)), (1, .int v1_38), (5, .int v5_38), (6, .int v6_38)]) hx hb dX3_freePlot_67 hl (by decide) rfl (fun ls hl => ?_)
          refine lv_iload hx hb dX3_freePlot_69 (lv_at hl 0 rfl) ?_
          refine lv_aload_n hx hb dX3_freePlot_71 rfl (lv_at hl 1 rfl) ?_
          refine gX3_33 hx hb hB hown hK hw dX3_freePlot_72 ?_
          refine lv_icmp_lt (tgt := 84) hx hb dX3_freePlot_75 (by decide) (fun g4 => ?_) (fun g4 => ?_)
          · rw [if_pos g4] at h
            refine lv_iload hx hb dX3_freePlot_84 (lv_at hl 0 rfl) ?_
            refine lv_if_ge (tgt := 97) hx hb dX3_freePlot_86 (by decide) (fun g5 => ?_) (fun g5 => ?_)
            · rw [if_pos g5] at h
              refine lv_iinc (v := (v6_38 + 1)) (lv' := [(6, .int (v6_38 + 1)), (4, .int (v4_38 + v5_38)), (0, .ref (q 0)), (1, .int v1_38), (5, .int v5_38)]) hx hb dX3_freePlot_97 hl (k := 4) rfl rfl (by decide) rfl (fun ls hl => ?_)
              refine lv_goto (tgt := 38) hx hb dX3_freePlot_100 (by decide) ?_
              exact ih_38 v1_38 (v4_38 + v5_38) v5_38 (v6_38 + 1) _ (lv_sub hl [2, 3, 1, 4, 0] rfl) h
            · rw [if_neg g5] at h
              refine lv_aload_n hx hb dX3_freePlot_89 rfl (lv_at hl 1 rfl) ?_
              refine gX3_33 hx hb hB hown hK hw dX3_freePlot_90 ?_
              refine lv_iconst (v := 1) hx hb dX3_freePlot_93 (by decide) ?_
              refine lv_isub hx hb dX3_freePlot_94 ?_
              refine lv_istore (lv' := [(4, .int ((y 0 0) - 1)), (0, .ref (q 0)), (1, .int v1_38), (5, .int v5_38), (6, .int v6_38)]) hx hb dX3_freePlot_95 hl (by decide) rfl (fun ls hl => ?_)
              refine lv_iinc (v := (v6_38 + 1)) (lv' := [(6, .int (v6_38 + 1)), (4, .int ((y 0 0) - 1)), (0, .ref (q 0)), (1, .int v1_38), (5, .int v5_38)]) hx hb dX3_freePlot_97 hl (k := 4) rfl rfl (by decide) rfl (fun ls hl => ?_)
              refine lv_goto (tgt := 38) hx hb dX3_freePlot_100 (by decide) ?_
              exact ih_38 v1_38 ((y 0 0) - 1) v5_38 (v6_38 + 1) _ (lv_sub hl [2, 3, 1, 4, 0] rfl) h
          · rw [if_neg g4] at h
            refine lv_iconst (v := 0) hx hb dX3_freePlot_78 (by decide) ?_
            refine lv_istore (lv' := [(4, .int 0), (0, .ref (q 0)), (1, .int v1_38), (5, .int v5_38), (6, .int v6_38)]) hx hb dX3_freePlot_79 hl (by decide) rfl (fun ls hl => ?_)
            refine lv_goto (tgt := 97) hx hb dX3_freePlot_81 (by decide) ?_
            refine lv_iinc (v := (v6_38 + 1)) (lv' := [(6, .int (v6_38 + 1)), (4, .int 0), (0, .ref (q 0)), (1, .int v1_38), (5, .int v5_38)]) hx hb dX3_freePlot_97 hl (k := 4) rfl rfl (by decide) rfl (fun ls hl => ?_)
            refine lv_goto (tgt := 38) hx hb dX3_freePlot_100 (by decide) ?_
            exact ih_38 v1_38 0 v5_38 (v6_38 + 1) _ (lv_sub hl [2, 3, 1, 4, 0] rfl) h
        · rw [if_pos g3] at h
          refine lv_iload hx hb dX3_freePlot_59 (lv_at hl 2 rfl) ?_
          exact e_zR hx hb hr hlk rfl h dX3_freePlot_61
  refine lv_iload_n hx hb dX3_freePlot_0 rfl (lv_at hl 2 rfl) ?_
  refine lv_iconst (v := 2) hx hb dX3_freePlot_1 (by decide) ?_
  refine lv_icmp_ne (tgt := 9) hx hb dX3_freePlot_2 (by decide) (fun g6 => ?_) (fun g6 => ?_)
  · rw [if_neg g6] at h
    refine lv_bipush (v := 9) hx hb dX3_freePlot_9 (by decide) ?_
    refine lv_iload_n hx hb dX3_freePlot_11 rfl (lv_at hl 3 rfl) ?_
    refine lv_isub hx hb dX3_freePlot_12 ?_
    refine lv_aload_n hx hb dX3_freePlot_13 rfl (lv_at hl 0 rfl) ?_
    refine gX3_33 hx hb hB hown hK hw dX3_freePlot_14 ?_
    refine lv_imul hx hb dX3_freePlot_17 ?_
    refine lv_bipush (v := 10) hx hb dX3_freePlot_18 (by decide) ?_
    refine lv_idiv hx hb dX3_freePlot_20 (by decide) ?_
    refine lv_istore (lv' := [(4, .int (((9 - a3) * (y 0 0)) / 10)), (0, .ref (q 0)), (1, .int a1), (2, .int a2), (3, .int a3)]) hx hb dX3_freePlot_21 hl (by decide) rfl (fun ls hl => ?_)
    refine lv_iload_n hx hb dX3_freePlot_23 rfl (lv_at hl 3 rfl) ?_
    refine lv_iconst (v := 1) hx hb dX3_freePlot_24 (by decide) ?_
    refine lv_icmp_ne (tgt := 32) hx hb dX3_freePlot_25 (by decide) (fun g7 => ?_) (fun g7 => ?_)
    · rw [if_neg g7] at h
      refine lv_iconst (v := 1) hx hb dX3_freePlot_32 (by decide) ?_
      refine lv_istore (lv' := [(5, .int 1), (4, .int (((9 - a3) * (y 0 0)) / 10)), (0, .ref (q 0)), (1, .int a1), (2, .int a2), (3, .int a3)]) hx hb dX3_freePlot_33 hl (by decide) rfl (fun ls hl => ?_)
      refine lv_iconst (v := 0) hx hb dX3_freePlot_35 (by decide) ?_
      refine lv_istore (lv' := [(6, .int 0), (5, .int 1), (4, .int (((9 - a3) * (y 0 0)) / 10)), (0, .ref (q 0)), (1, .int a1), (2, .int a2), (3, .int a3)]) hx hb dX3_freePlot_36 hl (by decide) rfl (fun ls hl => ?_)
      exact hL38 FU a1 (((9 - a3) * (y 0 0)) / 10) 1 0 _ (lv_sub hl [3, 4, 2, 1, 0] rfl) h
    · rw [if_pos g7] at h
      refine lv_iconst (v := (-1)) hx hb dX3_freePlot_28 (by decide) ?_
      refine lv_goto (tgt := 33) hx hb dX3_freePlot_29 (by decide) ?_
      refine lv_istore (lv' := [(5, .int (-1)), (4, .int (((9 - a3) * (y 0 0)) / 10)), (0, .ref (q 0)), (1, .int a1), (2, .int a2), (3, .int a3)]) hx hb dX3_freePlot_33 hl (by decide) rfl (fun ls hl => ?_)
      refine lv_iconst (v := 0) hx hb dX3_freePlot_35 (by decide) ?_
      refine lv_istore (lv' := [(6, .int 0), (5, .int (-1)), (4, .int (((9 - a3) * (y 0 0)) / 10)), (0, .ref (q 0)), (1, .int a1), (2, .int a2), (3, .int a3)]) hx hb dX3_freePlot_36 hl (by decide) rfl (fun ls hl => ?_)
      exact hL38 FU a1 (((9 - a3) * (y 0 0)) / 10) (-1) 0 _ (lv_sub hl [3, 4, 2, 1, 0] rfl) h
  · rw [if_pos g6] at h
    refine lv_iconst (v := 0) hx hb dX3_freePlot_5 (by decide) ?_
    refine lv_goto (tgt := 21) hx hb dX3_freePlot_6 (by decide) ?_
    refine lv_istore (lv' := [(4, .int 0), (0, .ref (q 0)), (1, .int a1), (2, .int a2), (3, .int a3)]) hx hb dX3_freePlot_21 hl (by decide) rfl (fun ls hl => ?_)
    refine lv_iload_n hx hb dX3_freePlot_23 rfl (lv_at hl 3 rfl) ?_
    refine lv_iconst (v := 1) hx hb dX3_freePlot_24 (by decide) ?_
    refine lv_icmp_ne (tgt := 32) hx hb dX3_freePlot_25 (by decide) (fun g8 => ?_) (fun g8 => ?_)
    · rw [if_neg g8] at h
      refine lv_iconst (v := 1) hx hb dX3_freePlot_32 (by decide) ?_
      refine lv_istore (lv' := [(5, .int 1), (4, .int 0), (0, .ref (q 0)), (1, .int a1), (2, .int a2), (3, .int a3)]) hx hb dX3_freePlot_33 hl (by decide) rfl (fun ls hl => ?_)
      refine lv_iconst (v := 0) hx hb dX3_freePlot_35 (by decide) ?_
      refine lv_istore (lv' := [(6, .int 0), (5, .int 1), (4, .int 0), (0, .ref (q 0)), (1, .int a1), (2, .int a2), (3, .int a3)]) hx hb dX3_freePlot_36 hl (by decide) rfl (fun ls hl => ?_)
      exact hL38 FU a1 0 1 0 _ (lv_sub hl [3, 4, 2, 1, 0] rfl) h
    · rw [if_pos g8] at h
      refine lv_iconst (v := (-1)) hx hb dX3_freePlot_28 (by decide) ?_
      refine lv_goto (tgt := 33) hx hb dX3_freePlot_29 (by decide) ?_
      refine lv_istore (lv' := [(5, .int (-1)), (4, .int 0), (0, .ref (q 0)), (1, .int a1), (2, .int a2), (3, .int a3)]) hx hb dX3_freePlot_33 hl (by decide) rfl (fun ls hl => ?_)
      refine lv_iconst (v := 0) hx hb dX3_freePlot_35 (by decide) ?_
      refine lv_istore (lv' := [(6, .int 0), (5, .int (-1)), (4, .int 0), (0, .ref (q 0)), (1, .int a1), (2, .int a2), (3, .int a3)]) hx hb dX3_freePlot_36 hl (by decide) rfl (fun ls hl => ?_)
      exact hL38 FU a1 0 (-1) 0 _ (lv_sub hl [3, 4, 2, 1, 0] rfl) h
def fX3_put (y : OS) (a1 : Int32) (a2 : Int32) (a3 : Int32) : Option (OS) := (fX4_isSide a1).bind (fun r1 => (if r1 = 0 then some (y) else (fX3_hasPlot y a2).bind (fun r3 => (if r3 = 0 then some (y) else gB (ib ((a1 * 8) + a2) 16) (some ((u2 y 4 ((a1 * 8) + a2).toNatClampNeg a3)))))))
abbrev rmX3_put : Room := { frames := 1, cells := 0, slots := 0, locals := 21 }
set_option maxHeartbeats 4000000 in
set_option maxRecDepth 100000 in
theorem c_X3_put (l : Launch) (E : En) (q : Nat → Nat) (y : OS) (a1 : Int32) (a2 : Int32) (a3 : Int32) (r : OS) (h : fX3_put y a1 a2 a3 = some r) : Met l yX3_put (kX3_put :: BIG) rmX3_put (Pk E [.ref (q 0), .int a1, .int a2, .int a3] (Yd E q y)) (QW none (AY q) (Yd E q r)) 0 0 (AY q) := by
  refine Mb (by decide) (Nat.le_of_ble_eq_true rfl) ?_
  intro p e s m below meth c ls hx hb hr hlk hB hown hml _ hK hw hl
  have hS : va_S (AY q) s.heap s.heap [] := va_S.rf
  have hl : lv_has ls 4 [(0, .ref (q 0)), (1, .int a1), (2, .int a2), (3, .int a3)] := hl
  rw [fX3_put] at h
  refine lv_iload_n hx hb dX3_put_0 rfl (lv_at hl 1 rfl) ?_
  obtain ⟨r1, e1, h⟩ := ob h
  refine k_SNR ⟨hx, hb, hml, hown, hB⟩ (c_X4_isSide l E a1 r1 e1) (cnX3_114 hB hK rfl rfl ⟨Nat.le_of_ble_eq_true rfl, Nat.le_of_ble_eq_true rfl⟩) hK trivial rfl hl.1 rfl (Nat.le_of_ble_eq_true rfl) dX3_put_1 ⟨Nat.zero_le _, Nat.zero_le _⟩ ?_
  refine lv_if_eq (tgt := 27) hx hb dX3_put_4 (by decide) (fun g2 => ?_) (fun g2 => ?_)
  · rw [if_pos g2] at h
    cases h
    exact e_vW hx hb hr hlk hw hS dX3_put_27
  · rw [if_neg g2] at h
    refine lv_aload_n hx hb dX3_put_7 rfl (lv_at hl 0 rfl) ?_
    refine lv_iload_n hx hb dX3_put_8 rfl (lv_at hl 2 rfl) ?_
    obtain ⟨r3, e3, h⟩ := ob h
    refine k_VR ⟨hx, hb, hml, hown, hB⟩ (c_X3_hasPlot l E q y a2 r3 e3) (clX3_117 hB rfl rfl ⟨Nat.le_of_ble_eq_true rfl, Nat.le_of_ble_eq_true rfl⟩) hK hw (rvY hK hw) rfl hl.1 rfl (Nat.le_of_ble_eq_true rfl) dX3_put_9 ⟨Nat.zero_le _, Nat.zero_le _⟩ ?_
    refine lv_if_eq (tgt := 27) hx hb dX3_put_12 (by decide) (fun g4 => ?_) (fun g4 => ?_)
    · rw [if_pos g4] at h
      cases h
      exact e_vW hx hb hr hlk hw hS dX3_put_27
    · rw [if_neg g4] at h
      refine lv_aload_n hx hb dX3_put_15 rfl (lv_at hl 0 rfl) ?_
      refine gX3_21 hx hb hB hown hK hw dX3_put_16 ?_
      refine lv_iload_n hx hb dX3_put_19 rfl (lv_at hl 1 rfl) ?_
      refine lv_bipush (v := 8) hx hb dX3_put_20 (by decide) ?_
      refine lv_imul hx hb dX3_put_22 ?_
      refine lv_iload_n hx hb dX3_put_23 rfl (lv_at hl 2 rfl) ?_
      refine lv_iadd hx hb dX3_put_24 ?_
      refine lv_iload_n hx hb dX3_put_25 rfl (lv_at hl 3 rfl) ?_
      obtain ⟨g5, h⟩ := gB_ok h
      refine sY4 hx hb hK hw hS (fun _ z => z) (ib_ok g5) dX3_put_26 (fun H6 L6 hw _ hS => ?_)
      cases h
      exact e_vW hx hb hr hlk hw hS dX3_put_27
def fX3_dig (y : OS) (a1 : Int32) : Option (Int32 × OS) := (fX3_villageOf y a1).bind (fun r1 => ((fX3_kindOf y a1).bind (fun r2 => ((fX3_forgivenOf y a1).bind (fun r3 => ((fX3_freePlot y (1 - r1) r2 r3).bind (fun r4 => ((fX3_put y (1 - r1) r4 a1).bind (fun r5 => (if r4 = (-4) then some (r4, r5) else if r2 = 3 then (fX3_freePlot r5 r1 r2 r3).bind (fun r9 => ((fX3_put r5 r1 r9 (a1 + 20)).bind (fun r10 => (some (r4, r10))))) else some (r4, r5)))))))))))
abbrev rmX3_dig : Room := { frames := 2, cells := 0, slots := 0, locals := 49 }
set_option maxHeartbeats 4000000 in
set_option maxRecDepth 100000 in
theorem c_X3_dig (l : Launch) (E : En) (q : Nat → Nat) (y : OS) (a1 : Int32) (r : Int32 × OS) (h : fX3_dig y a1 = some r) : Met l yX3_dig (kX3_dig :: BIG) rmX3_dig (Pk E [.ref (q 0), .int a1] (Yd E q y)) (QW (some (.int r.1)) (AY q) (Yd E q r.2)) 0 0 (AY q) := by
  refine Mb (by decide) (Nat.le_of_ble_eq_true rfl) ?_
  intro p e s m below meth c ls hx hb hr hlk hB hown hml _ hK hw hl
  have hS : va_S (AY q) s.heap s.heap [] := va_S.rf
  have hl : lv_has ls 6 [(0, .ref (q 0)), (1, .int a1)] := hl
  rw [fX3_dig] at h
  refine lv_aload_n hx hb dX3_dig_0 rfl (lv_at hl 0 rfl) ?_
  refine lv_iload_n hx hb dX3_dig_1 rfl (lv_at hl 1 rfl) ?_
  obtain ⟨r1, e1, h⟩ := ob h
  refine k_VR ⟨hx, hb, hml, hown, hB⟩ (c_X3_villageOf l E q y a1 r1 e1) (clX3_83 hB rfl rfl ⟨Nat.le_of_ble_eq_true rfl, Nat.le_of_ble_eq_true rfl⟩) hK hw (rvY hK hw) rfl hl.1 rfl (Nat.le_of_ble_eq_true rfl) dX3_dig_2 ⟨Nat.zero_le _, Nat.zero_le _⟩ ?_
  refine lv_istore_n (lv' := [(2, .int r1), (0, .ref (q 0)), (1, .int a1)]) hx hb dX3_dig_5 rfl hl (by decide) rfl (fun ls hl => ?_)
  refine lv_aload_n hx hb dX3_dig_6 rfl (lv_at hl 1 rfl) ?_
  refine lv_iload_n hx hb dX3_dig_7 rfl (lv_at hl 2 rfl) ?_
  obtain ⟨r2, e2, h⟩ := ob h
  refine k_VR ⟨hx, hb, hml, hown, hB⟩ (c_X3_kindOf l E q y a1 r2 e2) (clX3_107 hB rfl rfl ⟨Nat.le_of_ble_eq_true rfl, Nat.le_of_ble_eq_true rfl⟩) hK hw (rvY hK hw) rfl hl.1 rfl (Nat.le_of_ble_eq_true rfl) dX3_dig_8 ⟨Nat.zero_le _, Nat.zero_le _⟩ ?_
  refine lv_istore_n (lv' := [(3, .int r2), (2, .int r1), (0, .ref (q 0)), (1, .int a1)]) hx hb dX3_dig_11 rfl hl (by decide) rfl (fun ls hl => ?_)
  refine lv_aload_n hx hb dX3_dig_12 rfl (lv_at hl 2 rfl) ?_
  refine lv_iload_n hx hb dX3_dig_13 rfl (lv_at hl 3 rfl) ?_
  obtain ⟨r3, e3, h⟩ := ob h
  refine k_VR ⟨hx, hb, hml, hown, hB⟩ (c_X3_forgivenOf l E q y a1 r3 e3) (clX3_89 hB rfl rfl ⟨Nat.le_of_ble_eq_true rfl, Nat.le_of_ble_eq_true rfl⟩) hK hw (rvY hK hw) rfl hl.1 rfl (Nat.le_of_ble_eq_true rfl) dX3_dig_14 ⟨Nat.zero_le _, Nat.zero_le _⟩ ?_
  refine lv_istore (lv' := [(4, .int r3), (3, .int r2), (2, .int r1), (0, .ref (q 0)), (1, .int a1)]) hx hb dX3_dig_17 hl (by decide) rfl (fun ls hl => ?_)
  refine lv_aload_n hx hb dX3_dig_19 rfl (lv_at hl 3 rfl) ?_
  refine lv_iconst (v := 1) hx hb dX3_dig_20 (by decide) ?_
  refine lv_iload_n hx hb dX3_dig_21 rfl (lv_at hl 2 rfl) ?_
  refine lv_isub hx hb dX3_dig_22 ?_
  refine lv_iload_n hx hb dX3_dig_23 rfl (lv_at hl 1 rfl) ?_
  refine lv_iload hx hb dX3_dig_24 (lv_at hl 0 rfl) ?_
  obtain ⟨r4, e4, h⟩ := ob h
  refine k_VR ⟨hx, hb, hml, hown, hB⟩ (c_X3_freePlot l E q y (1 - r1) r2 r3 r4 e4) (clX3_110 hB rfl rfl ⟨Nat.le_of_ble_eq_true rfl, Nat.le_of_ble_eq_true rfl⟩) hK hw (rvY hK hw) rfl hl.1 rfl (Nat.le_of_ble_eq_true rfl) dX3_dig_26 ⟨Nat.zero_le _, Nat.zero_le _⟩ ?_
  refine lv_istore (lv' := [(5, .int r4), (4, .int r3), (3, .int r2), (2, .int r1), (0, .ref (q 0)), (1, .int a1)]) hx hb dX3_dig_29 hl (by decide) rfl (fun ls hl => ?_)
  refine lv_aload_n hx hb dX3_dig_31 rfl (lv_at hl 4 rfl) ?_
  refine lv_iconst (v := 1) hx hb dX3_dig_32 (by decide) ?_
  refine lv_iload_n hx hb dX3_dig_33 rfl (lv_at hl 3 rfl) ?_
  refine lv_isub hx hb dX3_dig_34 ?_
  refine lv_iload hx hb dX3_dig_35 (lv_at hl 0 rfl) ?_
  refine lv_iload_n hx hb dX3_dig_37 rfl (lv_at hl 5 rfl) ?_
  obtain ⟨r5, e5, h⟩ := ob h
  refine k_VWv ⟨hx, hb, hml, hown, hB⟩ (c_X3_put l E q y (1 - r1) r4 a1 r5 e5) (clX3_67 hB rfl rfl ⟨Nat.le_of_ble_eq_true rfl, Nat.le_of_ble_eq_true rfl⟩) hK hw (rvY hK hw) rfl hl.1 rfl (Nat.le_of_ble_eq_true rfl) dX3_dig_38 ⟨Nat.zero_le _, Nat.zero_le _⟩ hS (fun _ z => z) (fun H6 L6 hw _ _ hS => ?_)
  refine lv_iload hx hb dX3_dig_41 (lv_at hl 0 rfl) ?_
  refine lv_bipush (v := (-4)) hx hb dX3_dig_43 (by decide) ?_
  refine lv_icmp_eq (tgt := 70) hx hb dX3_dig_45 (by decide) (fun g7 => ?_) (fun g7 => ?_)
  · rw [if_pos g7] at h
    refine lv_iload hx hb dX3_dig_70 (lv_at hl 0 rfl) ?_
    cases h
    exact e_zW hx hb hr hlk rfl rfl hw hS dX3_dig_72
  · rw [if_neg g7] at h
    refine lv_iload_n hx hb dX3_dig_48 rfl (lv_at hl 2 rfl) ?_
    refine lv_iconst (v := 3) hx hb dX3_dig_49 (by decide) ?_
    refine lv_icmp_ne (tgt := 70) hx hb dX3_dig_50 (by decide) (fun g8 => ?_) (fun g8 => ?_)
    · rw [if_neg g8] at h
      refine lv_iload hx hb dX3_dig_70 (lv_at hl 0 rfl) ?_
      cases h
      exact e_zW hx hb hr hlk rfl rfl hw hS dX3_dig_72
    · rw [if_pos g8] at h
      refine lv_aload_n hx hb dX3_dig_53 rfl (lv_at hl 4 rfl) ?_
      refine lv_iload_n hx hb dX3_dig_54 rfl (lv_at hl 3 rfl) ?_
      refine lv_aload_n hx hb dX3_dig_55 rfl (lv_at hl 4 rfl) ?_
      refine lv_iload_n hx hb dX3_dig_56 rfl (lv_at hl 3 rfl) ?_
      refine lv_iload_n hx hb dX3_dig_57 rfl (lv_at hl 2 rfl) ?_
      refine lv_iload hx hb dX3_dig_58 (lv_at hl 1 rfl) ?_
      obtain ⟨r9, e9, h⟩ := ob h
      refine k_VR ⟨hx, hb, hml, hown, hB⟩ (c_X3_freePlot l E q r5 r1 r2 r3 r9 e9) (clX3_110 hB rfl rfl ⟨Nat.le_of_ble_eq_true rfl, Nat.le_of_ble_eq_true rfl⟩) hK hw (rvY hK hw) rfl hl.1 rfl (Nat.le_of_ble_eq_true rfl) dX3_dig_60 ⟨Nat.zero_le _, Nat.zero_le _⟩ ?_
      refine lv_iload_n hx hb dX3_dig_63 rfl (lv_at hl 5 rfl) ?_
      refine lv_bipush (v := 20) hx hb dX3_dig_64 (by decide) ?_
      refine lv_iadd hx hb dX3_dig_66 ?_
      obtain ⟨r10, e10, h⟩ := ob h
      refine k_VWv ⟨hx, hb, hml, hown, hB⟩ (c_X3_put l E q r5 r1 r9 (a1 + 20) r10 e10) (clX3_67 hB rfl rfl ⟨Nat.le_of_ble_eq_true rfl, Nat.le_of_ble_eq_true rfl⟩) hK hw (rvY hK hw) rfl hl.1 rfl (Nat.le_of_ble_eq_true rfl) dX3_dig_67 ⟨Nat.zero_le _, Nat.zero_le _⟩ hS (fun _ z => z) (fun H11 L11 hw _ _ hS => ?_)
      refine lv_iload hx hb dX3_dig_70 (lv_at hl 0 rfl) ?_
      cases h
      exact e_zW hx hb hr hlk rfl rfl hw hS dX3_dig_72
def fX3_addDead (y : OS) (a1 : Int32) (a2 : Int32) (a3 : Int32) : Option (Int32 × OS) := if (y 0 2) < 0 then some ((-4), y) else if (y 0 2) < 12 then gB (ib (y 0 2) 12) (gB (ib (y 0 2) 12) (gB (ib (y 0 2) 12) ((fX3_dig (u2 (u2 (u2 (u2 y 1 (y 0 2).toNatClampNeg a1) 2 (y 0 2).toNatClampNeg a2) 3 (y 0 2).toNatClampNeg a3) 0 2 (((u2 (u2 (u2 y 1 (y 0 2).toNatClampNeg a1) 2 (y 0 2).toNatClampNeg a2) 3 (y 0 2).toNatClampNeg a3) 0 2) + 1)) (y 0 2)).bind (fun r10 => (some (r10.1, r10.2)))))) else some ((-4), y)
abbrev rmX3_addDead : Room := { frames := 3, cells := 0, slots := 0, locals := 74 }
set_option maxHeartbeats 4000000 in
set_option maxRecDepth 100000 in
theorem c_X3_addDead (l : Launch) (E : En) (q : Nat → Nat) (y : OS) (a1 : Int32) (a2 : Int32) (a3 : Int32) (r : Int32 × OS) (h : fX3_addDead y a1 a2 a3 = some r) : Met l yX3_addDead (kX3_addDead :: BIG) rmX3_addDead (Pk E [.ref (q 0), .int a1, .int a2, .int a3] (Yd E q y)) (QW (some (.int r.1)) (AY q) (Yd E q r.2)) 0 0 (AY q) := by
  refine Mb (by decide) (Nat.le_of_ble_eq_true rfl) ?_
  intro p e s m below meth c ls hx hb hr hlk hB hown hml _ hK hw hl
  have hS : va_S (AY q) s.heap s.heap [] := va_S.rf
  have hl : lv_has ls 5 [(0, .ref (q 0)), (1, .int a1), (2, .int a2), (3, .int a3)] := hl
  rw [fX3_addDead] at h
  refine lv_aload_n hx hb dX3_addDead_0 rfl (lv_at hl 0 rfl) ?_
  refine gX3_40 hx hb hB hown hK hw dX3_addDead_1 ?_
  refine lv_istore (lv' := [(4, .int (y 0 2)), (0, .ref (q 0)), (1, .int a1), (2, .int a2), (3, .int a3)]) hx hb dX3_addDead_4 hl (by decide) rfl (fun ls hl => ?_)
  refine lv_iload hx hb dX3_addDead_6 (lv_at hl 0 rfl) ?_
  refine lv_if_lt (tgt := 18) hx hb dX3_addDead_8 (by decide) (fun g1 => ?_) (fun g1 => ?_)
  · rw [if_pos g1] at h
    refine lv_bipush (v := (-4)) hx hb dX3_addDead_18 (by decide) ?_
    cases h
    exact e_zW hx hb hr hlk rfl rfl hw hS dX3_addDead_20
  · rw [if_neg g1] at h
    refine lv_iload hx hb dX3_addDead_11 (lv_at hl 0 rfl) ?_
    refine lv_bipush (v := 12) hx hb dX3_addDead_13 (by decide) ?_
    refine lv_icmp_lt (tgt := 21) hx hb dX3_addDead_15 (by decide) (fun g2 => ?_) (fun g2 => ?_)
    · rw [if_pos g2] at h
      refine lv_aload_n hx hb dX3_addDead_21 rfl (lv_at hl 1 rfl) ?_
      refine gX3_9 hx hb hB hown hK hw dX3_addDead_22 ?_
      refine lv_iload hx hb dX3_addDead_25 (lv_at hl 0 rfl) ?_
      refine lv_iload_n hx hb dX3_addDead_27 rfl (lv_at hl 2 rfl) ?_
      obtain ⟨g3, h⟩ := gB_ok h
      refine sY1 hx hb hK hw hS (fun _ z => z) (ib_ok g3) dX3_addDead_28 (fun H4 L4 hw _ hS => ?_)
      refine lv_aload_n hx hb dX3_addDead_29 rfl (lv_at hl 1 rfl) ?_
      refine gX3_15 hx hb hB hown hK hw dX3_addDead_30 ?_
      refine lv_iload hx hb dX3_addDead_33 (lv_at hl 0 rfl) ?_
      refine lv_iload_n hx hb dX3_addDead_35 rfl (lv_at hl 3 rfl) ?_
      obtain ⟨g5, h⟩ := gB_ok h
      refine sY2 hx hb hK hw hS (fun _ z => z) (ib_ok g5) dX3_addDead_36 (fun H6 L6 hw _ hS => ?_)
      refine lv_aload_n hx hb dX3_addDead_37 rfl (lv_at hl 1 rfl) ?_
      refine gX3_18 hx hb hB hown hK hw dX3_addDead_38 ?_
      refine lv_iload hx hb dX3_addDead_41 (lv_at hl 0 rfl) ?_
      refine lv_iload_n hx hb dX3_addDead_43 rfl (lv_at hl 4 rfl) ?_
      obtain ⟨g7, h⟩ := gB_ok h
      refine sY3 hx hb hK hw hS (fun _ z => z) (ib_ok g7) dX3_addDead_44 (fun H8 L8 hw _ hS => ?_)
      refine lv_aload_n hx hb dX3_addDead_45 rfl (lv_at hl 1 rfl) ?_
      refine lv_dup hx hb dX3_addDead_46 rfl ?_
      refine gX3_40 hx hb hB hown hK hw dX3_addDead_47 ?_
      refine lv_iconst (v := 1) hx hb dX3_addDead_50 (by decide) ?_
      refine lv_iadd hx hb dX3_addDead_51 ?_
      refine pX3_40 hx hb hB hown hK hw hS (fun _ z => z) dX3_addDead_52 (fun H9 L9 hw _ hS => ?_)
      refine lv_aload_n hx hb dX3_addDead_55 rfl (lv_at hl 1 rfl) ?_
      refine lv_iload hx hb dX3_addDead_56 (lv_at hl 0 rfl) ?_
      obtain ⟨r10, e10, h⟩ := ob h
      refine k_VWi ⟨hx, hb, hml, hown, hB⟩ (c_X3_dig l E q (u2 (u2 (u2 (u2 y 1 (y 0 2).toNatClampNeg a1) 2 (y 0 2).toNatClampNeg a2) 3 (y 0 2).toNatClampNeg a3) 0 2 (((u2 (u2 (u2 y 1 (y 0 2).toNatClampNeg a1) 2 (y 0 2).toNatClampNeg a2) 3 (y 0 2).toNatClampNeg a3) 0 2) + 1)) (y 0 2) r10 e10) (clX3_63 hB rfl rfl ⟨Nat.le_of_ble_eq_true rfl, Nat.le_of_ble_eq_true rfl⟩) hK hw (rvY hK hw) rfl hl.1 rfl (Nat.le_of_ble_eq_true rfl) dX3_addDead_58 ⟨Nat.zero_le _, Nat.zero_le _⟩ hS (fun _ z => z) (fun H11 L11 hw _ _ hS => ?_)
      cases h
      exact e_zW hx hb hr hlk rfl rfl hw hS dX3_addDead_61
    · rw [if_neg g2] at h
      refine lv_bipush (v := (-4)) hx hb dX3_addDead_18 (by decide) ?_
      cases h
      exact e_zW hx hb hr hlk rfl rfl hw hS dX3_addDead_20
def fX3_digAllAnew_L6 : Nat → Int32 → OS → Option (OS)
  | 0, _, _ => none
  | n_6 + 1, v1_6, y_6 => if (y_6 0 2) ≤ v1_6 then some (y_6) else (fX3_dig y_6 v1_6).bind (fun r2 => (fX3_digAllAnew_L6 n_6 (v1_6 + 1) r2.2))
def fX3_digAllAnew (y : OS) : Option (OS) := (fX3_freeAll y).bind (fun r4 => (fX3_digAllAnew_L6 FU 0 r4))
abbrev rmX3_digAllAnew : Room := { frames := 3, cells := 0, slots := 0, locals := 74 }
set_option maxHeartbeats 4000000 in
set_option maxRecDepth 100000 in
theorem c_X3_digAllAnew (l : Launch) (E : En) (q : Nat → Nat) (y : OS) (r : OS) (h : fX3_digAllAnew y = some r) : Met l yX3_digAllAnew (kX3_digAllAnew :: BIG) rmX3_digAllAnew (Pk E [.ref (q 0)] (Yd E q y)) (QW none (AY q) (Yd E q r)) 0 0 (AY q) := by
  refine Mb (by decide) (Nat.le_of_ble_eq_true rfl) ?_
  intro p e s m below meth c ls hx hb hr hlk hB hown hml _ hK hw hl
  have hS : va_S (AY q) s.heap s.heap [] := va_S.rf
  have hl : lv_has ls 2 [(0, .ref (q 0))] := hl
  rw [fX3_digAllAnew] at h
  have hL6 : ∀ (n_6 : Nat) (v1_6 : Int32) (y_6 : OS) (H_6 : Heap) (L_6 : List Loc) (ls_6 : Array Slot), lv_has ls_6 2 [(0, .ref (q 0)), (1, .int v1_6)] → Yd E q y_6 H_6 → va_S (AY q) s.heap H_6 L_6 → fX3_digAllAnew_L6 n_6 v1_6 y_6 = some r → W p l e rmX3_digAllAnew s m ([.ref (q 0)] : List Value).toArray below meth c H_6 L_6 0 0 (MQ below (QW none (AY q) (Yd E q r)) ([.ref (q 0)] : List Value).toArray s 0 0 (AY q)) (F0 m 6 ls_6 []) := by
    intro n_6
    induction n_6 with
    | zero =>
      intro v1_6 y_6 H_6 L_6 ls_6 hl hw hS h
      exact nn h
    | succ n_6 ih_6 =>
      intro v1_6 y_6 H_6 L_6 ls_6 hl hw hS h
      rw [fX3_digAllAnew_L6] at h
      refine lv_iload_n hx hb dX3_digAllAnew_6 rfl (lv_at hl 1 rfl) ?_
      refine lv_aload_n hx hb dX3_digAllAnew_7 rfl (lv_at hl 0 rfl) ?_
      refine gX3_40 hx hb hB hown hK hw dX3_digAllAnew_8 ?_
      refine lv_icmp_ge (tgt := 26) hx hb dX3_digAllAnew_11 (by decide) (fun g1 => ?_) (fun g1 => ?_)
      · rw [if_pos g1] at h
        cases h
        exact e_vW hx hb hr hlk hw hS dX3_digAllAnew_26
      · rw [if_neg g1] at h
        refine lv_aload_n hx hb dX3_digAllAnew_14 rfl (lv_at hl 0 rfl) ?_
        refine lv_iload_n hx hb dX3_digAllAnew_15 rfl (lv_at hl 1 rfl) ?_
        obtain ⟨r2, e2, h⟩ := ob h
        refine k_VWi ⟨hx, hb, hml, hown, hB⟩ (c_X3_dig l E q y_6 v1_6 r2 e2) (clX3_63 hB rfl rfl ⟨Nat.le_of_ble_eq_true rfl, Nat.le_of_ble_eq_true rfl⟩) hK hw (rvY hK hw) rfl hl.1 rfl (Nat.le_of_ble_eq_true rfl) dX3_digAllAnew_16 ⟨Nat.zero_le _, Nat.zero_le _⟩ hS (fun _ z => z) (fun H3 L3 hw _ _ hS => ?_)
        refine lv_pop hx hb dX3_digAllAnew_19 rfl ?_
        refine lv_iinc (v := (v1_6 + 1)) (lv' := [(1, .int (v1_6 + 1)), (0, .ref (q 0))]) hx hb dX3_digAllAnew_20 hl (k := 1) rfl rfl (by decide) rfl (fun ls hl => ?_)
        refine lv_goto (tgt := 6) hx hb dX3_digAllAnew_23 (by decide) ?_
        exact ih_6 (v1_6 + 1) r2.2 _ _ _ (lv_sub hl [1, 0] rfl) hw hS h
  refine lv_aload_n hx hb dX3_digAllAnew_0 rfl (lv_at hl 0 rfl) ?_
  obtain ⟨r4, e4, h⟩ := ob h
  refine k_VWv ⟨hx, hb, hml, hown, hB⟩ (c_X3_freeAll l E q y r4 e4) (clX3_46 hB rfl rfl ⟨Nat.le_of_ble_eq_true rfl, Nat.le_of_ble_eq_true rfl⟩) hK hw (rvY hK hw) rfl hl.1 rfl (Nat.le_of_ble_eq_true rfl) dX3_digAllAnew_1 ⟨Nat.zero_le _, Nat.zero_le _⟩ hS (fun _ z => z) (fun H5 L5 hw _ _ hS => ?_)
  refine lv_iconst (v := 0) hx hb dX3_digAllAnew_4 (by decide) ?_
  refine lv_istore_n (lv' := [(1, .int 0), (0, .ref (q 0))]) hx hb dX3_digAllAnew_5 rfl hl (by decide) rfl (fun ls hl => ?_)
  exact hL6 FU 0 r4 _ _ _ (lv_sub hl [1, 0] rfl) hw hS h
def fX3_swap (y : OS) (a1 : Int32) (a2 : Int32) (a3 : Int32) : Option (OS) := (fX3_whoLies y a1 a2).bind (fun r1 => ((fX3_whoLies y a1 a3).bind (fun r2 => ((fX3_put y a1 a2 r2).bind (fun r3 => ((fX3_put r3 a1 a3 r1).bind (fun r5 => (some (r5)))))))))
abbrev rmX3_swap : Room := { frames := 2, cells := 0, slots := 0, locals := 44 }
set_option maxHeartbeats 4000000 in
set_option maxRecDepth 100000 in
theorem c_X3_swap (l : Launch) (E : En) (q : Nat → Nat) (y : OS) (a1 : Int32) (a2 : Int32) (a3 : Int32) (r : OS) (h : fX3_swap y a1 a2 a3 = some r) : Met l yX3_swap (kX3_swap :: BIG) rmX3_swap (Pk E [.ref (q 0), .int a1, .int a2, .int a3] (Yd E q y)) (QW none (AY q) (Yd E q r)) 0 0 (AY q) := by
  refine Mb (by decide) (Nat.le_of_ble_eq_true rfl) ?_
  intro p e s m below meth c ls hx hb hr hlk hB hown hml _ hK hw hl
  have hS : va_S (AY q) s.heap s.heap [] := va_S.rf
  have hl : lv_has ls 5 [(0, .ref (q 0)), (1, .int a1), (2, .int a2), (3, .int a3)] := hl
  rw [fX3_swap] at h
  refine lv_aload_n hx hb dX3_swap_0 rfl (lv_at hl 0 rfl) ?_
  refine lv_iload_n hx hb dX3_swap_1 rfl (lv_at hl 1 rfl) ?_
  refine lv_iload_n hx hb dX3_swap_2 rfl (lv_at hl 2 rfl) ?_
  obtain ⟨r1, e1, h⟩ := ob h
  refine k_VR ⟨hx, hb, hml, hown, hB⟩ (c_X3_whoLies l E q y a1 a2 r1 e1) (clX3_60 hB rfl rfl ⟨Nat.le_of_ble_eq_true rfl, Nat.le_of_ble_eq_true rfl⟩) hK hw (rvY hK hw) rfl hl.1 rfl (Nat.le_of_ble_eq_true rfl) dX3_swap_3 ⟨Nat.zero_le _, Nat.zero_le _⟩ ?_
  refine lv_istore (lv' := [(4, .int r1), (0, .ref (q 0)), (1, .int a1), (2, .int a2), (3, .int a3)]) hx hb dX3_swap_6 hl (by decide) rfl (fun ls hl => ?_)
  refine lv_aload_n hx hb dX3_swap_8 rfl (lv_at hl 1 rfl) ?_
  refine lv_iload_n hx hb dX3_swap_9 rfl (lv_at hl 2 rfl) ?_
  refine lv_iload_n hx hb dX3_swap_10 rfl (lv_at hl 3 rfl) ?_
  refine lv_aload_n hx hb dX3_swap_11 rfl (lv_at hl 1 rfl) ?_
  refine lv_iload_n hx hb dX3_swap_12 rfl (lv_at hl 2 rfl) ?_
  refine lv_iload_n hx hb dX3_swap_13 rfl (lv_at hl 4 rfl) ?_
  obtain ⟨r2, e2, h⟩ := ob h
  refine k_VR ⟨hx, hb, hml, hown, hB⟩ (c_X3_whoLies l E q y a1 a3 r2 e2) (clX3_60 hB rfl rfl ⟨Nat.le_of_ble_eq_true rfl, Nat.le_of_ble_eq_true rfl⟩) hK hw (rvY hK hw) rfl hl.1 rfl (Nat.le_of_ble_eq_true rfl) dX3_swap_14 ⟨Nat.zero_le _, Nat.zero_le _⟩ ?_
  obtain ⟨r3, e3, h⟩ := ob h
  refine k_VWv ⟨hx, hb, hml, hown, hB⟩ (c_X3_put l E q y a1 a2 r2 r3 e3) (clX3_67 hB rfl rfl ⟨Nat.le_of_ble_eq_true rfl, Nat.le_of_ble_eq_true rfl⟩) hK hw (rvY hK hw) rfl hl.1 rfl (Nat.le_of_ble_eq_true rfl) dX3_swap_17 ⟨Nat.zero_le _, Nat.zero_le _⟩ hS (fun _ z => z) (fun H4 L4 hw _ _ hS => ?_)
  refine lv_aload_n hx hb dX3_swap_20 rfl (lv_at hl 1 rfl) ?_
  refine lv_iload_n hx hb dX3_swap_21 rfl (lv_at hl 2 rfl) ?_
  refine lv_iload_n hx hb dX3_swap_22 rfl (lv_at hl 4 rfl) ?_
  refine lv_iload hx hb dX3_swap_23 (lv_at hl 0 rfl) ?_
  obtain ⟨r5, e5, h⟩ := ob h
  refine k_VWv ⟨hx, hb, hml, hown, hB⟩ (c_X3_put l E q r3 a1 a3 r1 r5 e5) (clX3_67 hB rfl rfl ⟨Nat.le_of_ble_eq_true rfl, Nat.le_of_ble_eq_true rfl⟩) hK hw (rvY hK hw) rfl hl.1 rfl (Nat.le_of_ble_eq_true rfl) dX3_swap_25 ⟨Nat.zero_le _, Nat.zero_le _⟩ hS (fun _ z => z) (fun H6 L6 hw _ _ hS => ?_)
  cases h
  exact e_vW hx hb hr hlk hw hS dX3_swap_28
def fX3_allOfVillage_L4 (y : OS) (v1_4 : Int32) : Nat → Int32 → Int32 → Option (Int32)
  | 0, _, _ => none
  | n_4 + 1, v2_4, v3_4 => if (y 0 2) ≤ v3_4 then some v2_4 else (fX3_villageOf y v3_4).bind (fun r2 => (if r2 = v1_4 then fX3_allOfVillage_L4 y v1_4 n_4 (v2_4 ||| (1 <<< (v3_4 &&& 31))) (v3_4 + 1) else fX3_allOfVillage_L4 y v1_4 n_4 v2_4 (v3_4 + 1)))
def fX3_allOfVillage (y : OS) (a1 : Int32) : Option (Int32) := fX3_allOfVillage_L4 y a1 FU 0 0
abbrev rmX3_allOfVillage : Room := { frames := 2, cells := 0, slots := 0, locals := 42 }
set_option maxHeartbeats 4000000 in
set_option maxRecDepth 100000 in
theorem c_X3_allOfVillage (l : Launch) (E : En) (q : Nat → Nat) (y : OS) (a1 : Int32) (r : Int32) (h : fX3_allOfVillage y a1 = some r) : Met l yX3_allOfVillage (kX3_allOfVillage :: BIG) rmX3_allOfVillage (Pk E [.ref (q 0), .int a1] (Yd E q y)) (QcRead r) 0 0 (fun _ => False) := by
  refine Mb (by decide) (Nat.le_of_ble_eq_true rfl) ?_
  intro p e s m below meth c ls hx hb hr hlk hB hown hml _ hK hw hl
  have hl : lv_has ls 4 [(0, .ref (q 0)), (1, .int a1)] := hl
  rw [fX3_allOfVillage] at h
  have hL4 : ∀ (n_4 : Nat) (v1_4 : Int32) (v2_4 : Int32) (v3_4 : Int32) (ls_4 : Array Slot), lv_has ls_4 4 [(0, .ref (q 0)), (1, .int v1_4), (2, .int v2_4), (3, .int v3_4)] → fX3_allOfVillage_L4 y v1_4 n_4 v2_4 v3_4 = some r → W p l e rmX3_allOfVillage s m ([.ref (q 0), .int a1] : List Value).toArray below meth c s.heap [] 0 0 (MQ below (QcRead r) ([.ref (q 0), .int a1] : List Value).toArray s 0 0 (fun _ => False)) (F0 m 4 ls_4 []) := by
    intro n_4
    induction n_4 with
    | zero =>
      intro v1_4 v2_4 v3_4 ls_4 hl h
      exact nn h
    | succ n_4 ih_4 =>
      intro v1_4 v2_4 v3_4 ls_4 hl h
      rw [fX3_allOfVillage_L4] at h
      refine lv_iload_n hx hb dX3_allOfVillage_4 rfl (lv_at hl 3 rfl) ?_
      refine lv_aload_n hx hb dX3_allOfVillage_5 rfl (lv_at hl 0 rfl) ?_
      refine gX3_40 hx hb hB hown hK hw dX3_allOfVillage_6 ?_
      refine lv_icmp_ge (tgt := 33) hx hb dX3_allOfVillage_9 (by decide) (fun g1 => ?_) (fun g1 => ?_)
      · rw [if_pos g1] at h
        refine lv_iload_n hx hb dX3_allOfVillage_33 rfl (lv_at hl 2 rfl) ?_
        exact e_zR hx hb hr hlk rfl h dX3_allOfVillage_34
      · rw [if_neg g1] at h
        refine lv_aload_n hx hb dX3_allOfVillage_12 rfl (lv_at hl 0 rfl) ?_
        refine lv_iload_n hx hb dX3_allOfVillage_13 rfl (lv_at hl 3 rfl) ?_
        obtain ⟨r2, e2, h⟩ := ob h
        refine k_VR ⟨hx, hb, hml, hown, hB⟩ (c_X3_villageOf l E q y v3_4 r2 e2) (clX3_83 hB rfl rfl ⟨Nat.le_of_ble_eq_true rfl, Nat.le_of_ble_eq_true rfl⟩) hK hw (rvY hK hw) rfl hl.1 rfl (Nat.le_of_ble_eq_true rfl) dX3_allOfVillage_14 ⟨Nat.zero_le _, Nat.zero_le _⟩ ?_
        refine lv_iload_n hx hb dX3_allOfVillage_17 rfl (lv_at hl 1 rfl) ?_
        refine lv_icmp_ne (tgt := 27) hx hb dX3_allOfVillage_18 (by decide) (fun g3 => ?_) (fun g3 => ?_)
        · rw [if_neg g3] at h
          refine lv_iinc (v := (v3_4 + 1)) (lv' := [(3, .int (v3_4 + 1)), (0, .ref (q 0)), (1, .int v1_4), (2, .int v2_4)]) hx hb dX3_allOfVillage_27 hl (k := 3) rfl rfl (by decide) rfl (fun ls hl => ?_)
          refine lv_goto (tgt := 4) hx hb dX3_allOfVillage_30 (by decide) ?_
          exact ih_4 v1_4 v2_4 (v3_4 + 1) _ (lv_sub hl [1, 2, 3, 0] rfl) h
        · rw [if_pos g3] at h
          refine lv_iload_n hx hb dX3_allOfVillage_21 rfl (lv_at hl 2 rfl) ?_
          refine lv_iconst (v := 1) hx hb dX3_allOfVillage_22 (by decide) ?_
          refine lv_iload_n hx hb dX3_allOfVillage_23 rfl (lv_at hl 3 rfl) ?_
          refine lv_ishl hx hb dX3_allOfVillage_24 ?_
          refine lv_ior hx hb dX3_allOfVillage_25 ?_
          refine lv_istore_n (lv' := [(2, .int (v2_4 ||| (1 <<< (v3_4 &&& 31)))), (0, .ref (q 0)), (1, .int v1_4), (3, .int v3_4)]) hx hb dX3_allOfVillage_26 rfl hl (by decide) rfl (fun ls hl => ?_)
          refine lv_iinc (v := (v3_4 + 1)) (lv' := [(3, .int (v3_4 + 1)), (2, .int (v2_4 ||| (1 <<< (v3_4 &&& 31)))), (0, .ref (q 0)), (1, .int v1_4)]) hx hb dX3_allOfVillage_27 hl (k := 3) rfl rfl (by decide) rfl (fun ls hl => ?_)
          refine lv_goto (tgt := 4) hx hb dX3_allOfVillage_30 (by decide) ?_
          exact ih_4 v1_4 (v2_4 ||| (1 <<< (v3_4 &&& 31))) (v3_4 + 1) _ (lv_sub hl [2, 3, 1, 0] rfl) h
  refine lv_iconst (v := 0) hx hb dX3_allOfVillage_0 (by decide) ?_
  refine lv_istore_n (lv' := [(2, .int 0), (0, .ref (q 0)), (1, .int a1)]) hx hb dX3_allOfVillage_1 rfl hl (by decide) rfl (fun ls hl => ?_)
  refine lv_iconst (v := 0) hx hb dX3_allOfVillage_2 (by decide) ?_
  refine lv_istore_n (lv' := [(3, .int 0), (2, .int 0), (0, .ref (q 0)), (1, .int a1)]) hx hb dX3_allOfVillage_3 rfl hl (by decide) rfl (fun ls hl => ?_)
  exact hL4 FU a1 0 0 _ (lv_sub hl [2, 3, 1, 0] rfl) h
def fX3_allWhoLie_L4 (y : OS) : Nat → Int32 → Int32 → Option (Int32)
  | 0, _, _ => none
  | n_4 + 1, v1_4, v2_4 => if (y 0 2) ≤ v2_4 then some v1_4 else (fX3_plotOf y v2_4).bind (fun r2 => (if r2 = (-4) then fX3_allWhoLie_L4 y n_4 v1_4 (v2_4 + 1) else fX3_allWhoLie_L4 y n_4 (v1_4 ||| (1 <<< (v2_4 &&& 31))) (v2_4 + 1)))
def fX3_allWhoLie (y : OS) : Option (Int32) := fX3_allWhoLie_L4 y FU 0 0
abbrev rmX3_allWhoLie : Room := { frames := 3, cells := 0, slots := 0, locals := 67 }
set_option maxHeartbeats 4000000 in
set_option maxRecDepth 100000 in
theorem c_X3_allWhoLie (l : Launch) (E : En) (q : Nat → Nat) (y : OS) (r : Int32) (h : fX3_allWhoLie y = some r) : Met l yX3_allWhoLie (kX3_allWhoLie :: BIG) rmX3_allWhoLie (Pk E [.ref (q 0)] (Yd E q y)) (QcRead r) 0 0 (fun _ => False) := by
  refine Mb (by decide) (Nat.le_of_ble_eq_true rfl) ?_
  intro p e s m below meth c ls hx hb hr hlk hB hown hml _ hK hw hl
  have hl : lv_has ls 3 [(0, .ref (q 0))] := hl
  rw [fX3_allWhoLie] at h
  have hL4 : ∀ (n_4 : Nat) (v1_4 : Int32) (v2_4 : Int32) (ls_4 : Array Slot), lv_has ls_4 3 [(0, .ref (q 0)), (1, .int v1_4), (2, .int v2_4)] → fX3_allWhoLie_L4 y n_4 v1_4 v2_4 = some r → W p l e rmX3_allWhoLie s m ([.ref (q 0)] : List Value).toArray below meth c s.heap [] 0 0 (MQ below (QcRead r) ([.ref (q 0)] : List Value).toArray s 0 0 (fun _ => False)) (F0 m 4 ls_4 []) := by
    intro n_4
    induction n_4 with
    | zero =>
      intro v1_4 v2_4 ls_4 hl h
      exact nn h
    | succ n_4 ih_4 =>
      intro v1_4 v2_4 ls_4 hl h
      rw [fX3_allWhoLie_L4] at h
      refine lv_iload_n hx hb dX3_allWhoLie_4 rfl (lv_at hl 2 rfl) ?_
      refine lv_aload_n hx hb dX3_allWhoLie_5 rfl (lv_at hl 0 rfl) ?_
      refine gX3_40 hx hb hB hown hK hw dX3_allWhoLie_6 ?_
      refine lv_icmp_ge (tgt := 34) hx hb dX3_allWhoLie_9 (by decide) (fun g1 => ?_) (fun g1 => ?_)
      · rw [if_pos g1] at h
        refine lv_iload_n hx hb dX3_allWhoLie_34 rfl (lv_at hl 1 rfl) ?_
        exact e_zR hx hb hr hlk rfl h dX3_allWhoLie_35
      · rw [if_neg g1] at h
        refine lv_aload_n hx hb dX3_allWhoLie_12 rfl (lv_at hl 0 rfl) ?_
        refine lv_iload_n hx hb dX3_allWhoLie_13 rfl (lv_at hl 2 rfl) ?_
        obtain ⟨r2, e2, h⟩ := ob h
        refine k_VR ⟨hx, hb, hml, hown, hB⟩ (c_X3_plotOf l E q y v2_4 r2 e2) (clX3_86 hB rfl rfl ⟨Nat.le_of_ble_eq_true rfl, Nat.le_of_ble_eq_true rfl⟩) hK hw (rvY hK hw) rfl hl.1 rfl (Nat.le_of_ble_eq_true rfl) dX3_allWhoLie_14 ⟨Nat.zero_le _, Nat.zero_le _⟩ ?_
        refine lv_bipush (v := (-4)) hx hb dX3_allWhoLie_17 (by decide) ?_
        refine lv_icmp_eq (tgt := 28) hx hb dX3_allWhoLie_19 (by decide) (fun g3 => ?_) (fun g3 => ?_)
        · rw [if_pos g3] at h
          refine lv_iinc (v := (v2_4 + 1)) (lv' := [(2, .int (v2_4 + 1)), (0, .ref (q 0)), (1, .int v1_4)]) hx hb dX3_allWhoLie_28 hl (k := 2) rfl rfl (by decide) rfl (fun ls hl => ?_)
          refine lv_goto (tgt := 4) hx hb dX3_allWhoLie_31 (by decide) ?_
          exact ih_4 v1_4 (v2_4 + 1) _ (lv_sub hl [1, 2, 0] rfl) h
        · rw [if_neg g3] at h
          refine lv_iload_n hx hb dX3_allWhoLie_22 rfl (lv_at hl 1 rfl) ?_
          refine lv_iconst (v := 1) hx hb dX3_allWhoLie_23 (by decide) ?_
          refine lv_iload_n hx hb dX3_allWhoLie_24 rfl (lv_at hl 2 rfl) ?_
          refine lv_ishl hx hb dX3_allWhoLie_25 ?_
          refine lv_ior hx hb dX3_allWhoLie_26 ?_
          refine lv_istore_n (lv' := [(1, .int (v1_4 ||| (1 <<< (v2_4 &&& 31)))), (0, .ref (q 0)), (2, .int v2_4)]) hx hb dX3_allWhoLie_27 rfl hl (by decide) rfl (fun ls hl => ?_)
          refine lv_iinc (v := (v2_4 + 1)) (lv' := [(2, .int (v2_4 + 1)), (1, .int (v1_4 ||| (1 <<< (v2_4 &&& 31)))), (0, .ref (q 0))]) hx hb dX3_allWhoLie_28 hl (k := 2) rfl rfl (by decide) rfl (fun ls hl => ?_)
          refine lv_goto (tgt := 4) hx hb dX3_allWhoLie_31 (by decide) ?_
          exact ih_4 (v1_4 ||| (1 <<< (v2_4 &&& 31))) (v2_4 + 1) _ (lv_sub hl [2, 1, 0] rfl) h
  refine lv_iconst (v := 0) hx hb dX3_allWhoLie_0 (by decide) ?_
  refine lv_istore_n (lv' := [(1, .int 0), (0, .ref (q 0))]) hx hb dX3_allWhoLie_1 rfl hl (by decide) rfl (fun ls hl => ?_)
  refine lv_iconst (v := 0) hx hb dX3_allWhoLie_2 (by decide) ?_
  refine lv_istore_n (lv' := [(2, .int 0), (1, .int 0), (0, .ref (q 0))]) hx hb dX3_allWhoLie_3 rfl hl (by decide) rfl (fun ls hl => ?_)
  exact hL4 FU 0 0 _ (lv_sub hl [2, 1, 0] rfl) h
def fX3_owedOf (y : OS) (a1 : Int32) : Option (Int32) := (fX3_allOfVillage y a1).bind (fun r1 => ((fX3_allWhoLie y).bind (fun r2 => ((fJ6_bitCount_0f7a4 (r1 &&& (r2 ^^^ (-1)))).bind (fun r3 => (some r3))))))
abbrev rmX3_owedOf : Room := { frames := 4, cells := 0, slots := 0, locals := 89 }
set_option maxHeartbeats 4000000 in
set_option maxRecDepth 100000 in
theorem c_X3_owedOf (l : Launch) (E : En) (q : Nat → Nat) (y : OS) (a1 : Int32) (r : Int32) (h : fX3_owedOf y a1 = some r) : Met l yX3_owedOf (kX3_owedOf :: BIG) rmX3_owedOf (Pk E [.ref (q 0), .int a1] (Yd E q y)) (QcRead r) 0 0 (fun _ => False) := by
  refine Mb (by decide) (Nat.le_of_ble_eq_true rfl) ?_
  intro p e s m below meth c ls hx hb hr hlk hB hown hml _ hK hw hl
  have hl : lv_has ls 2 [(0, .ref (q 0)), (1, .int a1)] := hl
  rw [fX3_owedOf] at h
  refine lv_aload_n hx hb dX3_owedOf_0 rfl (lv_at hl 0 rfl) ?_
  refine lv_iload_n hx hb dX3_owedOf_1 rfl (lv_at hl 1 rfl) ?_
  obtain ⟨r1, e1, h⟩ := ob h
  refine k_VR ⟨hx, hb, hml, hown, hB⟩ (c_X3_allOfVillage l E q y a1 r1 e1) (clX3_71 hB rfl rfl ⟨Nat.le_of_ble_eq_true rfl, Nat.le_of_ble_eq_true rfl⟩) hK hw (rvY hK hw) rfl hl.1 rfl (Nat.le_of_ble_eq_true rfl) dX3_owedOf_2 ⟨Nat.zero_le _, Nat.zero_le _⟩ ?_
  refine lv_aload_n hx hb dX3_owedOf_5 rfl (lv_at hl 0 rfl) ?_
  obtain ⟨r2, e2, h⟩ := ob h
  refine k_VR ⟨hx, hb, hml, hown, hB⟩ (c_X3_allWhoLie l E q y r2 e2) (clX3_74 hB rfl rfl ⟨Nat.le_of_ble_eq_true rfl, Nat.le_of_ble_eq_true rfl⟩) hK hw (rvY hK hw) rfl hl.1 rfl (Nat.le_of_ble_eq_true rfl) dX3_owedOf_6 ⟨Nat.zero_le _, Nat.zero_le _⟩ ?_
  refine lv_iconst (v := (-1)) hx hb dX3_owedOf_9 (by decide) ?_
  refine lv_ixor hx hb dX3_owedOf_10 ?_
  refine lv_iand hx hb dX3_owedOf_11 ?_
  obtain ⟨r3, e3, h⟩ := ob h
  refine k_SR ⟨hx, hb, hml, hown, hB⟩ (c_J6_bitCount_0f7a4 l E (r1 &&& (r2 ^^^ (-1))) r3 e3) (clX3_78 hB rfl rfl ⟨Nat.le_of_ble_eq_true rfl, Nat.le_of_ble_eq_true rfl⟩) hK trivial rfl hl.1 rfl (Nat.le_of_ble_eq_true rfl) dX3_owedOf_12 ⟨Nat.zero_le _, Nat.zero_le _⟩ ?_
  exact e_zR hx hb hr hlk rfl h dX3_owedOf_15
def fX3_forgivenOfAllWhoLie_L4 (y : OS) (v1_4 : Int32) : Nat → Int32 → Int32 → Option (Int32)
  | 0, _, _ => none
  | n_4 + 1, v2_4, v3_4 => if (y 0 2) ≤ v3_4 then some v2_4 else (fX3_villageOf y v3_4).bind (fun r2 => (if r2 = v1_4 then (fX3_plotOf y v3_4).bind (fun r4 => (if r4 = (-4) then fX3_forgivenOfAllWhoLie_L4 y v1_4 n_4 v2_4 (v3_4 + 1) else (fX3_forgivenOf y v3_4).bind (fun r6 => (fX3_forgivenOfAllWhoLie_L4 y v1_4 n_4 (v2_4 + r6) (v3_4 + 1))))) else fX3_forgivenOfAllWhoLie_L4 y v1_4 n_4 v2_4 (v3_4 + 1)))
def fX3_forgivenOfAllWhoLie (y : OS) (a1 : Int32) : Option (Int32) := fX3_forgivenOfAllWhoLie_L4 y a1 FU 0 0
abbrev rmX3_forgivenOfAllWhoLie : Room := { frames := 3, cells := 0, slots := 0, locals := 67 }
set_option maxHeartbeats 4000000 in
set_option maxRecDepth 100000 in
theorem c_X3_forgivenOfAllWhoLie (l : Launch) (E : En) (q : Nat → Nat) (y : OS) (a1 : Int32) (r : Int32) (h : fX3_forgivenOfAllWhoLie y a1 = some r) : Met l yX3_forgivenOfAllWhoLie (kX3_forgivenOfAllWhoLie :: BIG) rmX3_forgivenOfAllWhoLie (Pk E [.ref (q 0), .int a1] (Yd E q y)) (QcRead r) 0 0 (fun _ => False) := by
  refine Mb (by decide) (Nat.le_of_ble_eq_true rfl) ?_
  intro p e s m below meth c ls hx hb hr hlk hB hown hml _ hK hw hl
  have hl : lv_has ls 4 [(0, .ref (q 0)), (1, .int a1)] := hl
  rw [fX3_forgivenOfAllWhoLie] at h
  have hL4 : ∀ (n_4 : Nat) (v1_4 : Int32) (v2_4 : Int32) (v3_4 : Int32) (ls_4 : Array Slot), lv_has ls_4 4 [(0, .ref (q 0)), (1, .int v1_4), (2, .int v2_4), (3, .int v3_4)] → fX3_forgivenOfAllWhoLie_L4 y v1_4 n_4 v2_4 v3_4 = some r → W p l e rmX3_forgivenOfAllWhoLie s m ([.ref (q 0), .int a1] : List Value).toArray below meth c s.heap [] 0 0 (MQ below (QcRead r) ([.ref (q 0), .int a1] : List Value).toArray s 0 0 (fun _ => False)) (F0 m 4 ls_4 []) := by
    intro n_4
    induction n_4 with
    | zero =>
      intro v1_4 v2_4 v3_4 ls_4 hl h
      exact nn h
    | succ n_4 ih_4 =>
      intro v1_4 v2_4 v3_4 ls_4 hl h
      rw [fX3_forgivenOfAllWhoLie_L4] at h
      refine lv_iload_n hx hb dX3_forgivenOfAllWhoLie_4 rfl (lv_at hl 3 rfl) ?_
      refine lv_aload_n hx hb dX3_forgivenOfAllWhoLie_5 rfl (lv_at hl 0 rfl) ?_
      refine gX3_40 hx hb hB hown hK hw dX3_forgivenOfAllWhoLie_6 ?_
      refine lv_icmp_ge (tgt := 45) hx hb dX3_forgivenOfAllWhoLie_9 (by decide) (fun g1 => ?_) (fun g1 => ?_)
      · rw [if_pos g1] at h
        refine lv_iload_n hx hb dX3_forgivenOfAllWhoLie_45 rfl (lv_at hl 2 rfl) ?_
        exact e_zR hx hb hr hlk rfl h dX3_forgivenOfAllWhoLie_46
      · rw [if_neg g1] at h
        refine lv_aload_n hx hb dX3_forgivenOfAllWhoLie_12 rfl (lv_at hl 0 rfl) ?_
        refine lv_iload_n hx hb dX3_forgivenOfAllWhoLie_13 rfl (lv_at hl 3 rfl) ?_
        obtain ⟨r2, e2, h⟩ := ob h
        refine k_VR ⟨hx, hb, hml, hown, hB⟩ (c_X3_villageOf l E q y v3_4 r2 e2) (clX3_83 hB rfl rfl ⟨Nat.le_of_ble_eq_true rfl, Nat.le_of_ble_eq_true rfl⟩) hK hw (rvY hK hw) rfl hl.1 rfl (Nat.le_of_ble_eq_true rfl) dX3_forgivenOfAllWhoLie_14 ⟨Nat.zero_le _, Nat.zero_le _⟩ ?_
        refine lv_iload_n hx hb dX3_forgivenOfAllWhoLie_17 rfl (lv_at hl 1 rfl) ?_
        refine lv_icmp_ne (tgt := 39) hx hb dX3_forgivenOfAllWhoLie_18 (by decide) (fun g3 => ?_) (fun g3 => ?_)
        · rw [if_neg g3] at h
          refine lv_iinc (v := (v3_4 + 1)) (lv' := [(3, .int (v3_4 + 1)), (0, .ref (q 0)), (1, .int v1_4), (2, .int v2_4)]) hx hb dX3_forgivenOfAllWhoLie_39 hl (k := 3) rfl rfl (by decide) rfl (fun ls hl => ?_)
          refine lv_goto (tgt := 4) hx hb dX3_forgivenOfAllWhoLie_42 (by decide) ?_
          exact ih_4 v1_4 v2_4 (v3_4 + 1) _ (lv_sub hl [1, 2, 3, 0] rfl) h
        · rw [if_pos g3] at h
          refine lv_aload_n hx hb dX3_forgivenOfAllWhoLie_21 rfl (lv_at hl 0 rfl) ?_
          refine lv_iload_n hx hb dX3_forgivenOfAllWhoLie_22 rfl (lv_at hl 3 rfl) ?_
          obtain ⟨r4, e4, h⟩ := ob h
          refine k_VR ⟨hx, hb, hml, hown, hB⟩ (c_X3_plotOf l E q y v3_4 r4 e4) (clX3_86 hB rfl rfl ⟨Nat.le_of_ble_eq_true rfl, Nat.le_of_ble_eq_true rfl⟩) hK hw (rvY hK hw) rfl hl.1 rfl (Nat.le_of_ble_eq_true rfl) dX3_forgivenOfAllWhoLie_23 ⟨Nat.zero_le _, Nat.zero_le _⟩ ?_
          refine lv_bipush (v := (-4)) hx hb dX3_forgivenOfAllWhoLie_26 (by decide) ?_
          refine lv_icmp_eq (tgt := 39) hx hb dX3_forgivenOfAllWhoLie_28 (by decide) (fun g5 => ?_) (fun g5 => ?_)
          · rw [if_pos g5] at h
            refine lv_iinc (v := (v3_4 + 1)) (lv' := [(3, .int (v3_4 + 1)), (0, .ref (q 0)), (1, .int v1_4), (2, .int v2_4)]) hx hb dX3_forgivenOfAllWhoLie_39 hl (k := 3) rfl rfl (by decide) rfl (fun ls hl => ?_)
            refine lv_goto (tgt := 4) hx hb dX3_forgivenOfAllWhoLie_42 (by decide) ?_
            exact ih_4 v1_4 v2_4 (v3_4 + 1) _ (lv_sub hl [1, 2, 3, 0] rfl) h
          · rw [if_neg g5] at h
            refine lv_iload_n hx hb dX3_forgivenOfAllWhoLie_31 rfl (lv_at hl 2 rfl) ?_
            refine lv_aload_n hx hb dX3_forgivenOfAllWhoLie_32 rfl (lv_at hl 0 rfl) ?_
            refine lv_iload_n hx hb dX3_forgivenOfAllWhoLie_33 rfl (lv_at hl 3 rfl) ?_
            obtain ⟨r6, e6, h⟩ := ob h
            refine k_VR ⟨hx, hb, hml, hown, hB⟩ (c_X3_forgivenOf l E q y v3_4 r6 e6) (clX3_89 hB rfl rfl ⟨Nat.le_of_ble_eq_true rfl, Nat.le_of_ble_eq_true rfl⟩) hK hw (rvY hK hw) rfl hl.1 rfl (Nat.le_of_ble_eq_true rfl) dX3_forgivenOfAllWhoLie_34 ⟨Nat.zero_le _, Nat.zero_le _⟩ ?_
            refine lv_iadd hx hb dX3_forgivenOfAllWhoLie_37 ?_
            refine lv_istore_n (lv' := [(2, .int (v2_4 + r6)), (0, .ref (q 0)), (1, .int v1_4), (3, .int v3_4)]) hx hb dX3_forgivenOfAllWhoLie_38 rfl hl (by decide) rfl (fun ls hl => ?_)
            refine lv_iinc (v := (v3_4 + 1)) (lv' := [(3, .int (v3_4 + 1)), (2, .int (v2_4 + r6)), (0, .ref (q 0)), (1, .int v1_4)]) hx hb dX3_forgivenOfAllWhoLie_39 hl (k := 3) rfl rfl (by decide) rfl (fun ls hl => ?_)
            refine lv_goto (tgt := 4) hx hb dX3_forgivenOfAllWhoLie_42 (by decide) ?_
            exact ih_4 v1_4 (v2_4 + r6) (v3_4 + 1) _ (lv_sub hl [2, 3, 1, 0] rfl) h
  refine lv_iconst (v := 0) hx hb dX3_forgivenOfAllWhoLie_0 (by decide) ?_
  refine lv_istore_n (lv' := [(2, .int 0), (0, .ref (q 0)), (1, .int a1)]) hx hb dX3_forgivenOfAllWhoLie_1 rfl hl (by decide) rfl (fun ls hl => ?_)
  refine lv_iconst (v := 0) hx hb dX3_forgivenOfAllWhoLie_2 (by decide) ?_
  refine lv_istore_n (lv' := [(3, .int 0), (2, .int 0), (0, .ref (q 0)), (1, .int a1)]) hx hb dX3_forgivenOfAllWhoLie_3 rfl hl (by decide) rfl (fun ls hl => ?_)
  exact hL4 FU a1 0 0 _ (lv_sub hl [2, 3, 1, 0] rfl) h
def fX3_doubles_L4 (y : OS) : Nat → Int32 → Int32 → Option (Int32)
  | 0, _, _ => none
  | n_4 + 1, v1_4, v2_4 => if (y 0 2) ≤ v2_4 then some v1_4 else (fX3_plotOfDouble y v2_4).bind (fun r2 => (if r2 = (-4) then fX3_doubles_L4 y n_4 v1_4 (v2_4 + 1) else fX3_doubles_L4 y n_4 (v1_4 + 1) (v2_4 + 1)))
def fX3_doubles (y : OS) : Option (Int32) := fX3_doubles_L4 y FU 0 0
abbrev rmX3_doubles : Room := { frames := 3, cells := 0, slots := 0, locals := 67 }
set_option maxHeartbeats 4000000 in
set_option maxRecDepth 100000 in
theorem c_X3_doubles (l : Launch) (E : En) (q : Nat → Nat) (y : OS) (r : Int32) (h : fX3_doubles y = some r) : Met l yX3_doubles (kX3_doubles :: BIG) rmX3_doubles (Pk E [.ref (q 0)] (Yd E q y)) (QcRead r) 0 0 (fun _ => False) := by
  refine Mb (by decide) (Nat.le_of_ble_eq_true rfl) ?_
  intro p e s m below meth c ls hx hb hr hlk hB hown hml _ hK hw hl
  have hl : lv_has ls 3 [(0, .ref (q 0))] := hl
  rw [fX3_doubles] at h
  have hL4 : ∀ (n_4 : Nat) (v1_4 : Int32) (v2_4 : Int32) (ls_4 : Array Slot), lv_has ls_4 3 [(0, .ref (q 0)), (1, .int v1_4), (2, .int v2_4)] → fX3_doubles_L4 y n_4 v1_4 v2_4 = some r → W p l e rmX3_doubles s m ([.ref (q 0)] : List Value).toArray below meth c s.heap [] 0 0 (MQ below (QcRead r) ([.ref (q 0)] : List Value).toArray s 0 0 (fun _ => False)) (F0 m 4 ls_4 []) := by
    intro n_4
    induction n_4 with
    | zero =>
      intro v1_4 v2_4 ls_4 hl h
      exact nn h
    | succ n_4 ih_4 =>
      intro v1_4 v2_4 ls_4 hl h
      rw [fX3_doubles_L4] at h
      refine lv_iload_n hx hb dX3_doubles_4 rfl (lv_at hl 2 rfl) ?_
      refine lv_aload_n hx hb dX3_doubles_5 rfl (lv_at hl 0 rfl) ?_
      refine gX3_40 hx hb hB hown hK hw dX3_doubles_6 ?_
      refine lv_icmp_ge (tgt := 31) hx hb dX3_doubles_9 (by decide) (fun g1 => ?_) (fun g1 => ?_)
      · rw [if_pos g1] at h
        refine lv_iload_n hx hb dX3_doubles_31 rfl (lv_at hl 1 rfl) ?_
        exact e_zR hx hb hr hlk rfl h dX3_doubles_32
      · rw [if_neg g1] at h
        refine lv_aload_n hx hb dX3_doubles_12 rfl (lv_at hl 0 rfl) ?_
        refine lv_iload_n hx hb dX3_doubles_13 rfl (lv_at hl 2 rfl) ?_
        obtain ⟨r2, e2, h⟩ := ob h
        refine k_VR ⟨hx, hb, hml, hown, hB⟩ (c_X3_plotOfDouble l E q y v2_4 r2 e2) (clX3_92 hB rfl rfl ⟨Nat.le_of_ble_eq_true rfl, Nat.le_of_ble_eq_true rfl⟩) hK hw (rvY hK hw) rfl hl.1 rfl (Nat.le_of_ble_eq_true rfl) dX3_doubles_14 ⟨Nat.zero_le _, Nat.zero_le _⟩ ?_
        refine lv_bipush (v := (-4)) hx hb dX3_doubles_17 (by decide) ?_
        refine lv_icmp_eq (tgt := 25) hx hb dX3_doubles_19 (by decide) (fun g3 => ?_) (fun g3 => ?_)
        · rw [if_pos g3] at h
          refine lv_iinc (v := (v2_4 + 1)) (lv' := [(2, .int (v2_4 + 1)), (0, .ref (q 0)), (1, .int v1_4)]) hx hb dX3_doubles_25 hl (k := 2) rfl rfl (by decide) rfl (fun ls hl => ?_)
          refine lv_goto (tgt := 4) hx hb dX3_doubles_28 (by decide) ?_
          exact ih_4 v1_4 (v2_4 + 1) _ (lv_sub hl [1, 2, 0] rfl) h
        · rw [if_neg g3] at h
          refine lv_iinc (v := (v1_4 + 1)) (lv' := [(1, .int (v1_4 + 1)), (0, .ref (q 0)), (2, .int v2_4)]) hx hb dX3_doubles_22 hl (k := 1) rfl rfl (by decide) rfl (fun ls hl => ?_)
          refine lv_iinc (v := (v2_4 + 1)) (lv' := [(2, .int (v2_4 + 1)), (1, .int (v1_4 + 1)), (0, .ref (q 0))]) hx hb dX3_doubles_25 hl (k := 2) rfl rfl (by decide) rfl (fun ls hl => ?_)
          refine lv_goto (tgt := 4) hx hb dX3_doubles_28 (by decide) ?_
          exact ih_4 (v1_4 + 1) (v2_4 + 1) _ (lv_sub hl [2, 1, 0] rfl) h
  refine lv_iconst (v := 0) hx hb dX3_doubles_0 (by decide) ?_
  refine lv_istore_n (lv' := [(1, .int 0), (0, .ref (q 0))]) hx hb dX3_doubles_1 rfl hl (by decide) rfl (fun ls hl => ?_)
  refine lv_iconst (v := 0) hx hb dX3_doubles_2 (by decide) ?_
  refine lv_istore_n (lv' := [(2, .int 0), (1, .int 0), (0, .ref (q 0))]) hx hb dX3_doubles_3 rfl hl (by decide) rfl (fun ls hl => ?_)
  exact hL4 FU 0 0 _ (lv_sub hl [2, 1, 0] rfl) h
def fX3_goalOf (y : OS) (d : OS) (a1 : Int32) (a2 : Int32) : Option (Int32) := (fX3_whoLies y a1 a2).bind (fun r1 => (if r1 = (-4) then some (-4) else (fX3_placeIn d a1 r1).bind (fun r3 => (some r3))))
abbrev rmX3_goalOf : Room := { frames := 2, cells := 0, slots := 0, locals := 46 }
set_option maxHeartbeats 4000000 in
set_option maxRecDepth 100000 in
theorem c_X3_goalOf (l : Launch) (E : En) (q : Nat → Nat) (q2 : Nat → Nat) (y : OS) (d : OS) (a1 : Int32) (a2 : Int32) (r : Int32) (h : fX3_goalOf y d a1 a2 = some r) : Met l yX3_goalOf (kX3_goalOf :: BIG) rmX3_goalOf (Pk E [.ref (q 0), .int a1, .int a2, .ref (q2 0)] (fun H => Yd E q y H ∧ Yd E q2 d H)) (QcRead r) 0 0 (fun _ => False) := by
  refine Mb (by decide) (Nat.le_of_ble_eq_true rfl) ?_
  intro p e s m below meth c ls hx hb hr hlk hB hown hml _ hK hw hl
  have hl : lv_has ls 5 [(0, .ref (q 0)), (1, .int a1), (2, .int a2), (3, .ref (q2 0))] := hl
  rw [fX3_goalOf] at h
  refine lv_aload_n hx hb dX3_goalOf_0 rfl (lv_at hl 0 rfl) ?_
  refine lv_iload_n hx hb dX3_goalOf_1 rfl (lv_at hl 1 rfl) ?_
  refine lv_iload_n hx hb dX3_goalOf_2 rfl (lv_at hl 2 rfl) ?_
  obtain ⟨r1, e1, h⟩ := ob h
  refine k_VR ⟨hx, hb, hml, hown, hB⟩ (c_X3_whoLies l E q y a1 a2 r1 e1) (clX3_60 hB rfl rfl ⟨Nat.le_of_ble_eq_true rfl, Nat.le_of_ble_eq_true rfl⟩) hK hw.1 (rvY hK hw.1) rfl hl.1 rfl (Nat.le_of_ble_eq_true rfl) dX3_goalOf_3 ⟨Nat.zero_le _, Nat.zero_le _⟩ ?_
  refine lv_istore (lv' := [(4, .int r1), (0, .ref (q 0)), (1, .int a1), (2, .int a2), (3, .ref (q2 0))]) hx hb dX3_goalOf_6 hl (by decide) rfl (fun ls hl => ?_)
  refine lv_iload hx hb dX3_goalOf_8 (lv_at hl 0 rfl) ?_
  refine lv_bipush (v := (-4)) hx hb dX3_goalOf_10 (by decide) ?_
  refine lv_icmp_ne (tgt := 20) hx hb dX3_goalOf_12 (by decide) (fun g2 => ?_) (fun g2 => ?_)
  · rw [if_neg g2] at h
    refine lv_aload_n hx hb dX3_goalOf_20 rfl (lv_at hl 4 rfl) ?_
    refine lv_iload_n hx hb dX3_goalOf_21 rfl (lv_at hl 2 rfl) ?_
    refine lv_iload hx hb dX3_goalOf_22 (lv_at hl 0 rfl) ?_
    obtain ⟨r3, e3, h⟩ := ob h
    refine k_VR ⟨hx, hb, hml, hown, hB⟩ (c_X3_placeIn l E q2 d a1 r1 r3 e3) (clX3_56 hB rfl rfl ⟨Nat.le_of_ble_eq_true rfl, Nat.le_of_ble_eq_true rfl⟩) hK hw.2 (rvY hK hw.2) rfl hl.1 rfl (Nat.le_of_ble_eq_true rfl) dX3_goalOf_24 ⟨Nat.zero_le _, Nat.zero_le _⟩ ?_
    exact e_zR hx hb hr hlk rfl h dX3_goalOf_27
  · rw [if_pos g2] at h
    refine lv_bipush (v := (-4)) hx hb dX3_goalOf_15 (by decide) ?_
    refine lv_goto (tgt := 27) hx hb dX3_goalOf_17 (by decide) ?_
    exact e_zR hx hb hr hlk rfl h dX3_goalOf_27
def fX3_sameLie_L2 (y : OS) (d : OS) (v1_2 : Int32) : Nat → Int32 → Option (Int32)
  | 0, _ => none
  | n_2 + 1, v3_2 => if (y 0 0) ≤ v3_2 then some 1 else (fX3_whoLies y v1_2 v3_2).bind (fun r2 => (if r2 = (-4) then (fX3_whoLies d v1_2 v3_2).bind (fun r4 => (if r4 = (-4) then fX3_sameLie_L2 y d v1_2 n_2 (v3_2 + 1) else (fX3_goalOf d y v1_2 v3_2).bind (fun r6 => (if r6 = (-4) then some 0 else fX3_sameLie_L2 y d v1_2 n_2 (v3_2 + 1))))) else (fX3_goalOf y d v1_2 v3_2).bind (fun r8 => (if r8 = (-4) then some 0 else (fX3_whoLies d v1_2 v3_2).bind (fun r10 => (if r10 = (-4) then fX3_sameLie_L2 y d v1_2 n_2 (v3_2 + 1) else (fX3_goalOf d y v1_2 v3_2).bind (fun r12 => (if r12 = (-4) then some 0 else fX3_sameLie_L2 y d v1_2 n_2 (v3_2 + 1)))))))))
def fX3_sameLie (y : OS) (d : OS) (a1 : Int32) : Option (Int32) := fX3_sameLie_L2 y d a1 FU 0
abbrev rmX3_sameLie : Room := { frames := 3, cells := 0, slots := 0, locals := 70 }
set_option maxHeartbeats 4000000 in
set_option maxRecDepth 100000 in
theorem c_X3_sameLie (l : Launch) (E : En) (q : Nat → Nat) (q2 : Nat → Nat) (y : OS) (d : OS) (a1 : Int32) (r : Int32) (h : fX3_sameLie y d a1 = some r) : Met l yX3_sameLie (kX3_sameLie :: BIG) rmX3_sameLie (Pk E [.ref (q 0), .int a1, .ref (q2 0)] (fun H => Yd E q y H ∧ Yd E q2 d H)) (QcRead r) 0 0 (fun _ => False) := by
  refine Mb (by decide) (Nat.le_of_ble_eq_true rfl) ?_
  intro p e s m below meth c ls hx hb hr hlk hB hown hml _ hK hw hl
  have hl : lv_has ls 4 [(0, .ref (q 0)), (1, .int a1), (2, .ref (q2 0))] := hl
  rw [fX3_sameLie] at h
  have hL2 : ∀ (n_2 : Nat) (v1_2 : Int32) (v3_2 : Int32) (ls_2 : Array Slot), lv_has ls_2 4 [(0, .ref (q 0)), (1, .int v1_2), (2, .ref (q2 0)), (3, .int v3_2)] → fX3_sameLie_L2 y d v1_2 n_2 v3_2 = some r → W p l e rmX3_sameLie s m ([.ref (q 0), .int a1, .ref (q2 0)] : List Value).toArray below meth c s.heap [] 0 0 (MQ below (QcRead r) ([.ref (q 0), .int a1, .ref (q2 0)] : List Value).toArray s 0 0 (fun _ => False)) (F0 m 2 ls_2 []) := by
    intro n_2
    induction n_2 with
    | zero =>
      intro v1_2 v3_2 ls_2 hl h
      exact nn h
    | succ n_2 ih_2 =>
      intro v1_2 v3_2 ls_2 hl h
      rw [fX3_sameLie_L2] at h
      refine lv_iload_n hx hb dX3_sameLie_2 rfl (lv_at hl 3 rfl) ?_
      refine lv_aload_n hx hb dX3_sameLie_3 rfl (lv_at hl 0 rfl) ?_
      refine gX3_33 hx hb hB hown hK hw.1 dX3_sameLie_4 ?_
      refine lv_icmp_ge (tgt := 66) hx hb dX3_sameLie_7 (by decide) (fun g1 => ?_) (fun g1 => ?_)
      · rw [if_pos g1] at h
        refine lv_iconst (v := 1) hx hb dX3_sameLie_66 (by decide) ?_
        exact e_zR hx hb hr hlk (by decide) h dX3_sameLie_67
      · rw [if_neg g1] at h
        refine lv_aload_n hx hb dX3_sameLie_10 rfl (lv_at hl 0 rfl) ?_
        refine lv_iload_n hx hb dX3_sameLie_11 rfl (lv_at hl 1 rfl) ?_
        refine lv_iload_n hx hb dX3_sameLie_12 rfl (lv_at hl 3 rfl) ?_
        obtain ⟨r2, e2, h⟩ := ob h
        refine k_VR ⟨hx, hb, hml, hown, hB⟩ (c_X3_whoLies l E q y v1_2 v3_2 r2 e2) (clX3_60 hB rfl rfl ⟨Nat.le_of_ble_eq_true rfl, Nat.le_of_ble_eq_true rfl⟩) hK hw.1 (rvY hK hw.1) rfl hl.1 rfl (Nat.le_of_ble_eq_true rfl) dX3_sameLie_13 ⟨Nat.zero_le _, Nat.zero_le _⟩ ?_
        refine lv_bipush (v := (-4)) hx hb dX3_sameLie_16 (by decide) ?_
        refine lv_icmp_eq (tgt := 35) hx hb dX3_sameLie_18 (by decide) (fun g3 => ?_) (fun g3 => ?_)
        · rw [if_pos g3] at h
          refine lv_aload_n hx hb dX3_sameLie_35 rfl (lv_at hl 2 rfl) ?_
          refine lv_iload_n hx hb dX3_sameLie_36 rfl (lv_at hl 1 rfl) ?_
          refine lv_iload_n hx hb dX3_sameLie_37 rfl (lv_at hl 3 rfl) ?_
          obtain ⟨r4, e4, h⟩ := ob h
          refine k_VR ⟨hx, hb, hml, hown, hB⟩ (c_X3_whoLies l E q2 d v1_2 v3_2 r4 e4) (clX3_60 hB rfl rfl ⟨Nat.le_of_ble_eq_true rfl, Nat.le_of_ble_eq_true rfl⟩) hK hw.2 (rvY hK hw.2) rfl hl.1 rfl (Nat.le_of_ble_eq_true rfl) dX3_sameLie_38 ⟨Nat.zero_le _, Nat.zero_le _⟩ ?_
          refine lv_bipush (v := (-4)) hx hb dX3_sameLie_41 (by decide) ?_
          refine lv_icmp_eq (tgt := 60) hx hb dX3_sameLie_43 (by decide) (fun g5 => ?_) (fun g5 => ?_)
          · rw [if_pos g5] at h
            refine lv_iinc (v := (v3_2 + 1)) (lv' := [(3, .int (v3_2 + 1)), (0, .ref (q 0)), (1, .int v1_2), (2, .ref (q2 0))]) hx hb dX3_sameLie_60 hl (k := 3) rfl rfl (by decide) rfl (fun ls hl => ?_)
            refine lv_goto (tgt := 2) hx hb dX3_sameLie_63 (by decide) ?_
            exact ih_2 v1_2 (v3_2 + 1) _ (lv_sub hl [1, 2, 3, 0] rfl) h
          · rw [if_neg g5] at h
            refine lv_aload_n hx hb dX3_sameLie_46 rfl (lv_at hl 2 rfl) ?_
            refine lv_iload_n hx hb dX3_sameLie_47 rfl (lv_at hl 1 rfl) ?_
            refine lv_iload_n hx hb dX3_sameLie_48 rfl (lv_at hl 3 rfl) ?_
            refine lv_aload_n hx hb dX3_sameLie_49 rfl (lv_at hl 0 rfl) ?_
            obtain ⟨r6, e6, h⟩ := ob h
            refine k_VR ⟨hx, hb, hml, hown, hB⟩ (c_X3_goalOf l E q2 q d y v1_2 v3_2 r6 e6) (clX3_99 hB rfl rfl ⟨Nat.le_of_ble_eq_true rfl, Nat.le_of_ble_eq_true rfl⟩) hK ⟨hw.2, hw.1⟩ (rvY hK hw.2) rfl hl.1 rfl (Nat.le_of_ble_eq_true rfl) dX3_sameLie_50 ⟨Nat.zero_le _, Nat.zero_le _⟩ ?_
            refine lv_bipush (v := (-4)) hx hb dX3_sameLie_53 (by decide) ?_
            refine lv_icmp_ne (tgt := 60) hx hb dX3_sameLie_55 (by decide) (fun g7 => ?_) (fun g7 => ?_)
            · rw [if_neg g7] at h
              refine lv_iinc (v := (v3_2 + 1)) (lv' := [(3, .int (v3_2 + 1)), (0, .ref (q 0)), (1, .int v1_2), (2, .ref (q2 0))]) hx hb dX3_sameLie_60 hl (k := 3) rfl rfl (by decide) rfl (fun ls hl => ?_)
              refine lv_goto (tgt := 2) hx hb dX3_sameLie_63 (by decide) ?_
              exact ih_2 v1_2 (v3_2 + 1) _ (lv_sub hl [1, 2, 3, 0] rfl) h
            · rw [if_pos g7] at h
              refine lv_iconst (v := 0) hx hb dX3_sameLie_58 (by decide) ?_
              exact e_zR hx hb hr hlk (by decide) h dX3_sameLie_59
        · rw [if_neg g3] at h
          refine lv_aload_n hx hb dX3_sameLie_21 rfl (lv_at hl 0 rfl) ?_
          refine lv_iload_n hx hb dX3_sameLie_22 rfl (lv_at hl 1 rfl) ?_
          refine lv_iload_n hx hb dX3_sameLie_23 rfl (lv_at hl 3 rfl) ?_
          refine lv_aload_n hx hb dX3_sameLie_24 rfl (lv_at hl 2 rfl) ?_
          obtain ⟨r8, e8, h⟩ := ob h
          refine k_VR ⟨hx, hb, hml, hown, hB⟩ (c_X3_goalOf l E q q2 y d v1_2 v3_2 r8 e8) (clX3_99 hB rfl rfl ⟨Nat.le_of_ble_eq_true rfl, Nat.le_of_ble_eq_true rfl⟩) hK ⟨hw.1, hw.2⟩ (rvY hK hw.1) rfl hl.1 rfl (Nat.le_of_ble_eq_true rfl) dX3_sameLie_25 ⟨Nat.zero_le _, Nat.zero_le _⟩ ?_
          refine lv_bipush (v := (-4)) hx hb dX3_sameLie_28 (by decide) ?_
          refine lv_icmp_ne (tgt := 35) hx hb dX3_sameLie_30 (by decide) (fun g9 => ?_) (fun g9 => ?_)
          · rw [if_neg g9] at h
            refine lv_aload_n hx hb dX3_sameLie_35 rfl (lv_at hl 2 rfl) ?_
            refine lv_iload_n hx hb dX3_sameLie_36 rfl (lv_at hl 1 rfl) ?_
            refine lv_iload_n hx hb dX3_sameLie_37 rfl (lv_at hl 3 rfl) ?_
            obtain ⟨r10, e10, h⟩ := ob h
            refine k_VR ⟨hx, hb, hml, hown, hB⟩ (c_X3_whoLies l E q2 d v1_2 v3_2 r10 e10) (clX3_60 hB rfl rfl ⟨Nat.le_of_ble_eq_true rfl, Nat.le_of_ble_eq_true rfl⟩) hK hw.2 (rvY hK hw.2) rfl hl.1 rfl (Nat.le_of_ble_eq_true rfl) dX3_sameLie_38 ⟨Nat.zero_le _, Nat.zero_le _⟩ ?_
            refine lv_bipush (v := (-4)) hx hb dX3_sameLie_41 (by decide) ?_
            refine lv_icmp_eq (tgt := 60) hx hb dX3_sameLie_43 (by decide) (fun g11 => ?_) (fun g11 => ?_)
            · rw [if_pos g11] at h
              refine lv_iinc (v := (v3_2 + 1)) (lv' := [(3, .int (v3_2 + 1)), (0, .ref (q 0)), (1, .int v1_2), (2, .ref (q2 0))]) hx hb dX3_sameLie_60 hl (k := 3) rfl rfl (by decide) rfl (fun ls hl => ?_)
              refine lv_goto (tgt := 2) hx hb dX3_sameLie_63 (by decide) ?_
              exact ih_2 v1_2 (v3_2 + 1) _ (lv_sub hl [1, 2, 3, 0] rfl) h
            · rw [if_neg g11] at h
              refine lv_aload_n hx hb dX3_sameLie_46 rfl (lv_at hl 2 rfl) ?_
              refine lv_iload_n hx hb dX3_sameLie_47 rfl (lv_at hl 1 rfl) ?_
              refine lv_iload_n hx hb dX3_sameLie_48 rfl (lv_at hl 3 rfl) ?_
              refine lv_aload_n hx hb dX3_sameLie_49 rfl (lv_at hl 0 rfl) ?_
              obtain ⟨r12, e12, h⟩ := ob h
              refine k_VR ⟨hx, hb, hml, hown, hB⟩ (c_X3_goalOf l E q2 q d y v1_2 v3_2 r12 e12) (clX3_99 hB rfl rfl ⟨Nat.le_of_ble_eq_true rfl, Nat.le_of_ble_eq_true rfl⟩) hK ⟨hw.2, hw.1⟩ (rvY hK hw.2) rfl hl.1 rfl (Nat.le_of_ble_eq_true rfl) dX3_sameLie_50 ⟨Nat.zero_le _, Nat.zero_le _⟩ ?_
              refine lv_bipush (v := (-4)) hx hb dX3_sameLie_53 (by decide) ?_
              refine lv_icmp_ne (tgt := 60) hx hb dX3_sameLie_55 (by decide) (fun g13 => ?_) (fun g13 => ?_)
              · rw [if_neg g13] at h
                refine lv_iinc (v := (v3_2 + 1)) (lv' := [(3, .int (v3_2 + 1)), (0, .ref (q 0)), (1, .int v1_2), (2, .ref (q2 0))]) hx hb dX3_sameLie_60 hl (k := 3) rfl rfl (by decide) rfl (fun ls hl => ?_)
                refine lv_goto (tgt := 2) hx hb dX3_sameLie_63 (by decide) ?_
                exact ih_2 v1_2 (v3_2 + 1) _ (lv_sub hl [1, 2, 3, 0] rfl) h
              · rw [if_pos g13] at h
                refine lv_iconst (v := 0) hx hb dX3_sameLie_58 (by decide) ?_
                exact e_zR hx hb hr hlk (by decide) h dX3_sameLie_59
          · rw [if_pos g9] at h
            refine lv_iconst (v := 0) hx hb dX3_sameLie_33 (by decide) ?_
            exact e_zR hx hb hr hlk (by decide) h dX3_sameLie_34
  refine lv_iconst (v := 0) hx hb dX3_sameLie_0 (by decide) ?_
  refine lv_istore_n (lv' := [(3, .int 0), (0, .ref (q 0)), (1, .int a1), (2, .ref (q2 0))]) hx hb dX3_sameLie_1 rfl hl (by decide) rfl (fun ls hl => ?_)
  exact hL2 FU a1 0 _ (lv_sub hl [1, 2, 3, 0] rfl) h
def fX3_isLowestOfRing_L12 (y : OS) (d : OS) (v1_12 : Int32) (v2_12 : Int32) : Nat → Int32 → Int32 → Option (Int32)
  | 0, _, _ => none
  | n_12 + 1, v4_12, v5_12 => if (y 0 0) ≤ v5_12 then if v4_12 = v2_12 then some 1 else some 0 else if v4_12 ≤ v2_12 then if v4_12 = v2_12 then some 1 else some 0 else (fX3_goalOf y d v1_12 v4_12).bind (fun r5 => (fX3_isLowestOfRing_L12 y d v1_12 v2_12 n_12 r5 (v5_12 + 1)))
def fX3_isLowestOfRing (y : OS) (d : OS) (a1 : Int32) (a2 : Int32) : Option (Int32) := (fX3_goalOf y d a1 a2).bind (fun r6 => (fX3_isLowestOfRing_L12 y d a1 a2 FU r6 0))
abbrev rmX3_isLowestOfRing : Room := { frames := 3, cells := 0, slots := 0, locals := 70 }
set_option maxHeartbeats 4000000 in
set_option maxRecDepth 100000 in
theorem c_X3_isLowestOfRing (l : Launch) (E : En) (q : Nat → Nat) (q2 : Nat → Nat) (y : OS) (d : OS) (a1 : Int32) (a2 : Int32) (r : Int32) (h : fX3_isLowestOfRing y d a1 a2 = some r) : Met l yX3_isLowestOfRing (kX3_isLowestOfRing :: BIG) rmX3_isLowestOfRing (Pk E [.ref (q 0), .int a1, .int a2, .ref (q2 0)] (fun H => Yd E q y H ∧ Yd E q2 d H)) (QcRead r) 0 0 (fun _ => False) := by
  refine Mb (by decide) (Nat.le_of_ble_eq_true rfl) ?_
  intro p e s m below meth c ls hx hb hr hlk hB hown hml _ hK hw hl
  have hl : lv_has ls 6 [(0, .ref (q 0)), (1, .int a1), (2, .int a2), (3, .ref (q2 0))] := hl
  rw [fX3_isLowestOfRing] at h
  have hL12 : ∀ (n_12 : Nat) (v1_12 : Int32) (v2_12 : Int32) (v4_12 : Int32) (v5_12 : Int32) (ls_12 : Array Slot), lv_has ls_12 6 [(0, .ref (q 0)), (1, .int v1_12), (2, .int v2_12), (3, .ref (q2 0)), (4, .int v4_12), (5, .int v5_12)] → fX3_isLowestOfRing_L12 y d v1_12 v2_12 n_12 v4_12 v5_12 = some r → W p l e rmX3_isLowestOfRing s m ([.ref (q 0), .int a1, .int a2, .ref (q2 0)] : List Value).toArray below meth c s.heap [] 0 0 (MQ below (QcRead r) ([.ref (q 0), .int a1, .int a2, .ref (q2 0)] : List Value).toArray s 0 0 (fun _ => False)) (F0 m 12 ls_12 []) := by
    intro n_12
    induction n_12 with
    | zero =>
      intro v1_12 v2_12 v4_12 v5_12 ls_12 hl h
      exact nn h
    | succ n_12 ih_12 =>
      intro v1_12 v2_12 v4_12 v5_12 ls_12 hl h
      rw [fX3_isLowestOfRing_L12] at h
      refine lv_iload hx hb dX3_isLowestOfRing_12 (lv_at hl 5 rfl) ?_
      refine lv_aload_n hx hb dX3_isLowestOfRing_14 rfl (lv_at hl 0 rfl) ?_
      refine gX3_33 hx hb hB hown hK hw.1 dX3_isLowestOfRing_15 ?_
      refine lv_icmp_ge (tgt := 43) hx hb dX3_isLowestOfRing_18 (by decide) (fun g1 => ?_) (fun g1 => ?_)
      · rw [if_pos g1] at h
        refine lv_iload hx hb dX3_isLowestOfRing_43 (lv_at hl 4 rfl) ?_
        refine lv_iload_n hx hb dX3_isLowestOfRing_45 rfl (lv_at hl 2 rfl) ?_
        refine lv_icmp_ne (tgt := 53) hx hb dX3_isLowestOfRing_46 (by decide) (fun g2 => ?_) (fun g2 => ?_)
        · rw [if_neg g2] at h
          refine lv_iconst (v := 0) hx hb dX3_isLowestOfRing_53 (by decide) ?_
          exact e_zR hx hb hr hlk (by decide) h dX3_isLowestOfRing_54
        · rw [if_pos g2] at h
          refine lv_iconst (v := 1) hx hb dX3_isLowestOfRing_49 (by decide) ?_
          refine lv_goto (tgt := 54) hx hb dX3_isLowestOfRing_50 (by decide) ?_
          exact e_zR hx hb hr hlk (by decide) h dX3_isLowestOfRing_54
      · rw [if_neg g1] at h
        refine lv_iload hx hb dX3_isLowestOfRing_21 (lv_at hl 4 rfl) ?_
        refine lv_iload_n hx hb dX3_isLowestOfRing_23 rfl (lv_at hl 2 rfl) ?_
        refine lv_icmp_le (tgt := 43) hx hb dX3_isLowestOfRing_24 (by decide) (fun g3 => ?_) (fun g3 => ?_)
        · rw [if_pos g3] at h
          refine lv_iload hx hb dX3_isLowestOfRing_43 (lv_at hl 4 rfl) ?_
          refine lv_iload_n hx hb dX3_isLowestOfRing_45 rfl (lv_at hl 2 rfl) ?_
          refine lv_icmp_ne (tgt := 53) hx hb dX3_isLowestOfRing_46 (by decide) (fun g4 => ?_) (fun g4 => ?_)
          · rw [if_neg g4] at h
            refine lv_iconst (v := 0) hx hb dX3_isLowestOfRing_53 (by decide) ?_
            exact e_zR hx hb hr hlk (by decide) h dX3_isLowestOfRing_54
          · rw [if_pos g4] at h
            refine lv_iconst (v := 1) hx hb dX3_isLowestOfRing_49 (by decide) ?_
            refine lv_goto (tgt := 54) hx hb dX3_isLowestOfRing_50 (by decide) ?_
            exact e_zR hx hb hr hlk (by decide) h dX3_isLowestOfRing_54
        · rw [if_neg g3] at h
          refine lv_aload_n hx hb dX3_isLowestOfRing_27 rfl (lv_at hl 0 rfl) ?_
          refine lv_iload_n hx hb dX3_isLowestOfRing_28 rfl (lv_at hl 1 rfl) ?_
          refine lv_iload hx hb dX3_isLowestOfRing_29 (lv_at hl 4 rfl) ?_
          refine lv_aload_n hx hb dX3_isLowestOfRing_31 rfl (lv_at hl 3 rfl) ?_
          obtain ⟨r5, e5, h⟩ := ob h
          refine k_VR ⟨hx, hb, hml, hown, hB⟩ (c_X3_goalOf l E q q2 y d v1_12 v4_12 r5 e5) (clX3_99 hB rfl rfl ⟨Nat.le_of_ble_eq_true rfl, Nat.le_of_ble_eq_true rfl⟩) hK ⟨hw.1, hw.2⟩ (rvY hK hw.1) rfl hl.1 rfl (Nat.le_of_ble_eq_true rfl) dX3_isLowestOfRing_32 ⟨Nat.zero_le _, Nat.zero_le _⟩ ?_
          refine lv_istore (lv' := [(4, .int r5), (0, .ref (q 0)), (1, .int v1_12), (2, .int v2_12), (3, .ref (q2 0)), (5, .int v5_12)]) hx hb dX3_isLowestOfRing_35 hl (by decide) rfl (fun ls hl => ?_)
          refine lv_iinc (v := (v5_12 + 1)) (lv' := [(5, .int (v5_12 + 1)), (4, .int r5), (0, .ref (q 0)), (1, .int v1_12), (2, .int v2_12), (3, .ref (q2 0))]) hx hb dX3_isLowestOfRing_37 hl (k := 5) rfl rfl (by decide) rfl (fun ls hl => ?_)
          refine lv_goto (tgt := 12) hx hb dX3_isLowestOfRing_40 (by decide) ?_
          exact ih_12 v1_12 v2_12 r5 (v5_12 + 1) _ (lv_sub hl [2, 3, 4, 5, 1, 0] rfl) h
  refine lv_aload_n hx hb dX3_isLowestOfRing_0 rfl (lv_at hl 0 rfl) ?_
  refine lv_iload_n hx hb dX3_isLowestOfRing_1 rfl (lv_at hl 1 rfl) ?_
  refine lv_iload_n hx hb dX3_isLowestOfRing_2 rfl (lv_at hl 2 rfl) ?_
  refine lv_aload_n hx hb dX3_isLowestOfRing_3 rfl (lv_at hl 3 rfl) ?_
  obtain ⟨r6, e6, h⟩ := ob h
  refine k_VR ⟨hx, hb, hml, hown, hB⟩ (c_X3_goalOf l E q q2 y d a1 a2 r6 e6) (clX3_99 hB rfl rfl ⟨Nat.le_of_ble_eq_true rfl, Nat.le_of_ble_eq_true rfl⟩) hK ⟨hw.1, hw.2⟩ (rvY hK hw.1) rfl hl.1 rfl (Nat.le_of_ble_eq_true rfl) dX3_isLowestOfRing_4 ⟨Nat.zero_le _, Nat.zero_le _⟩ ?_
  refine lv_istore (lv' := [(4, .int r6), (0, .ref (q 0)), (1, .int a1), (2, .int a2), (3, .ref (q2 0))]) hx hb dX3_isLowestOfRing_7 hl (by decide) rfl (fun ls hl => ?_)
  refine lv_iconst (v := 0) hx hb dX3_isLowestOfRing_9 (by decide) ?_
  refine lv_istore (lv' := [(5, .int 0), (4, .int r6), (0, .ref (q 0)), (1, .int a1), (2, .int a2), (3, .ref (q2 0))]) hx hb dX3_isLowestOfRing_10 hl (by decide) rfl (fun ls hl => ?_)
  exact hL12 FU a1 a2 r6 0 _ (lv_sub hl [2, 3, 4, 5, 1, 0] rfl) h
def fX3_fewestChanges_L17 (y : OS) (d : OS) (v1_17 : Int32) : Nat → Int32 → Int32 → Option (Int32)
  | 0, _, _ => none
  | n_17 + 1, v3_17, v4_17 => if (y 0 0) ≤ v4_17 then some v3_17 else (fX3_goalOf y d v1_17 v4_17).bind (fun r2 => (if r2 = (-4) then fX3_fewestChanges_L17 y d v1_17 n_17 v3_17 (v4_17 + 1) else if r2 = v4_17 then fX3_fewestChanges_L17 y d v1_17 n_17 v3_17 (v4_17 + 1) else (fX3_isLowestOfRing y d v1_17 v4_17).bind (fun r5 => (if r5 = 0 then fX3_fewestChanges_L17 y d v1_17 n_17 (v3_17 + 1) (v4_17 + 1) else fX3_fewestChanges_L17 y d v1_17 n_17 v3_17 (v4_17 + 1)))))
def fX3_fewestChanges (y : OS) (d : OS) (a1 : Int32) : Option (Int32) := (fX3_sameLie y d a1).bind (fun r7 => (if r7 = 0 then some (-4) else fX3_fewestChanges_L17 y d a1 FU 0 0))
abbrev rmX3_fewestChanges : Room := { frames := 4, cells := 0, slots := 0, locals := 95 }
set_option maxHeartbeats 4000000 in
set_option maxRecDepth 100000 in
theorem c_X3_fewestChanges (l : Launch) (E : En) (q : Nat → Nat) (q2 : Nat → Nat) (y : OS) (d : OS) (a1 : Int32) (r : Int32) (h : fX3_fewestChanges y d a1 = some r) : Met l yX3_fewestChanges (kX3_fewestChanges :: BIG) rmX3_fewestChanges (Pk E [.ref (q 0), .int a1, .ref (q2 0)] (fun H => Yd E q y H ∧ Yd E q2 d H)) (QcRead r) 0 0 (fun _ => False) := by
  refine Mb (by decide) (Nat.le_of_ble_eq_true rfl) ?_
  intro p e s m below meth c ls hx hb hr hlk hB hown hml _ hK hw hl
  have hl : lv_has ls 6 [(0, .ref (q 0)), (1, .int a1), (2, .ref (q2 0))] := hl
  rw [fX3_fewestChanges] at h
  have hL17 : ∀ (n_17 : Nat) (v1_17 : Int32) (v3_17 : Int32) (v4_17 : Int32) (ls_17 : Array Slot), lv_has ls_17 6 [(0, .ref (q 0)), (1, .int v1_17), (2, .ref (q2 0)), (3, .int v3_17), (4, .int v4_17)] → fX3_fewestChanges_L17 y d v1_17 n_17 v3_17 v4_17 = some r → W p l e rmX3_fewestChanges s m ([.ref (q 0), .int a1, .ref (q2 0)] : List Value).toArray below meth c s.heap [] 0 0 (MQ below (QcRead r) ([.ref (q 0), .int a1, .ref (q2 0)] : List Value).toArray s 0 0 (fun _ => False)) (F0 m 17 ls_17 []) := by
    intro n_17
    induction n_17 with
    | zero =>
      intro v1_17 v3_17 v4_17 ls_17 hl h
      exact nn h
    | succ n_17 ih_17 =>
      intro v1_17 v3_17 v4_17 ls_17 hl h
      rw [fX3_fewestChanges_L17] at h
      refine lv_iload hx hb dX3_fewestChanges_17 (lv_at hl 4 rfl) ?_
      refine lv_aload_n hx hb dX3_fewestChanges_19 rfl (lv_at hl 0 rfl) ?_
      refine gX3_33 hx hb hB hown hK hw.1 dX3_fewestChanges_20 ?_
      refine lv_icmp_ge (tgt := 70) hx hb dX3_fewestChanges_23 (by decide) (fun g1 => ?_) (fun g1 => ?_)
      · rw [if_pos g1] at h
        refine lv_iload_n hx hb dX3_fewestChanges_70 rfl (lv_at hl 3 rfl) ?_
        exact e_zR hx hb hr hlk rfl h dX3_fewestChanges_71
      · rw [if_neg g1] at h
        refine lv_aload_n hx hb dX3_fewestChanges_26 rfl (lv_at hl 0 rfl) ?_
        refine lv_iload_n hx hb dX3_fewestChanges_27 rfl (lv_at hl 1 rfl) ?_
        refine lv_iload hx hb dX3_fewestChanges_28 (lv_at hl 4 rfl) ?_
        refine lv_aload_n hx hb dX3_fewestChanges_30 rfl (lv_at hl 2 rfl) ?_
        obtain ⟨r2, e2, h⟩ := ob h
        refine k_VR ⟨hx, hb, hml, hown, hB⟩ (c_X3_goalOf l E q q2 y d v1_17 v4_17 r2 e2) (clX3_99 hB rfl rfl ⟨Nat.le_of_ble_eq_true rfl, Nat.le_of_ble_eq_true rfl⟩) hK ⟨hw.1, hw.2⟩ (rvY hK hw.1) rfl hl.1 rfl (Nat.le_of_ble_eq_true rfl) dX3_fewestChanges_31 ⟨Nat.zero_le _, Nat.zero_le _⟩ ?_
        refine lv_istore (lv' := [(5, .int r2), (0, .ref (q 0)), (1, .int v1_17), (2, .ref (q2 0)), (3, .int v3_17), (4, .int v4_17)]) hx hb dX3_fewestChanges_34 hl (by decide) rfl (fun ls hl => ?_)
        refine lv_iload hx hb dX3_fewestChanges_36 (lv_at hl 0 rfl) ?_
        refine lv_bipush (v := (-4)) hx hb dX3_fewestChanges_38 (by decide) ?_
        refine lv_icmp_eq (tgt := 64) hx hb dX3_fewestChanges_40 (by decide) (fun g3 => ?_) (fun g3 => ?_)
        · rw [if_pos g3] at h
          refine lv_iinc (v := (v4_17 + 1)) (lv' := [(4, .int (v4_17 + 1)), (5, .int r2), (0, .ref (q 0)), (1, .int v1_17), (2, .ref (q2 0)), (3, .int v3_17)]) hx hb dX3_fewestChanges_64 hl (k := 5) rfl rfl (by decide) rfl (fun ls hl => ?_)
          refine lv_goto (tgt := 17) hx hb dX3_fewestChanges_67 (by decide) ?_
          exact ih_17 v1_17 v3_17 (v4_17 + 1) _ (lv_sub hl [2, 3, 4, 5, 0] rfl) h
        · rw [if_neg g3] at h
          refine lv_iload hx hb dX3_fewestChanges_43 (lv_at hl 0 rfl) ?_
          refine lv_iload hx hb dX3_fewestChanges_45 (lv_at hl 5 rfl) ?_
          refine lv_icmp_eq (tgt := 64) hx hb dX3_fewestChanges_47 (by decide) (fun g4 => ?_) (fun g4 => ?_)
          · rw [if_pos g4] at h
            refine lv_iinc (v := (v4_17 + 1)) (lv' := [(4, .int (v4_17 + 1)), (5, .int r2), (0, .ref (q 0)), (1, .int v1_17), (2, .ref (q2 0)), (3, .int v3_17)]) hx hb dX3_fewestChanges_64 hl (k := 5) rfl rfl (by decide) rfl (fun ls hl => ?_)
            refine lv_goto (tgt := 17) hx hb dX3_fewestChanges_67 (by decide) ?_
            exact ih_17 v1_17 v3_17 (v4_17 + 1) _ (lv_sub hl [2, 3, 4, 5, 0] rfl) h
          · rw [if_neg g4] at h
            refine lv_aload_n hx hb dX3_fewestChanges_50 rfl (lv_at hl 1 rfl) ?_
            refine lv_iload_n hx hb dX3_fewestChanges_51 rfl (lv_at hl 2 rfl) ?_
            refine lv_iload hx hb dX3_fewestChanges_52 (lv_at hl 5 rfl) ?_
            refine lv_aload_n hx hb dX3_fewestChanges_54 rfl (lv_at hl 3 rfl) ?_
            obtain ⟨r5, e5, h⟩ := ob h
            refine k_VR ⟨hx, hb, hml, hown, hB⟩ (c_X3_isLowestOfRing l E q q2 y d v1_17 v4_17 r5 e5) (clX3_103 hB rfl rfl ⟨Nat.le_of_ble_eq_true rfl, Nat.le_of_ble_eq_true rfl⟩) hK ⟨hw.1, hw.2⟩ (rvY hK hw.1) rfl hl.1 rfl (Nat.le_of_ble_eq_true rfl) dX3_fewestChanges_55 ⟨Nat.zero_le _, Nat.zero_le _⟩ ?_
            refine lv_if_ne (tgt := 64) hx hb dX3_fewestChanges_58 (by decide) (fun g6 => ?_) (fun g6 => ?_)
            · rw [if_neg g6] at h
              refine lv_iinc (v := (v4_17 + 1)) (lv' := [(4, .int (v4_17 + 1)), (5, .int r2), (0, .ref (q 0)), (1, .int v1_17), (2, .ref (q2 0)), (3, .int v3_17)]) hx hb dX3_fewestChanges_64 hl (k := 5) rfl rfl (by decide) rfl (fun ls hl => ?_)
              refine lv_goto (tgt := 17) hx hb dX3_fewestChanges_67 (by decide) ?_
              exact ih_17 v1_17 v3_17 (v4_17 + 1) _ (lv_sub hl [2, 3, 4, 5, 0] rfl) h
            · rw [if_pos g6] at h
              refine lv_iinc (v := (v3_17 + 1)) (lv' := [(3, .int (v3_17 + 1)), (5, .int r2), (0, .ref (q 0)), (1, .int v1_17), (2, .ref (q2 0)), (4, .int v4_17)]) hx hb dX3_fewestChanges_61 hl (k := 4) rfl rfl (by decide) rfl (fun ls hl => ?_)
              refine lv_iinc (v := (v4_17 + 1)) (lv' := [(4, .int (v4_17 + 1)), (3, .int (v3_17 + 1)), (5, .int r2), (0, .ref (q 0)), (1, .int v1_17), (2, .ref (q2 0))]) hx hb dX3_fewestChanges_64 hl (k := 5) rfl rfl (by decide) rfl (fun ls hl => ?_)
              refine lv_goto (tgt := 17) hx hb dX3_fewestChanges_67 (by decide) ?_
              exact ih_17 v1_17 (v3_17 + 1) (v4_17 + 1) _ (lv_sub hl [3, 4, 5, 1, 0] rfl) h
  refine lv_aload_n hx hb dX3_fewestChanges_0 rfl (lv_at hl 0 rfl) ?_
  refine lv_iload_n hx hb dX3_fewestChanges_1 rfl (lv_at hl 1 rfl) ?_
  refine lv_aload_n hx hb dX3_fewestChanges_2 rfl (lv_at hl 2 rfl) ?_
  obtain ⟨r7, e7, h⟩ := ob h
  refine k_VR ⟨hx, hb, hml, hown, hB⟩ (c_X3_sameLie l E q q2 y d a1 r7 e7) (clX3_95 hB rfl rfl ⟨Nat.le_of_ble_eq_true rfl, Nat.le_of_ble_eq_true rfl⟩) hK ⟨hw.1, hw.2⟩ (rvY hK hw.1) rfl hl.1 rfl (Nat.le_of_ble_eq_true rfl) dX3_fewestChanges_3 ⟨Nat.zero_le _, Nat.zero_le _⟩ ?_
  refine lv_if_ne (tgt := 12) hx hb dX3_fewestChanges_6 (by decide) (fun g8 => ?_) (fun g8 => ?_)
  · rw [if_neg g8] at h
    refine lv_iconst (v := 0) hx hb dX3_fewestChanges_12 (by decide) ?_
    refine lv_istore_n (lv' := [(3, .int 0), (0, .ref (q 0)), (1, .int a1), (2, .ref (q2 0))]) hx hb dX3_fewestChanges_13 rfl hl (by decide) rfl (fun ls hl => ?_)
    refine lv_iconst (v := 0) hx hb dX3_fewestChanges_14 (by decide) ?_
    refine lv_istore (lv' := [(4, .int 0), (3, .int 0), (0, .ref (q 0)), (1, .int a1), (2, .ref (q2 0))]) hx hb dX3_fewestChanges_15 hl (by decide) rfl (fun ls hl => ?_)
    exact hL17 FU a1 0 0 _ (lv_sub hl [2, 3, 4, 1, 0] rfl) h
  · rw [if_pos g8] at h
    refine lv_bipush (v := (-4)) hx hb dX3_fewestChanges_9 (by decide) ?_
    exact e_zR hx hb hr hlk rfl h dX3_fewestChanges_11
def fX4_passWinter (y : OS) (a2 : Int32) : Option (OS) := if 12 ≤ (y 0 2) then if (y 0 0) ≤ 0 then some (y) else gB (nz (y 0 0)) (gB (nz (y 0 0)) ((fX3_swap y ((a2 / 64) - (a2 / 64) / 2 * 2) ((a2 / 16) - (a2 / 16) / (y 0 0) * (y 0 0)) ((a2 / 32) - (a2 / 32) / (y 0 0) * (y 0 0))).bind (fun r5 => (some (r5))))) else (fX3_addDead y (a2 - a2 / 2 * 2) ((a2 / 2) - (a2 / 2) / 4 * 4) ((a2 / 8) - (a2 / 8) / 10 * 10)).bind (fun r7 => (if (r7.2 0 0) ≤ 0 then some (r7.2) else gB (nz (r7.2 0 0)) (gB (nz (r7.2 0 0)) ((fX3_swap r7.2 ((a2 / 64) - (a2 / 64) / 2 * 2) ((a2 / 16) - (a2 / 16) / (r7.2 0 0) * (r7.2 0 0)) ((a2 / 32) - (a2 / 32) / (r7.2 0 0) * (r7.2 0 0))).bind (fun r12 => (some (r12)))))))
abbrev rmX4_passWinter : Room := { frames := 4, cells := 0, slots := 0, locals := 98 }
set_option maxHeartbeats 4000000 in
set_option maxRecDepth 100000 in
theorem c_X4_passWinter (l : Launch) (E : En) (q : Nat → Nat) (y : OS) (a2 : Int32) (r : OS) (h : fX4_passWinter y a2 = some r) : Met l yX4_passWinter (kX4_passWinter :: BIG) rmX4_passWinter (Pk E [.ref (q 0), .int a2] (Yd E q y)) (QW none (AY q) (Yd E q r)) 0 0 (AY q) := by
  refine Mb (by decide) (Nat.le_of_ble_eq_true rfl) ?_
  intro p e s m below meth c ls hx hb hr hlk hB hown hml _ hK hw hl
  have hS : va_S (AY q) s.heap s.heap [] := va_S.rf
  have hl : lv_has ls 3 [(0, .ref (q 0)), (1, .int a2)] := hl
  rw [fX4_passWinter] at h
  refine lv_aload_n hx hb dX4_passWinter_0 rfl (lv_at hl 0 rfl) ?_
  refine gX4_78 hx hb hB hown hK hw dX4_passWinter_1 ?_
  refine lv_bipush (v := 12) hx hb dX4_passWinter_4 (by decide) ?_
  refine lv_icmp_ge (tgt := 29) hx hb dX4_passWinter_6 (by decide) (fun g1 => ?_) (fun g1 => ?_)
  · rw [if_pos g1] at h
    refine lv_aload_n hx hb dX4_passWinter_29 rfl (lv_at hl 0 rfl) ?_
    refine gX4_236 hx hb hB hown hK hw dX4_passWinter_30 ?_
    refine lv_istore_n (lv' := [(2, .int (y 0 0)), (0, .ref (q 0)), (1, .int a2)]) hx hb dX4_passWinter_33 rfl hl (by decide) rfl (fun ls hl => ?_)
    refine lv_iload_n hx hb dX4_passWinter_34 rfl (lv_at hl 0 rfl) ?_
    refine lv_if_le (tgt := 60) hx hb dX4_passWinter_35 (by decide) (fun g2 => ?_) (fun g2 => ?_)
    · rw [if_pos g2] at h
      cases h
      exact e_vW hx hb hr hlk hw hS dX4_passWinter_60
    · rw [if_neg g2] at h
      refine lv_aload_n hx hb dX4_passWinter_38 rfl (lv_at hl 1 rfl) ?_
      refine lv_iload_n hx hb dX4_passWinter_39 rfl (lv_at hl 2 rfl) ?_
      refine lv_bipush (v := 64) hx hb dX4_passWinter_40 (by decide) ?_
      refine lv_idiv hx hb dX4_passWinter_42 (by decide) ?_
      refine lv_iconst (v := 2) hx hb dX4_passWinter_43 (by decide) ?_
      refine lv_irem hx hb dX4_passWinter_44 (by decide) ?_
      refine lv_iload_n hx hb dX4_passWinter_45 rfl (lv_at hl 2 rfl) ?_
      refine lv_bipush (v := 16) hx hb dX4_passWinter_46 (by decide) ?_
      refine lv_idiv hx hb dX4_passWinter_48 (by decide) ?_
      refine lv_iload_n hx hb dX4_passWinter_49 rfl (lv_at hl 0 rfl) ?_
      obtain ⟨g3, h⟩ := gB_ok h
      refine lv_irem hx hb dX4_passWinter_50 (nz_ok g3) ?_
      refine lv_iload_n hx hb dX4_passWinter_51 rfl (lv_at hl 2 rfl) ?_
      refine lv_bipush (v := 32) hx hb dX4_passWinter_52 (by decide) ?_
      refine lv_idiv hx hb dX4_passWinter_54 (by decide) ?_
      refine lv_iload_n hx hb dX4_passWinter_55 rfl (lv_at hl 0 rfl) ?_
      obtain ⟨g4, h⟩ := gB_ok h
      refine lv_irem hx hb dX4_passWinter_56 (nz_ok g4) ?_
      obtain ⟨r5, e5, h⟩ := ob h
      refine k_VWv ⟨hx, hb, hml, hown, hB⟩ (c_X3_swap l E q y ((a2 / 64) - (a2 / 64) / 2 * 2) ((a2 / 16) - (a2 / 16) / (y 0 0) * (y 0 0)) ((a2 / 32) - (a2 / 32) / (y 0 0) * (y 0 0)) r5 e5) (clX4_141 hB rfl rfl ⟨Nat.le_of_ble_eq_true rfl, Nat.le_of_ble_eq_true rfl⟩) hK hw (rvY hK hw) rfl hl.1 rfl (Nat.le_of_ble_eq_true rfl) dX4_passWinter_57 ⟨Nat.zero_le _, Nat.zero_le _⟩ hS (fun _ z => z) (fun H6 L6 hw _ _ hS => ?_)
      cases h
      exact e_vW hx hb hr hlk hw hS dX4_passWinter_60
  · rw [if_neg g1] at h
    refine lv_aload_n hx hb dX4_passWinter_9 rfl (lv_at hl 0 rfl) ?_
    refine lv_iload_n hx hb dX4_passWinter_10 rfl (lv_at hl 1 rfl) ?_
    refine lv_iconst (v := 2) hx hb dX4_passWinter_11 (by decide) ?_
    refine lv_irem hx hb dX4_passWinter_12 (by decide) ?_
    refine lv_iload_n hx hb dX4_passWinter_13 rfl (lv_at hl 1 rfl) ?_
    refine lv_iconst (v := 2) hx hb dX4_passWinter_14 (by decide) ?_
    refine lv_idiv hx hb dX4_passWinter_15 (by decide) ?_
    refine lv_iconst (v := 4) hx hb dX4_passWinter_16 (by decide) ?_
    refine lv_irem hx hb dX4_passWinter_17 (by decide) ?_
    refine lv_iload_n hx hb dX4_passWinter_18 rfl (lv_at hl 1 rfl) ?_
    refine lv_bipush (v := 8) hx hb dX4_passWinter_19 (by decide) ?_
    refine lv_idiv hx hb dX4_passWinter_21 (by decide) ?_
    refine lv_bipush (v := 10) hx hb dX4_passWinter_22 (by decide) ?_
    refine lv_irem hx hb dX4_passWinter_24 (by decide) ?_
    obtain ⟨r7, e7, h⟩ := ob h
    refine k_VWi ⟨hx, hb, hml, hown, hB⟩ (c_X3_addDead l E q y (a2 - a2 / 2 * 2) ((a2 / 2) - (a2 / 2) / 4 * 4) ((a2 / 8) - (a2 / 8) / 10 * 10) r7 e7) (clX4_137 hB rfl rfl ⟨Nat.le_of_ble_eq_true rfl, Nat.le_of_ble_eq_true rfl⟩) hK hw (rvY hK hw) rfl hl.1 rfl (Nat.le_of_ble_eq_true rfl) dX4_passWinter_25 ⟨Nat.zero_le _, Nat.zero_le _⟩ hS (fun _ z => z) (fun H8 L8 hw _ _ hS => ?_)
    refine lv_pop hx hb dX4_passWinter_28 rfl ?_
    refine lv_aload_n hx hb dX4_passWinter_29 rfl (lv_at hl 0 rfl) ?_
    refine gX4_236 hx hb hB hown hK hw dX4_passWinter_30 ?_
    refine lv_istore_n (lv' := [(2, .int (r7.2 0 0)), (0, .ref (q 0)), (1, .int a2)]) hx hb dX4_passWinter_33 rfl hl (by decide) rfl (fun ls hl => ?_)
    refine lv_iload_n hx hb dX4_passWinter_34 rfl (lv_at hl 0 rfl) ?_
    refine lv_if_le (tgt := 60) hx hb dX4_passWinter_35 (by decide) (fun g9 => ?_) (fun g9 => ?_)
    · rw [if_pos g9] at h
      cases h
      exact e_vW hx hb hr hlk hw hS dX4_passWinter_60
    · rw [if_neg g9] at h
      refine lv_aload_n hx hb dX4_passWinter_38 rfl (lv_at hl 1 rfl) ?_
      refine lv_iload_n hx hb dX4_passWinter_39 rfl (lv_at hl 2 rfl) ?_
      refine lv_bipush (v := 64) hx hb dX4_passWinter_40 (by decide) ?_
      refine lv_idiv hx hb dX4_passWinter_42 (by decide) ?_
      refine lv_iconst (v := 2) hx hb dX4_passWinter_43 (by decide) ?_
      refine lv_irem hx hb dX4_passWinter_44 (by decide) ?_
      refine lv_iload_n hx hb dX4_passWinter_45 rfl (lv_at hl 2 rfl) ?_
      refine lv_bipush (v := 16) hx hb dX4_passWinter_46 (by decide) ?_
      refine lv_idiv hx hb dX4_passWinter_48 (by decide) ?_
      refine lv_iload_n hx hb dX4_passWinter_49 rfl (lv_at hl 0 rfl) ?_
      obtain ⟨g10, h⟩ := gB_ok h
      refine lv_irem hx hb dX4_passWinter_50 (nz_ok g10) ?_
      refine lv_iload_n hx hb dX4_passWinter_51 rfl (lv_at hl 2 rfl) ?_
      refine lv_bipush (v := 32) hx hb dX4_passWinter_52 (by decide) ?_
      refine lv_idiv hx hb dX4_passWinter_54 (by decide) ?_
      refine lv_iload_n hx hb dX4_passWinter_55 rfl (lv_at hl 0 rfl) ?_
      obtain ⟨g11, h⟩ := gB_ok h
      refine lv_irem hx hb dX4_passWinter_56 (nz_ok g11) ?_
      obtain ⟨r12, e12, h⟩ := ob h
      refine k_VWv ⟨hx, hb, hml, hown, hB⟩ (c_X3_swap l E q r7.2 ((a2 / 64) - (a2 / 64) / 2 * 2) ((a2 / 16) - (a2 / 16) / (r7.2 0 0) * (r7.2 0 0)) ((a2 / 32) - (a2 / 32) / (r7.2 0 0) * (r7.2 0 0)) r12 e12) (clX4_141 hB rfl rfl ⟨Nat.le_of_ble_eq_true rfl, Nat.le_of_ble_eq_true rfl⟩) hK hw (rvY hK hw) rfl hl.1 rfl (Nat.le_of_ble_eq_true rfl) dX4_passWinter_57 ⟨Nat.zero_le _, Nat.zero_le _⟩ hS (fun _ z => z) (fun H13 L13 hw _ _ hS => ?_)
      cases h
      exact e_vW hx hb hr hlk hw hS dX4_passWinter_60
