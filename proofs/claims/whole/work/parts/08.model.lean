def fX5_tellsDead (S : OS) (a1 : Int32) (a2 : Int32) (a3 : Int32) : Option (OS) := gB (ib (1 + (3 * (S 7 (0 : Int32).toNatClampNeg))) 66) (gB (ib ((1 + (3 * (S 7 (0 : Int32).toNatClampNeg))) + 1) 66) (gB (ib ((1 + (3 * (S 7 (0 : Int32).toNatClampNeg))) + 2) 66) (some ((u2 (u2 (u2 (u2 S 7 (1 + (3 * (S 7 (0 : Int32).toNatClampNeg))).toNatClampNeg a1) 7 ((1 + (3 * (S 7 (0 : Int32).toNatClampNeg))) + 1).toNatClampNeg a2) 7 ((1 + (3 * (S 7 (0 : Int32).toNatClampNeg))) + 2).toNatClampNeg a3) 7 (0 : Int32).toNatClampNeg (((u2 (u2 (u2 S 7 (1 + (3 * (S 7 (0 : Int32).toNatClampNeg))).toNatClampNeg a1) 7 ((1 + (3 * (S 7 (0 : Int32).toNatClampNeg))) + 1).toNatClampNeg a2) 7 ((1 + (3 * (S 7 (0 : Int32).toNatClampNeg))) + 2).toNatClampNeg a3) 7 (0 : Int32).toNatClampNeg) + 1))))))
abbrev rmX5_tellsDead : Room := { frames := 0, cells := 0, slots := 0, locals := 0 }
set_option maxHeartbeats 4000000 in
set_option maxRecDepth 100000 in
theorem c_X5_tellsDead (l : Launch) (E : En) (am : Nat → Nat) (S : OS) (a1 : Int32) (a2 : Int32) (a3 : Int32) (r : OS) (h : fX5_tellsDead S a1 a2 a3 = some r) : Met l yX5_tellsDead (kX5_tellsDead :: BIG) rmX5_tellsDead (Pk E [.ref (am 0), .int a1, .int a2, .int a3] (MW E am S)) (QW none (AM am) (MW E am r)) 0 0 (AM am) := by
  refine Mb (by decide) (Nat.le_of_ble_eq_true rfl) ?_
  intro p e s m below meth c ls hx hb hr hlk hB hown hml _ hK hw hl
  have hS : va_S (AM am) s.heap s.heap [] := va_S.rf
  have hl : lv_has ls 5 [(0, .ref (am 0)), (1, .int a1), (2, .int a2), (3, .int a3)] := hl
  rw [fX5_tellsDead] at h
  refine lv_iconst (v := 1) hx hb dX5_tellsDead_0 (by decide) ?_
  refine lv_iconst (v := 3) hx hb dX5_tellsDead_1 (by decide) ?_
  refine lv_aload_n hx hb dX5_tellsDead_2 rfl (lv_at hl 0 rfl) ?_
  refine gX5_28 hx hb hB hown hK hw dX5_tellsDead_3 ?_
  refine lv_iconst (v := 0) hx hb dX5_tellsDead_6 (by decide) ?_
  refine lM hx hb hK hw (by decide) (by decide) (ib_ok (by decide)) dX5_tellsDead_7 ?_
  refine lv_imul hx hb dX5_tellsDead_8 ?_
  refine lv_iadd hx hb dX5_tellsDead_9 ?_
  refine lv_istore (lv' := [(4, .int (1 + (3 * (S 7 (0 : Int32).toNatClampNeg)))), (0, .ref (am 0)), (1, .int a1), (2, .int a2), (3, .int a3)]) hx hb dX5_tellsDead_10 hl (by decide) rfl (fun ls hl => ?_)
  refine lv_aload_n hx hb dX5_tellsDead_12 rfl (lv_at hl 1 rfl) ?_
  refine gX5_28 hx hb hB hown hK hw dX5_tellsDead_13 ?_
  refine lv_iload hx hb dX5_tellsDead_16 (lv_at hl 0 rfl) ?_
  refine lv_iload_n hx hb dX5_tellsDead_18 rfl (lv_at hl 2 rfl) ?_
  obtain ⟨g1, h⟩ := gB_ok h
  refine sM hx hb hK hw hS (fun _ z => z) (by decide) (by decide) (ib_ok g1) dX5_tellsDead_19 (fun H2 L2 hw hS => ?_)
  refine lv_aload_n hx hb dX5_tellsDead_20 rfl (lv_at hl 1 rfl) ?_
  refine gX5_28 hx hb hB hown hK hw dX5_tellsDead_21 ?_
  refine lv_iload hx hb dX5_tellsDead_24 (lv_at hl 0 rfl) ?_
  refine lv_iconst (v := 1) hx hb dX5_tellsDead_26 (by decide) ?_
  refine lv_iadd hx hb dX5_tellsDead_27 ?_
  refine lv_iload_n hx hb dX5_tellsDead_28 rfl (lv_at hl 3 rfl) ?_
  obtain ⟨g3, h⟩ := gB_ok h
  refine sM hx hb hK hw hS (fun _ z => z) (by decide) (by decide) (ib_ok g3) dX5_tellsDead_29 (fun H4 L4 hw hS => ?_)
  refine lv_aload_n hx hb dX5_tellsDead_30 rfl (lv_at hl 1 rfl) ?_
  refine gX5_28 hx hb hB hown hK hw dX5_tellsDead_31 ?_
  refine lv_iload hx hb dX5_tellsDead_34 (lv_at hl 0 rfl) ?_
  refine lv_iconst (v := 2) hx hb dX5_tellsDead_36 (by decide) ?_
  refine lv_iadd hx hb dX5_tellsDead_37 ?_
  refine lv_iload_n hx hb dX5_tellsDead_38 rfl (lv_at hl 4 rfl) ?_
  obtain ⟨g5, h⟩ := gB_ok h
  refine sM hx hb hK hw hS (fun _ z => z) (by decide) (by decide) (ib_ok g5) dX5_tellsDead_39 (fun H6 L6 hw hS => ?_)
  refine lv_aload_n hx hb dX5_tellsDead_40 rfl (lv_at hl 1 rfl) ?_
  refine gX5_28 hx hb hB hown hK hw dX5_tellsDead_41 ?_
  refine lv_iconst (v := 0) hx hb dX5_tellsDead_44 (by decide) ?_
  refine lv_dup2_11 hx hb dX5_tellsDead_45 rfl rfl ?_
  refine lM hx hb hK hw (by decide) (by decide) (ib_ok (by decide)) dX5_tellsDead_46 ?_
  refine lv_iconst (v := 1) hx hb dX5_tellsDead_47 (by decide) ?_
  refine lv_iadd hx hb dX5_tellsDead_48 ?_
  refine sM hx hb hK hw hS (fun _ z => z) (by decide) (by decide) (ib_ok (by decide)) dX5_tellsDead_49 (fun H7 L7 hw hS => ?_)
  cases h
  exact e_vW hx hb hr hlk hw hS dX5_tellsDead_50
def fX5_tellsGuest (S : OS) (a1 : Int32) (a2 : Int32) : Option (OS) := gB (ib (54 + (2 * (S 7 (53 : Int32).toNatClampNeg))) 66) (gB (ib ((54 + (2 * (S 7 (53 : Int32).toNatClampNeg))) + 1) 66) (some ((u2 (u2 (u2 S 7 (54 + (2 * (S 7 (53 : Int32).toNatClampNeg))).toNatClampNeg a1) 7 ((54 + (2 * (S 7 (53 : Int32).toNatClampNeg))) + 1).toNatClampNeg a2) 7 (53 : Int32).toNatClampNeg (((u2 (u2 S 7 (54 + (2 * (S 7 (53 : Int32).toNatClampNeg))).toNatClampNeg a1) 7 ((54 + (2 * (S 7 (53 : Int32).toNatClampNeg))) + 1).toNatClampNeg a2) 7 (53 : Int32).toNatClampNeg) + 1)))))
abbrev rmX5_tellsGuest : Room := { frames := 0, cells := 0, slots := 0, locals := 0 }
set_option maxHeartbeats 4000000 in
set_option maxRecDepth 100000 in
theorem c_X5_tellsGuest (l : Launch) (E : En) (am : Nat → Nat) (S : OS) (a1 : Int32) (a2 : Int32) (r : OS) (h : fX5_tellsGuest S a1 a2 = some r) : Met l yX5_tellsGuest (kX5_tellsGuest :: BIG) rmX5_tellsGuest (Pk E [.ref (am 0), .int a1, .int a2] (MW E am S)) (QW none (AM am) (MW E am r)) 0 0 (AM am) := by
  refine Mb (by decide) (Nat.le_of_ble_eq_true rfl) ?_
  intro p e s m below meth c ls hx hb hr hlk hB hown hml _ hK hw hl
  have hS : va_S (AM am) s.heap s.heap [] := va_S.rf
  have hl : lv_has ls 4 [(0, .ref (am 0)), (1, .int a1), (2, .int a2)] := hl
  rw [fX5_tellsGuest] at h
  refine lv_bipush (v := 54) hx hb dX5_tellsGuest_0 (by decide) ?_
  refine lv_iconst (v := 2) hx hb dX5_tellsGuest_2 (by decide) ?_
  refine lv_aload_n hx hb dX5_tellsGuest_3 rfl (lv_at hl 0 rfl) ?_
  refine gX5_28 hx hb hB hown hK hw dX5_tellsGuest_4 ?_
  refine lv_bipush (v := 53) hx hb dX5_tellsGuest_7 (by decide) ?_
  refine lM hx hb hK hw (by decide) (by decide) (ib_ok (by decide)) dX5_tellsGuest_9 ?_
  refine lv_imul hx hb dX5_tellsGuest_10 ?_
  refine lv_iadd hx hb dX5_tellsGuest_11 ?_
  refine lv_istore_n (lv' := [(3, .int (54 + (2 * (S 7 (53 : Int32).toNatClampNeg)))), (0, .ref (am 0)), (1, .int a1), (2, .int a2)]) hx hb dX5_tellsGuest_12 rfl hl (by decide) rfl (fun ls hl => ?_)
  refine lv_aload_n hx hb dX5_tellsGuest_13 rfl (lv_at hl 1 rfl) ?_
  refine gX5_28 hx hb hB hown hK hw dX5_tellsGuest_14 ?_
  refine lv_iload_n hx hb dX5_tellsGuest_17 rfl (lv_at hl 0 rfl) ?_
  refine lv_iload_n hx hb dX5_tellsGuest_18 rfl (lv_at hl 2 rfl) ?_
  obtain ⟨g1, h⟩ := gB_ok h
  refine sM hx hb hK hw hS (fun _ z => z) (by decide) (by decide) (ib_ok g1) dX5_tellsGuest_19 (fun H2 L2 hw hS => ?_)
  refine lv_aload_n hx hb dX5_tellsGuest_20 rfl (lv_at hl 1 rfl) ?_
  refine gX5_28 hx hb hB hown hK hw dX5_tellsGuest_21 ?_
  refine lv_iload_n hx hb dX5_tellsGuest_24 rfl (lv_at hl 0 rfl) ?_
  refine lv_iconst (v := 1) hx hb dX5_tellsGuest_25 (by decide) ?_
  refine lv_iadd hx hb dX5_tellsGuest_26 ?_
  refine lv_iload_n hx hb dX5_tellsGuest_27 rfl (lv_at hl 3 rfl) ?_
  obtain ⟨g3, h⟩ := gB_ok h
  refine sM hx hb hK hw hS (fun _ z => z) (by decide) (by decide) (ib_ok g3) dX5_tellsGuest_28 (fun H4 L4 hw hS => ?_)
  refine lv_aload_n hx hb dX5_tellsGuest_29 rfl (lv_at hl 1 rfl) ?_
  refine gX5_28 hx hb hB hown hK hw dX5_tellsGuest_30 ?_
  refine lv_bipush (v := 53) hx hb dX5_tellsGuest_33 (by decide) ?_
  refine lv_dup2_11 hx hb dX5_tellsGuest_35 rfl rfl ?_
  refine lM hx hb hK hw (by decide) (by decide) (ib_ok (by decide)) dX5_tellsGuest_36 ?_
  refine lv_iconst (v := 1) hx hb dX5_tellsGuest_37 (by decide) ?_
  refine lv_iadd hx hb dX5_tellsGuest_38 ?_
  refine sM hx hb hK hw hS (fun _ z => z) (by decide) (by decide) (ib_ok (by decide)) dX5_tellsGuest_39 (fun H5 L5 hw hS => ?_)
  cases h
  exact e_vW hx hb hr hlk hw hS dX5_tellsGuest_40
def fX5_isDead (S : OS) (a1 : Int32) : Option (Int32) := (fX5_in a1 0 ((S 1 (0 : Int32).toNatClampNeg) - 1)).bind (fun r1 => (gB (isC .boolean r1) (some r1)))
abbrev rmX5_isDead : Room := { frames := 1, cells := 0, slots := 0, locals := 22 }
set_option maxHeartbeats 4000000 in
set_option maxRecDepth 100000 in
theorem c_X5_isDead (l : Launch) (E : En) (am : Nat → Nat) (S : OS) (a1 : Int32) (r : Int32) (h : fX5_isDead S a1 = some r) : Met l yX5_isDead (kX5_isDead :: BIG) rmX5_isDead (Pk E [.ref (am 0), .int a1] (MW E am S)) (QcRead r) 0 0 (fun _ => False) := by
  refine Mb (by decide) (Nat.le_of_ble_eq_true rfl) ?_
  intro p e s m below meth c ls hx hb hr hlk hB hown hml _ hK hw hl
  have hl : lv_has ls 2 [(0, .ref (am 0)), (1, .int a1)] := hl
  rw [fX5_isDead] at h
  refine lv_iload_n hx hb dX5_isDead_0 rfl (lv_at hl 1 rfl) ?_
  refine lv_iconst (v := 0) hx hb dX5_isDead_1 (by decide) ?_
  refine lv_aload_n hx hb dX5_isDead_2 rfl (lv_at hl 0 rfl) ?_
  refine gX5_7 hx hb hB hown hK hw dX5_isDead_3 ?_
  refine lv_iconst (v := 0) hx hb dX5_isDead_6 (by decide) ?_
  refine lM hx hb hK hw (by decide) (by decide) (ib_ok (by decide)) dX5_isDead_7 ?_
  refine lv_iconst (v := 1) hx hb dX5_isDead_8 (by decide) ?_
  refine lv_isub hx hb dX5_isDead_9 ?_
  obtain ⟨r1, e1, h⟩ := ob h
  refine k_SR ⟨hx, hb, hml, hown, hB⟩ (c_X5_in l E a1 0 ((S 1 (0 : Int32).toNatClampNeg) - 1) r1 e1) (clX5_67 hB rfl rfl ⟨Nat.le_of_ble_eq_true rfl, Nat.le_of_ble_eq_true rfl⟩) hK trivial rfl hl.1 rfl (Nat.le_of_ble_eq_true rfl) dX5_isDead_10 ⟨Nat.zero_le _, Nat.zero_le _⟩ ?_
  obtain ⟨g2, h⟩ := gB_ok h
  exact e_zR hx hb hr hlk (isC_ok g2) h dX5_isDead_13
def fX5_isPlot (S : OS) (a1 : Int32) : Option (Int32) := (fX5_in a1 0 ((S 0 0) - 1)).bind (fun r1 => (gB (isC .boolean r1) (some r1)))
abbrev rmX5_isPlot : Room := { frames := 1, cells := 0, slots := 0, locals := 22 }
set_option maxHeartbeats 4000000 in
set_option maxRecDepth 100000 in
theorem c_X5_isPlot (l : Launch) (E : En) (am : Nat → Nat) (S : OS) (a1 : Int32) (r : Int32) (h : fX5_isPlot S a1 = some r) : Met l yX5_isPlot (kX5_isPlot :: BIG) rmX5_isPlot (Pk E [.ref (am 0), .int a1] (MW E am S)) (QcRead r) 0 0 (fun _ => False) := by
  refine Mb (by decide) (Nat.le_of_ble_eq_true rfl) ?_
  intro p e s m below meth c ls hx hb hr hlk hB hown hml _ hK hw hl
  have hl : lv_has ls 2 [(0, .ref (am 0)), (1, .int a1)] := hl
  rw [fX5_isPlot] at h
  refine lv_iload_n hx hb dX5_isPlot_0 rfl (lv_at hl 1 rfl) ?_
  refine lv_iconst (v := 0) hx hb dX5_isPlot_1 (by decide) ?_
  refine lv_aload_n hx hb dX5_isPlot_2 rfl (lv_at hl 0 rfl) ?_
  refine gX5_71 hx hb hB hown hK hw dX5_isPlot_3 ?_
  refine lv_iconst (v := 1) hx hb dX5_isPlot_6 (by decide) ?_
  refine lv_isub hx hb dX5_isPlot_7 ?_
  obtain ⟨r1, e1, h⟩ := ob h
  refine k_SR ⟨hx, hb, hml, hown, hB⟩ (c_X5_in l E a1 0 ((S 0 0) - 1) r1 e1) (clX5_67 hB rfl rfl ⟨Nat.le_of_ble_eq_true rfl, Nat.le_of_ble_eq_true rfl⟩) hK trivial rfl hl.1 rfl (Nat.le_of_ble_eq_true rfl) dX5_isPlot_8 ⟨Nat.zero_le _, Nat.zero_le _⟩ ?_
  obtain ⟨g2, h⟩ := gB_ok h
  exact e_zR hx hb hr hlk (isC_ok g2) h dX5_isPlot_11
def fX5_write (S : OS) (a1 : Int32) : Option (Int32 × OS) := (fX5_in a1 32 126).bind (fun r1 => (if r1 = 0 then some ((-1), S) else if (S 0 10) = 200 then some ((-3), S) else gB (ib (S 0 10) 200) (some (((u2 (u2 S 5 (S 0 10).toNatClampNeg a1) 0 10 (((u2 S 5 (S 0 10).toNatClampNeg a1) 0 10) + 1)) 0 10), (u2 (u2 S 5 (S 0 10).toNatClampNeg a1) 0 10 (((u2 S 5 (S 0 10).toNatClampNeg a1) 0 10) + 1))))))
abbrev rmX5_write : Room := { frames := 1, cells := 0, slots := 0, locals := 22 }
set_option maxHeartbeats 4000000 in
set_option maxRecDepth 100000 in
theorem c_X5_write (l : Launch) (E : En) (am : Nat → Nat) (S : OS) (a1 : Int32) (r : Int32 × OS) (h : fX5_write S a1 = some r) : Met l yX5_write (kX5_write :: BIG) rmX5_write (Pk E [.ref (am 0), .int a1] (MW E am S)) (QW (some (.int r.1)) (AM am) (MW E am r.2)) 0 0 (AM am) := by
  refine Mb (by decide) (Nat.le_of_ble_eq_true rfl) ?_
  intro p e s m below meth c ls hx hb hr hlk hB hown hml _ hK hw hl
  have hS : va_S (AM am) s.heap s.heap [] := va_S.rf
  have hl : lv_has ls 2 [(0, .ref (am 0)), (1, .int a1)] := hl
  rw [fX5_write] at h
  refine lv_iload_n hx hb dX5_write_0 rfl (lv_at hl 1 rfl) ?_
  refine lv_bipush (v := 32) hx hb dX5_write_1 (by decide) ?_
  refine lv_bipush (v := 126) hx hb dX5_write_3 (by decide) ?_
  obtain ⟨r1, e1, h⟩ := ob h
  refine k_SR ⟨hx, hb, hml, hown, hB⟩ (c_X5_in l E a1 32 126 r1 e1) (clX5_67 hB rfl rfl ⟨Nat.le_of_ble_eq_true rfl, Nat.le_of_ble_eq_true rfl⟩) hK trivial rfl hl.1 rfl (Nat.le_of_ble_eq_true rfl) dX5_write_5 ⟨Nat.zero_le _, Nat.zero_le _⟩ ?_
  refine lv_if_ne (tgt := 13) hx hb dX5_write_8 (by decide) (fun g2 => ?_) (fun g2 => ?_)
  · rw [if_neg g2] at h
    refine lv_aload_n hx hb dX5_write_13 rfl (lv_at hl 0 rfl) ?_
    refine gX5_74 hx hb hB hown hK hw dX5_write_14 ?_
    refine lv_sipush (v := 200) hx hb dX5_write_17 (by decide) ?_
    refine lv_icmp_ne (tgt := 26) hx hb dX5_write_20 (by decide) (fun g3 => ?_) (fun g3 => ?_)
    · rw [if_neg g3] at h
      refine lv_aload_n hx hb dX5_write_26 rfl (lv_at hl 0 rfl) ?_
      refine gX5_22 hx hb hB hown hK hw dX5_write_27 ?_
      refine lv_aload_n hx hb dX5_write_30 rfl (lv_at hl 0 rfl) ?_
      refine gX5_74 hx hb hB hown hK hw dX5_write_31 ?_
      refine lv_iload_n hx hb dX5_write_34 rfl (lv_at hl 1 rfl) ?_
      obtain ⟨g4, h⟩ := gB_ok h
      refine sM hx hb hK hw hS (fun _ z => z) (by decide) (by decide) (ib_ok g4) dX5_write_35 (fun H5 L5 hw hS => ?_)
      refine lv_aload_n hx hb dX5_write_36 rfl (lv_at hl 0 rfl) ?_
      refine lv_dup hx hb dX5_write_37 rfl ?_
      refine gX5_74 hx hb hB hown hK hw dX5_write_38 ?_
      refine lv_iconst (v := 1) hx hb dX5_write_41 (by decide) ?_
      refine lv_iadd hx hb dX5_write_42 ?_
      refine pX5_74 hx hb hB hown hK hw hS (fun _ z => z) dX5_write_43 (fun H6 L6 hw hS => ?_)
      refine lv_aload_n hx hb dX5_write_46 rfl (lv_at hl 0 rfl) ?_
      refine gX5_74 hx hb hB hown hK hw dX5_write_47 ?_
      cases h
      exact e_zW hx hb hr hlk rfl rfl hw hS dX5_write_50
    · rw [if_pos g3] at h
      refine lv_bipush (v := (-3)) hx hb dX5_write_23 (by decide) ?_
      cases h
      exact e_zW hx hb hr hlk rfl rfl hw hS dX5_write_25
  · rw [if_pos g2] at h
    refine lv_iconst (v := (-1)) hx hb dX5_write_11 (by decide) ?_
    cases h
    exact e_zW hx hb hr hlk rfl rfl hw hS dX5_write_12
def fX5_wipe (S : OS) : Option (Int32 × OS) := some ((S 0 10), (u2 S 0 10 0))
abbrev rmX5_wipe : Room := { frames := 0, cells := 0, slots := 0, locals := 0 }
set_option maxHeartbeats 4000000 in
set_option maxRecDepth 100000 in
theorem c_X5_wipe (l : Launch) (E : En) (am : Nat → Nat) (S : OS) (r : Int32 × OS) (h : fX5_wipe S = some r) : Met l yX5_wipe (kX5_wipe :: BIG) rmX5_wipe (Pk E [.ref (am 0)] (MW E am S)) (QW (some (.int r.1)) (AM am) (MW E am r.2)) 0 0 (AM am) := by
  refine Mb (by decide) (Nat.le_of_ble_eq_true rfl) ?_
  intro p e s m below meth c ls hx hb hr hlk hB hown hml _ hK hw hl
  have hS : va_S (AM am) s.heap s.heap [] := va_S.rf
  have hl : lv_has ls 2 [(0, .ref (am 0))] := hl
  rw [fX5_wipe] at h
  refine lv_aload_n hx hb dX5_wipe_0 rfl (lv_at hl 0 rfl) ?_
  refine gX5_74 hx hb hB hown hK hw dX5_wipe_1 ?_
  refine lv_istore_n (lv' := [(1, .int (S 0 10)), (0, .ref (am 0))]) hx hb dX5_wipe_4 rfl hl (by decide) rfl (fun ls hl => ?_)
  refine lv_aload_n hx hb dX5_wipe_5 rfl (lv_at hl 1 rfl) ?_
  refine lv_iconst (v := 0) hx hb dX5_wipe_6 (by decide) ?_
  refine pX5_74 hx hb hB hown hK hw hS (fun _ z => z) dX5_wipe_7 (fun H1 L1 hw hS => ?_)
  refine lv_iload_n hx hb dX5_wipe_10 rfl (lv_at hl 0 rfl) ?_
  cases h
  exact e_zW hx hb hr hlk rfl rfl hw hS dX5_wipe_11
def fX5_letterAt (S : OS) (a1 : Int32) : Option (Int32) := if (S 0 10) ≤ a1 then some (-1) else gB (ib a1 200) (some (S 5 a1.toNatClampNeg))
abbrev rmX5_letterAt : Room := { frames := 0, cells := 0, slots := 0, locals := 0 }
set_option maxHeartbeats 4000000 in
set_option maxRecDepth 100000 in
theorem c_X5_letterAt (l : Launch) (E : En) (am : Nat → Nat) (S : OS) (a1 : Int32) (r : Int32) (h : fX5_letterAt S a1 = some r) : Met l yX5_letterAt (kX5_letterAt :: BIG) rmX5_letterAt (Pk E [.ref (am 0), .int a1] (MW E am S)) (QcRead r) 0 0 (fun _ => False) := by
  refine Mb (by decide) (Nat.le_of_ble_eq_true rfl) ?_
  intro p e s m below meth c ls hx hb hr hlk hB hown hml _ hK hw hl
  have hl : lv_has ls 2 [(0, .ref (am 0)), (1, .int a1)] := hl
  rw [fX5_letterAt] at h
  refine lv_iload_n hx hb dX5_letterAt_0 rfl (lv_at hl 1 rfl) ?_
  refine lv_aload_n hx hb dX5_letterAt_1 rfl (lv_at hl 0 rfl) ?_
  refine gX5_74 hx hb hB hown hK hw dX5_letterAt_2 ?_
  refine lv_icmp_ge (tgt := 17) hx hb dX5_letterAt_5 (by decide) (fun g1 => ?_) (fun g1 => ?_)
  · rw [if_pos g1] at h
    refine lv_iconst (v := (-1)) hx hb dX5_letterAt_17 (by decide) ?_
    exact e_zR hx hb hr hlk rfl h dX5_letterAt_18
  · rw [if_neg g1] at h
    refine lv_aload_n hx hb dX5_letterAt_8 rfl (lv_at hl 0 rfl) ?_
    refine gX5_22 hx hb hB hown hK hw dX5_letterAt_9 ?_
    refine lv_iload_n hx hb dX5_letterAt_12 rfl (lv_at hl 1 rfl) ?_
    obtain ⟨g2, h⟩ := gB_ok h
    refine lM hx hb hK hw (by decide) (by decide) (ib_ok g2) dX5_letterAt_13 ?_
    refine lv_goto (tgt := 18) hx hb dX5_letterAt_14 (by decide) ?_
    exact e_zR hx hb hr hlk rfl h dX5_letterAt_18
def fX5_readNumbers_L2 (v1_2 : Int32) : Nat → Int32 → OS → Option (Int32 × OS)
  | 0, _, _ => none
  | n_2 + 1, v2_2, S_2 => if v1_2 ≤ v2_2 then some (1, S_2) else (fX5_letterAt S_2 (S_2 0 11)).bind (fun r2 => ((fX5_isFigure r2).bind (fun r3 => (if r3 = 0 then some (0, S_2) else (fX5_letterAt S_2 (S_2 0 11)).bind (fun r5 => (gB (ib v2_2 3) ((fX5_letterAt (u2 (u2 S_2 6 v2_2.toNatClampNeg (r5 - 48)) 0 11 (((u2 S_2 6 v2_2.toNatClampNeg (r5 - 48)) 0 11) + 1)) ((u2 (u2 S_2 6 v2_2.toNatClampNeg (r5 - 48)) 0 11 (((u2 S_2 6 v2_2.toNatClampNeg (r5 - 48)) 0 11) + 1)) 0 11)).bind (fun r9 => ((fX5_isFigure r9).bind (fun r10 => (if r10 = 0 then (fX5_letterAt (u2 (u2 S_2 6 v2_2.toNatClampNeg (r5 - 48)) 0 11 (((u2 S_2 6 v2_2.toNatClampNeg (r5 - 48)) 0 11) + 1)) ((u2 (u2 S_2 6 v2_2.toNatClampNeg (r5 - 48)) 0 11 (((u2 S_2 6 v2_2.toNatClampNeg (r5 - 48)) 0 11) + 1)) 0 11)).bind (fun r12 => (if (v1_2 - 1) ≤ v2_2 then if r12 = 59 then fX5_readNumbers_L2 v1_2 n_2 (v2_2 + 1) (u2 (u2 (u2 S_2 6 v2_2.toNatClampNeg (r5 - 48)) 0 11 (((u2 S_2 6 v2_2.toNatClampNeg (r5 - 48)) 0 11) + 1)) 0 11 (((u2 (u2 S_2 6 v2_2.toNatClampNeg (r5 - 48)) 0 11 (((u2 S_2 6 v2_2.toNatClampNeg (r5 - 48)) 0 11) + 1)) 0 11) + 1)) else some (0, (u2 (u2 S_2 6 v2_2.toNatClampNeg (r5 - 48)) 0 11 (((u2 S_2 6 v2_2.toNatClampNeg (r5 - 48)) 0 11) + 1))) else if r12 = 44 then fX5_readNumbers_L2 v1_2 n_2 (v2_2 + 1) (u2 (u2 (u2 S_2 6 v2_2.toNatClampNeg (r5 - 48)) 0 11 (((u2 S_2 6 v2_2.toNatClampNeg (r5 - 48)) 0 11) + 1)) 0 11 (((u2 (u2 S_2 6 v2_2.toNatClampNeg (r5 - 48)) 0 11 (((u2 S_2 6 v2_2.toNatClampNeg (r5 - 48)) 0 11) + 1)) 0 11) + 1)) else some (0, (u2 (u2 S_2 6 v2_2.toNatClampNeg (r5 - 48)) 0 11 (((u2 S_2 6 v2_2.toNatClampNeg (r5 - 48)) 0 11) + 1))))) else gB (ib v2_2 3) ((fX5_letterAt (u2 (u2 S_2 6 v2_2.toNatClampNeg (r5 - 48)) 0 11 (((u2 S_2 6 v2_2.toNatClampNeg (r5 - 48)) 0 11) + 1)) ((u2 (u2 S_2 6 v2_2.toNatClampNeg (r5 - 48)) 0 11 (((u2 S_2 6 v2_2.toNatClampNeg (r5 - 48)) 0 11) + 1)) 0 11)).bind (fun r19 => (gB (ib v2_2 3) ((fX5_letterAt (u2 (u2 (u2 (u2 S_2 6 v2_2.toNatClampNeg (r5 - 48)) 0 11 (((u2 S_2 6 v2_2.toNatClampNeg (r5 - 48)) 0 11) + 1)) 6 v2_2.toNatClampNeg (((10 * ((u2 (u2 S_2 6 v2_2.toNatClampNeg (r5 - 48)) 0 11 (((u2 S_2 6 v2_2.toNatClampNeg (r5 - 48)) 0 11) + 1)) 6 v2_2.toNatClampNeg)) + r19) - 48)) 0 11 (((u2 (u2 (u2 S_2 6 v2_2.toNatClampNeg (r5 - 48)) 0 11 (((u2 S_2 6 v2_2.toNatClampNeg (r5 - 48)) 0 11) + 1)) 6 v2_2.toNatClampNeg (((10 * ((u2 (u2 S_2 6 v2_2.toNatClampNeg (r5 - 48)) 0 11 (((u2 S_2 6 v2_2.toNatClampNeg (r5 - 48)) 0 11) + 1)) 6 v2_2.toNatClampNeg)) + r19) - 48)) 0 11) + 1)) ((u2 (u2 (u2 (u2 S_2 6 v2_2.toNatClampNeg (r5 - 48)) 0 11 (((u2 S_2 6 v2_2.toNatClampNeg (r5 - 48)) 0 11) + 1)) 6 v2_2.toNatClampNeg (((10 * ((u2 (u2 S_2 6 v2_2.toNatClampNeg (r5 - 48)) 0 11 (((u2 S_2 6 v2_2.toNatClampNeg (r5 - 48)) 0 11) + 1)) 6 v2_2.toNatClampNeg)) + r19) - 48)) 0 11 (((u2 (u2 (u2 S_2 6 v2_2.toNatClampNeg (r5 - 48)) 0 11 (((u2 S_2 6 v2_2.toNatClampNeg (r5 - 48)) 0 11) + 1)) 6 v2_2.toNatClampNeg (((10 * ((u2 (u2 S_2 6 v2_2.toNatClampNeg (r5 - 48)) 0 11 (((u2 S_2 6 v2_2.toNatClampNeg (r5 - 48)) 0 11) + 1)) 6 v2_2.toNatClampNeg)) + r19) - 48)) 0 11) + 1)) 0 11)).bind (fun r23 => (if (v1_2 - 1) ≤ v2_2 then if r23 = 59 then fX5_readNumbers_L2 v1_2 n_2 (v2_2 + 1) (u2 (u2 (u2 (u2 (u2 S_2 6 v2_2.toNatClampNeg (r5 - 48)) 0 11 (((u2 S_2 6 v2_2.toNatClampNeg (r5 - 48)) 0 11) + 1)) 6 v2_2.toNatClampNeg (((10 * ((u2 (u2 S_2 6 v2_2.toNatClampNeg (r5 - 48)) 0 11 (((u2 S_2 6 v2_2.toNatClampNeg (r5 - 48)) 0 11) + 1)) 6 v2_2.toNatClampNeg)) + r19) - 48)) 0 11 (((u2 (u2 (u2 S_2 6 v2_2.toNatClampNeg (r5 - 48)) 0 11 (((u2 S_2 6 v2_2.toNatClampNeg (r5 - 48)) 0 11) + 1)) 6 v2_2.toNatClampNeg (((10 * ((u2 (u2 S_2 6 v2_2.toNatClampNeg (r5 - 48)) 0 11 (((u2 S_2 6 v2_2.toNatClampNeg (r5 - 48)) 0 11) + 1)) 6 v2_2.toNatClampNeg)) + r19) - 48)) 0 11) + 1)) 0 11 (((u2 (u2 (u2 (u2 S_2 6 v2_2.toNatClampNeg (r5 - 48)) 0 11 (((u2 S_2 6 v2_2.toNatClampNeg (r5 - 48)) 0 11) + 1)) 6 v2_2.toNatClampNeg (((10 * ((u2 (u2 S_2 6 v2_2.toNatClampNeg (r5 - 48)) 0 11 (((u2 S_2 6 v2_2.toNatClampNeg (r5 - 48)) 0 11) + 1)) 6 v2_2.toNatClampNeg)) + r19) - 48)) 0 11 (((u2 (u2 (u2 S_2 6 v2_2.toNatClampNeg (r5 - 48)) 0 11 (((u2 S_2 6 v2_2.toNatClampNeg (r5 - 48)) 0 11) + 1)) 6 v2_2.toNatClampNeg (((10 * ((u2 (u2 S_2 6 v2_2.toNatClampNeg (r5 - 48)) 0 11 (((u2 S_2 6 v2_2.toNatClampNeg (r5 - 48)) 0 11) + 1)) 6 v2_2.toNatClampNeg)) + r19) - 48)) 0 11) + 1)) 0 11) + 1)) else some (0, (u2 (u2 (u2 (u2 S_2 6 v2_2.toNatClampNeg (r5 - 48)) 0 11 (((u2 S_2 6 v2_2.toNatClampNeg (r5 - 48)) 0 11) + 1)) 6 v2_2.toNatClampNeg (((10 * ((u2 (u2 S_2 6 v2_2.toNatClampNeg (r5 - 48)) 0 11 (((u2 S_2 6 v2_2.toNatClampNeg (r5 - 48)) 0 11) + 1)) 6 v2_2.toNatClampNeg)) + r19) - 48)) 0 11 (((u2 (u2 (u2 S_2 6 v2_2.toNatClampNeg (r5 - 48)) 0 11 (((u2 S_2 6 v2_2.toNatClampNeg (r5 - 48)) 0 11) + 1)) 6 v2_2.toNatClampNeg (((10 * ((u2 (u2 S_2 6 v2_2.toNatClampNeg (r5 - 48)) 0 11 (((u2 S_2 6 v2_2.toNatClampNeg (r5 - 48)) 0 11) + 1)) 6 v2_2.toNatClampNeg)) + r19) - 48)) 0 11) + 1))) else if r23 = 44 then fX5_readNumbers_L2 v1_2 n_2 (v2_2 + 1) (u2 (u2 (u2 (u2 (u2 S_2 6 v2_2.toNatClampNeg (r5 - 48)) 0 11 (((u2 S_2 6 v2_2.toNatClampNeg (r5 - 48)) 0 11) + 1)) 6 v2_2.toNatClampNeg (((10 * ((u2 (u2 S_2 6 v2_2.toNatClampNeg (r5 - 48)) 0 11 (((u2 S_2 6 v2_2.toNatClampNeg (r5 - 48)) 0 11) + 1)) 6 v2_2.toNatClampNeg)) + r19) - 48)) 0 11 (((u2 (u2 (u2 S_2 6 v2_2.toNatClampNeg (r5 - 48)) 0 11 (((u2 S_2 6 v2_2.toNatClampNeg (r5 - 48)) 0 11) + 1)) 6 v2_2.toNatClampNeg (((10 * ((u2 (u2 S_2 6 v2_2.toNatClampNeg (r5 - 48)) 0 11 (((u2 S_2 6 v2_2.toNatClampNeg (r5 - 48)) 0 11) + 1)) 6 v2_2.toNatClampNeg)) + r19) - 48)) 0 11) + 1)) 0 11 (((u2 (u2 (u2 (u2 S_2 6 v2_2.toNatClampNeg (r5 - 48)) 0 11 (((u2 S_2 6 v2_2.toNatClampNeg (r5 - 48)) 0 11) + 1)) 6 v2_2.toNatClampNeg (((10 * ((u2 (u2 S_2 6 v2_2.toNatClampNeg (r5 - 48)) 0 11 (((u2 S_2 6 v2_2.toNatClampNeg (r5 - 48)) 0 11) + 1)) 6 v2_2.toNatClampNeg)) + r19) - 48)) 0 11 (((u2 (u2 (u2 S_2 6 v2_2.toNatClampNeg (r5 - 48)) 0 11 (((u2 S_2 6 v2_2.toNatClampNeg (r5 - 48)) 0 11) + 1)) 6 v2_2.toNatClampNeg (((10 * ((u2 (u2 S_2 6 v2_2.toNatClampNeg (r5 - 48)) 0 11 (((u2 S_2 6 v2_2.toNatClampNeg (r5 - 48)) 0 11) + 1)) 6 v2_2.toNatClampNeg)) + r19) - 48)) 0 11) + 1)) 0 11) + 1)) else some (0, (u2 (u2 (u2 (u2 S_2 6 v2_2.toNatClampNeg (r5 - 48)) 0 11 (((u2 S_2 6 v2_2.toNatClampNeg (r5 - 48)) 0 11) + 1)) 6 v2_2.toNatClampNeg (((10 * ((u2 (u2 S_2 6 v2_2.toNatClampNeg (r5 - 48)) 0 11 (((u2 S_2 6 v2_2.toNatClampNeg (r5 - 48)) 0 11) + 1)) 6 v2_2.toNatClampNeg)) + r19) - 48)) 0 11 (((u2 (u2 (u2 S_2 6 v2_2.toNatClampNeg (r5 - 48)) 0 11 (((u2 S_2 6 v2_2.toNatClampNeg (r5 - 48)) 0 11) + 1)) 6 v2_2.toNatClampNeg (((10 * ((u2 (u2 S_2 6 v2_2.toNatClampNeg (r5 - 48)) 0 11 (((u2 S_2 6 v2_2.toNatClampNeg (r5 - 48)) 0 11) + 1)) 6 v2_2.toNatClampNeg)) + r19) - 48)) 0 11) + 1))))))))))))))))))))
def fX5_readNumbers (S : OS) (a1 : Int32) : Option (Int32 × OS) := fX5_readNumbers_L2 a1 FU 0 S
abbrev rmX5_readNumbers : Room := { frames := 2, cells := 0, slots := 0, locals := 42 }
set_option maxHeartbeats 4000000 in
set_option maxRecDepth 100000 in
theorem c_X5_readNumbers (l : Launch) (E : En) (am : Nat → Nat) (S : OS) (a1 : Int32) (r : Int32 × OS) (h : fX5_readNumbers S a1 = some r) : Met l yX5_readNumbers (kX5_readNumbers :: BIG) rmX5_readNumbers (Pk E [.ref (am 0), .int a1] (MW E am S)) (QW (some (.int r.1)) (AM am) (MW E am r.2)) 0 0 (AM am) := by
  refine Mb (by decide) (Nat.le_of_ble_eq_true rfl) ?_
  intro p e s m below meth c ls hx hb hr hlk hB hown hml _ hK hw hl
  have hS : va_S (AM am) s.heap s.heap [] := va_S.rf
  have hl : lv_has ls 3 [(0, .ref (am 0)), (1, .int a1)] := hl
  rw [fX5_readNumbers] at h
  have hL2 : ∀ (n_2 : Nat) (v1_2 : Int32) (v2_2 : Int32) (S_2 : OS) (H_2 : Heap) (L_2 : List Loc) (ls_2 : Array Slot), lv_has ls_2 3 [(0, .ref (am 0)), (1, .int v1_2), (2, .int v2_2)] → MW E am S_2 H_2 → va_S (AM am) s.heap H_2 L_2 → fX5_readNumbers_L2 v1_2 n_2 v2_2 S_2 = some r → W p l e rmX5_readNumbers s m ([.ref (am 0), .int a1] : List Value).toArray below meth c H_2 L_2 0 0 (MQ below (QW (some (.int r.1)) (AM am) (MW E am r.2)) ([.ref (am 0), .int a1] : List Value).toArray s 0 0 (AM am)) (F0 m 2 ls_2 []) := by
    intro n_2
    induction n_2 with
    | zero =>
      intro v1_2 v2_2 S_2 H_2 L_2 ls_2 hl hw hS h
      exact nn h
    | succ n_2 ih_2 =>
      intro v1_2 v2_2 S_2 H_2 L_2 ls_2 hl hw hS h
      rw [fX5_readNumbers_L2] at h
      refine lv_iload_n hx hb dX5_readNumbers_2 rfl (lv_at hl 2 rfl) ?_
      refine lv_iload_n hx hb dX5_readNumbers_3 rfl (lv_at hl 1 rfl) ?_
      refine lv_icmp_ge (tgt := 144) hx hb dX5_readNumbers_4 (by decide) (fun g1 => ?_) (fun g1 => ?_)
      · rw [if_pos g1] at h
        refine lv_iconst (v := 1) hx hb dX5_readNumbers_144 (by decide) ?_
        cases h
        exact e_zW hx hb hr hlk (by decide) rfl hw hS dX5_readNumbers_145
      · rw [if_neg g1] at h
        refine lv_aload_n hx hb dX5_readNumbers_7 rfl (lv_at hl 0 rfl) ?_
        refine lv_aload_n hx hb dX5_readNumbers_8 rfl (lv_at hl 0 rfl) ?_
        refine gX5_77 hx hb hB hown hK hw dX5_readNumbers_9 ?_
        obtain ⟨r2, e2, h⟩ := ob h
        refine k_VR ⟨hx, hb, hml, hown, hB⟩ (c_X5_letterAt l E am S_2 (S_2 0 11) r2 e2) (clX5_80 hB rfl rfl ⟨Nat.le_of_ble_eq_true rfl, Nat.le_of_ble_eq_true rfl⟩) hK hw (rvM hK hw) rfl hl.1 rfl (Nat.le_of_ble_eq_true rfl) dX5_readNumbers_12 ⟨Nat.zero_le _, Nat.zero_le _⟩ ?_
        obtain ⟨r3, e3, h⟩ := ob h
        refine k_SR ⟨hx, hb, hml, hown, hB⟩ (c_X5_isFigure l E r2 r3 e3) (clX5_84 hB rfl rfl ⟨Nat.le_of_ble_eq_true rfl, Nat.le_of_ble_eq_true rfl⟩) hK trivial rfl hl.1 rfl (Nat.le_of_ble_eq_true rfl) dX5_readNumbers_15 ⟨Nat.zero_le _, Nat.zero_le _⟩ ?_
        refine lv_if_ne (tgt := 23) hx hb dX5_readNumbers_18 (by decide) (fun g4 => ?_) (fun g4 => ?_)
        · rw [if_neg g4] at h
          refine lv_aload_n hx hb dX5_readNumbers_23 rfl (lv_at hl 0 rfl) ?_
          refine gX5_25 hx hb hB hown hK hw dX5_readNumbers_24 ?_
          refine lv_iload_n hx hb dX5_readNumbers_27 rfl (lv_at hl 2 rfl) ?_
          refine lv_aload_n hx hb dX5_readNumbers_28 rfl (lv_at hl 0 rfl) ?_
          refine lv_aload_n hx hb dX5_readNumbers_29 rfl (lv_at hl 0 rfl) ?_
          refine gX5_77 hx hb hB hown hK hw dX5_readNumbers_30 ?_
          obtain ⟨r5, e5, h⟩ := ob h
          refine k_VR ⟨hx, hb, hml, hown, hB⟩ (c_X5_letterAt l E am S_2 (S_2 0 11) r5 e5) (clX5_80 hB rfl rfl ⟨Nat.le_of_ble_eq_true rfl, Nat.le_of_ble_eq_true rfl⟩) hK hw (rvM hK hw) rfl hl.1 rfl (Nat.le_of_ble_eq_true rfl) dX5_readNumbers_33 ⟨Nat.zero_le _, Nat.zero_le _⟩ ?_
          refine lv_bipush (v := 48) hx hb dX5_readNumbers_36 (by decide) ?_
          refine lv_isub hx hb dX5_readNumbers_38 ?_
          obtain ⟨g6, h⟩ := gB_ok h
          refine sM hx hb hK hw hS (fun _ z => z) (by decide) (by decide) (ib_ok g6) dX5_readNumbers_39 (fun H7 L7 hw hS => ?_)
          refine lv_aload_n hx hb dX5_readNumbers_40 rfl (lv_at hl 0 rfl) ?_
          refine lv_dup hx hb dX5_readNumbers_41 rfl ?_
          refine gX5_77 hx hb hB hown hK hw dX5_readNumbers_42 ?_
          refine lv_iconst (v := 1) hx hb dX5_readNumbers_45 (by decide) ?_
          refine lv_iadd hx hb dX5_readNumbers_46 ?_
          refine pX5_77 hx hb hB hown hK hw hS (fun _ z => z) dX5_readNumbers_47 (fun H8 L8 hw hS => ?_)
          refine lv_aload_n hx hb dX5_readNumbers_50 rfl (lv_at hl 0 rfl) ?_
          refine lv_aload_n hx hb dX5_readNumbers_51 rfl (lv_at hl 0 rfl) ?_
          refine gX5_77 hx hb hB hown hK hw dX5_readNumbers_52 ?_
          obtain ⟨r9, e9, h⟩ := ob h
          refine k_VR ⟨hx, hb, hml, hown, hB⟩ (c_X5_letterAt l E am (u2 (u2 S_2 6 v2_2.toNatClampNeg (r5 - 48)) 0 11 (((u2 S_2 6 v2_2.toNatClampNeg (r5 - 48)) 0 11) + 1)) ((u2 (u2 S_2 6 v2_2.toNatClampNeg (r5 - 48)) 0 11 (((u2 S_2 6 v2_2.toNatClampNeg (r5 - 48)) 0 11) + 1)) 0 11) r9 e9) (clX5_80 hB rfl rfl ⟨Nat.le_of_ble_eq_true rfl, Nat.le_of_ble_eq_true rfl⟩) hK hw (rvM hK hw) rfl hl.1 rfl (Nat.le_of_ble_eq_true rfl) dX5_readNumbers_55 ⟨Nat.zero_le _, Nat.zero_le _⟩ ?_
          obtain ⟨r10, e10, h⟩ := ob h
          refine k_SR ⟨hx, hb, hml, hown, hB⟩ (c_X5_isFigure l E r9 r10 e10) (clX5_84 hB rfl rfl ⟨Nat.le_of_ble_eq_true rfl, Nat.le_of_ble_eq_true rfl⟩) hK trivial rfl hl.1 rfl (Nat.le_of_ble_eq_true rfl) dX5_readNumbers_58 ⟨Nat.zero_le _, Nat.zero_le _⟩ ?_
          refine lv_if_eq (tgt := 101) hx hb dX5_readNumbers_61 (by decide) (fun g11 => ?_) (fun g11 => ?_)
          · rw [if_pos g11] at h
            refine lv_aload_n hx hb dX5_readNumbers_101 rfl (lv_at hl 0 rfl) ?_
            refine lv_aload_n hx hb dX5_readNumbers_102 rfl (lv_at hl 0 rfl) ?_
            refine gX5_77 hx hb hB hown hK hw dX5_readNumbers_103 ?_
            obtain ⟨r12, e12, h⟩ := ob h
            refine k_VR ⟨hx, hb, hml, hown, hB⟩ (c_X5_letterAt l E am (u2 (u2 S_2 6 v2_2.toNatClampNeg (r5 - 48)) 0 11 (((u2 S_2 6 v2_2.toNatClampNeg (r5 - 48)) 0 11) + 1)) ((u2 (u2 S_2 6 v2_2.toNatClampNeg (r5 - 48)) 0 11 (((u2 S_2 6 v2_2.toNatClampNeg (r5 - 48)) 0 11) + 1)) 0 11) r12 e12) (clX5_80 hB rfl rfl ⟨Nat.le_of_ble_eq_true rfl, Nat.le_of_ble_eq_true rfl⟩) hK hw (rvM hK hw) rfl hl.1 rfl (Nat.le_of_ble_eq_true rfl) dX5_readNumbers_106 ⟨Nat.zero_le _, Nat.zero_le _⟩ ?_
            refine lv_iload_n hx hb dX5_readNumbers_109 rfl (lv_at hl 2 rfl) ?_
            refine lv_iload_n hx hb dX5_readNumbers_110 rfl (lv_at hl 1 rfl) ?_
            refine lv_iconst (v := 1) hx hb dX5_readNumbers_111 (by decide) ?_
            refine lv_isub hx hb dX5_readNumbers_112 ?_
            refine lv_icmp_ge (tgt := 121) hx hb dX5_readNumbers_113 (by decide) (fun g13 => ?_) (fun g13 => ?_)
            · rw [if_pos g13] at h
              refine lv_bipush (v := 59) hx hb dX5_readNumbers_121 (by decide) ?_
              refine lv_icmp_eq (tgt := 128) hx hb dX5_readNumbers_123 (by decide) (fun g14 => ?_) (fun g14 => ?_)
              · rw [if_pos g14] at h
                refine lv_aload_n hx hb dX5_readNumbers_128 rfl (lv_at hl 0 rfl) ?_
                refine lv_dup hx hb dX5_readNumbers_129 rfl ?_
                refine gX5_77 hx hb hB hown hK hw dX5_readNumbers_130 ?_
                refine lv_iconst (v := 1) hx hb dX5_readNumbers_133 (by decide) ?_
                refine lv_iadd hx hb dX5_readNumbers_134 ?_
                refine pX5_77 hx hb hB hown hK hw hS (fun _ z => z) dX5_readNumbers_135 (fun H15 L15 hw hS => ?_)
                refine lv_iinc (v := (v2_2 + 1)) (lv' := [(2, .int (v2_2 + 1)), (0, .ref (am 0)), (1, .int v1_2)]) hx hb dX5_readNumbers_138 hl (k := 2) rfl rfl (by decide) rfl (fun ls hl => ?_)
                refine lv_goto (tgt := 2) hx hb dX5_readNumbers_141 (by decide) ?_
                exact ih_2 v1_2 (v2_2 + 1) (u2 (u2 (u2 S_2 6 v2_2.toNatClampNeg (r5 - 48)) 0 11 (((u2 S_2 6 v2_2.toNatClampNeg (r5 - 48)) 0 11) + 1)) 0 11 (((u2 (u2 S_2 6 v2_2.toNatClampNeg (r5 - 48)) 0 11 (((u2 S_2 6 v2_2.toNatClampNeg (r5 - 48)) 0 11) + 1)) 0 11) + 1)) _ _ _ (lv_sub hl [1, 2, 0] rfl) hw hS h
              · rw [if_neg g14] at h
                refine lv_iconst (v := 0) hx hb dX5_readNumbers_126 (by decide) ?_
                cases h
                exact e_zW hx hb hr hlk (by decide) rfl hw hS dX5_readNumbers_127
            · rw [if_neg g13] at h
              refine lv_bipush (v := 44) hx hb dX5_readNumbers_116 (by decide) ?_
              refine lv_goto (tgt := 123) hx hb dX5_readNumbers_118 (by decide) ?_
              refine lv_icmp_eq (tgt := 128) hx hb dX5_readNumbers_123 (by decide) (fun g16 => ?_) (fun g16 => ?_)
              · rw [if_pos g16] at h
                refine lv_aload_n hx hb dX5_readNumbers_128 rfl (lv_at hl 0 rfl) ?_
                refine lv_dup hx hb dX5_readNumbers_129 rfl ?_
                refine gX5_77 hx hb hB hown hK hw dX5_readNumbers_130 ?_
                refine lv_iconst (v := 1) hx hb dX5_readNumbers_133 (by decide) ?_
                refine lv_iadd hx hb dX5_readNumbers_134 ?_
                refine pX5_77 hx hb hB hown hK hw hS (fun _ z => z) dX5_readNumbers_135 (fun H17 L17 hw hS => ?_)
                refine lv_iinc (v := (v2_2 + 1)) (lv' := [(2, .int (v2_2 + 1)), (0, .ref (am 0)), (1, .int v1_2)]) hx hb dX5_readNumbers_138 hl (k := 2) rfl rfl (by decide) rfl (fun ls hl => ?_)
                refine lv_goto (tgt := 2) hx hb dX5_readNumbers_141 (by decide) ?_
                exact ih_2 v1_2 (v2_2 + 1) (u2 (u2 (u2 S_2 6 v2_2.toNatClampNeg (r5 - 48)) 0 11 (((u2 S_2 6 v2_2.toNatClampNeg (r5 - 48)) 0 11) + 1)) 0 11 (((u2 (u2 S_2 6 v2_2.toNatClampNeg (r5 - 48)) 0 11 (((u2 S_2 6 v2_2.toNatClampNeg (r5 - 48)) 0 11) + 1)) 0 11) + 1)) _ _ _ (lv_sub hl [1, 2, 0] rfl) hw hS h
              · rw [if_neg g16] at h
                refine lv_iconst (v := 0) hx hb dX5_readNumbers_126 (by decide) ?_
                cases h
                exact e_zW hx hb hr hlk (by decide) rfl hw hS dX5_readNumbers_127
          · rw [if_neg g11] at h
            refine lv_aload_n hx hb dX5_readNumbers_64 rfl (lv_at hl 0 rfl) ?_
            refine gX5_25 hx hb hB hown hK hw dX5_readNumbers_65 ?_
            refine lv_iload_n hx hb dX5_readNumbers_68 rfl (lv_at hl 2 rfl) ?_
            refine lv_bipush (v := 10) hx hb dX5_readNumbers_69 (by decide) ?_
            refine lv_aload_n hx hb dX5_readNumbers_71 rfl (lv_at hl 0 rfl) ?_
            refine gX5_25 hx hb hB hown hK hw dX5_readNumbers_72 ?_
            refine lv_iload_n hx hb dX5_readNumbers_75 rfl (lv_at hl 2 rfl) ?_
            obtain ⟨g18, h⟩ := gB_ok h
            refine lM hx hb hK hw (by decide) (by decide) (ib_ok g18) dX5_readNumbers_76 ?_
            refine lv_imul hx hb dX5_readNumbers_77 ?_
            refine lv_aload_n hx hb dX5_readNumbers_78 rfl (lv_at hl 0 rfl) ?_
            refine lv_aload_n hx hb dX5_readNumbers_79 rfl (lv_at hl 0 rfl) ?_
            refine gX5_77 hx hb hB hown hK hw dX5_readNumbers_80 ?_
            obtain ⟨r19, e19, h⟩ := ob h
            refine k_VR ⟨hx, hb, hml, hown, hB⟩ (c_X5_letterAt l E am (u2 (u2 S_2 6 v2_2.toNatClampNeg (r5 - 48)) 0 11 (((u2 S_2 6 v2_2.toNatClampNeg (r5 - 48)) 0 11) + 1)) ((u2 (u2 S_2 6 v2_2.toNatClampNeg (r5 - 48)) 0 11 (((u2 S_2 6 v2_2.toNatClampNeg (r5 - 48)) 0 11) + 1)) 0 11) r19 e19) (clX5_80 hB rfl rfl ⟨Nat.le_of_ble_eq_true rfl, Nat.le_of_ble_eq_true rfl⟩) hK hw (rvM hK hw) rfl hl.1 rfl (Nat.le_of_ble_eq_true rfl) dX5_readNumbers_83 ⟨Nat.zero_le _, Nat.zero_le _⟩ ?_
            refine lv_iadd hx hb dX5_readNumbers_86 ?_
            refine lv_bipush (v := 48) hx hb dX5_readNumbers_87 (by decide) ?_
            refine lv_isub hx hb dX5_readNumbers_89 ?_
            obtain ⟨g20, h⟩ := gB_ok h
            refine sM hx hb hK hw hS (fun _ z => z) (by decide) (by decide) (ib_ok g20) dX5_readNumbers_90 (fun H21 L21 hw hS => ?_)
            refine lv_aload_n hx hb dX5_readNumbers_91 rfl (lv_at hl 0 rfl) ?_
            refine lv_dup hx hb dX5_readNumbers_92 rfl ?_
            refine gX5_77 hx hb hB hown hK hw dX5_readNumbers_93 ?_
            refine lv_iconst (v := 1) hx hb dX5_readNumbers_96 (by decide) ?_
            refine lv_iadd hx hb dX5_readNumbers_97 ?_
            refine pX5_77 hx hb hB hown hK hw hS (fun _ z => z) dX5_readNumbers_98 (fun H22 L22 hw hS => ?_)
            refine lv_aload_n hx hb dX5_readNumbers_101 rfl (lv_at hl 0 rfl) ?_
            refine lv_aload_n hx hb dX5_readNumbers_102 rfl (lv_at hl 0 rfl) ?_
            refine gX5_77 hx hb hB hown hK hw dX5_readNumbers_103 ?_
            obtain ⟨r23, e23, h⟩ := ob h
            refine k_VR ⟨hx, hb, hml, hown, hB⟩ (c_X5_letterAt l E am (u2 (u2 (u2 (u2 S_2 6 v2_2.toNatClampNeg (r5 - 48)) 0 11 (((u2 S_2 6 v2_2.toNatClampNeg (r5 - 48)) 0 11) + 1)) 6 v2_2.toNatClampNeg (((10 * ((u2 (u2 S_2 6 v2_2.toNatClampNeg (r5 - 48)) 0 11 (((u2 S_2 6 v2_2.toNatClampNeg (r5 - 48)) 0 11) + 1)) 6 v2_2.toNatClampNeg)) + r19) - 48)) 0 11 (((u2 (u2 (u2 S_2 6 v2_2.toNatClampNeg (r5 - 48)) 0 11 (((u2 S_2 6 v2_2.toNatClampNeg (r5 - 48)) 0 11) + 1)) 6 v2_2.toNatClampNeg (((10 * ((u2 (u2 S_2 6 v2_2.toNatClampNeg (r5 - 48)) 0 11 (((u2 S_2 6 v2_2.toNatClampNeg (r5 - 48)) 0 11) + 1)) 6 v2_2.toNatClampNeg)) + r19) - 48)) 0 11) + 1)) ((u2 (u2 (u2 (u2 S_2 6 v2_2.toNatClampNeg (r5 - 48)) 0 11 (((u2 S_2 6 v2_2.toNatClampNeg (r5 - 48)) 0 11) + 1)) 6 v2_2.toNatClampNeg (((10 * ((u2 (u2 S_2 6 v2_2.toNatClampNeg (r5 - 48)) 0 11 (((u2 S_2 6 v2_2.toNatClampNeg (r5 - 48)) 0 11) + 1)) 6 v2_2.toNatClampNeg)) + r19) - 48)) 0 11 (((u2 (u2 (u2 S_2 6 v2_2.toNatClampNeg (r5 - 48)) 0 11 (((u2 S_2 6 v2_2.toNatClampNeg (r5 - 48)) 0 11) + 1)) 6 v2_2.toNatClampNeg (((10 * ((u2 (u2 S_2 6 v2_2.toNatClampNeg (r5 - 48)) 0 11 (((u2 S_2 6 v2_2.toNatClampNeg (r5 - 48)) 0 11) + 1)) 6 v2_2.toNatClampNeg)) + r19) - 48)) 0 11) + 1)) 0 11) r23 e23) (clX5_80 hB rfl rfl ⟨Nat.le_of_ble_eq_true rfl, Nat.le_of_ble_eq_true rfl⟩) hK hw (rvM hK hw) rfl hl.1 rfl (Nat.le_of_ble_eq_true rfl) dX5_readNumbers_106 ⟨Nat.zero_le _, Nat.zero_le _⟩ ?_
            refine lv_iload_n hx hb dX5_readNumbers_109 rfl (lv_at hl 2 rfl) ?_
            refine lv_iload_n hx hb dX5_readNumbers_110 rfl (lv_at hl 1 rfl) ?_
            refine lv_iconst (v := 1) hx hb dX5_readNumbers_111 (by decide) ?_
            refine lv_isub hx hb dX5_readNumbers_112 ?_
            refine lv_icmp_ge (tgt := 121) hx hb dX5_readNumbers_113 (by decide) (fun g24 => ?_) (fun g24 => ?_)
            · rw [if_pos g24] at h
              refine lv_bipush (v := 59) hx hb dX5_readNumbers_121 (by decide) ?_
              refine lv_icmp_eq (tgt := 128) hx hb dX5_readNumbers_123 (by decide) (fun g25 => ?_) (fun g25 => ?_)
              · rw [if_pos g25] at h
                refine lv_aload_n hx hb dX5_readNumbers_128 rfl (lv_at hl 0 rfl) ?_
                refine lv_dup hx hb dX5_readNumbers_129 rfl ?_
                refine gX5_77 hx hb hB hown hK hw dX5_readNumbers_130 ?_
                refine lv_iconst (v := 1) hx hb dX5_readNumbers_133 (by decide) ?_
                refine lv_iadd hx hb dX5_readNumbers_134 ?_
                refine pX5_77 hx hb hB hown hK hw hS (fun _ z => z) dX5_readNumbers_135 (fun H26 L26 hw hS => ?_)
                refine lv_iinc (v := (v2_2 + 1)) (lv' := [(2, .int (v2_2 + 1)), (0, .ref (am 0)), (1, .int v1_2)]) hx hb dX5_readNumbers_138 hl (k := 2) rfl rfl (by decide) rfl (fun ls hl => ?_)
                refine lv_goto (tgt := 2) hx hb dX5_readNumbers_141 (by decide) ?_
                exact ih_2 v1_2 (v2_2 + 1) (u2 (u2 (u2 (u2 (u2 S_2 6 v2_2.toNatClampNeg (r5 - 48)) 0 11 (((u2 S_2 6 v2_2.toNatClampNeg (r5 - 48)) 0 11) + 1)) 6 v2_2.toNatClampNeg (((10 * ((u2 (u2 S_2 6 v2_2.toNatClampNeg (r5 - 48)) 0 11 (((u2 S_2 6 v2_2.toNatClampNeg (r5 - 48)) 0 11) + 1)) 6 v2_2.toNatClampNeg)) + r19) - 48)) 0 11 (((u2 (u2 (u2 S_2 6 v2_2.toNatClampNeg (r5 - 48)) 0 11 (((u2 S_2 6 v2_2.toNatClampNeg (r5 - 48)) 0 11) + 1)) 6 v2_2.toNatClampNeg (((10 * ((u2 (u2 S_2 6 v2_2.toNatClampNeg (r5 - 48)) 0 11 (((u2 S_2 6 v2_2.toNatClampNeg (r5 - 48)) 0 11) + 1)) 6 v2_2.toNatClampNeg)) + r19) - 48)) 0 11) + 1)) 0 11 (((u2 (u2 (u2 (u2 S_2 6 v2_2.toNatClampNeg (r5 - 48)) 0 11 (((u2 S_2 6 v2_2.toNatClampNeg (r5 - 48)) 0 11) + 1)) 6 v2_2.toNatClampNeg (((10 * ((u2 (u2 S_2 6 v2_2.toNatClampNeg (r5 - 48)) 0 11 (((u2 S_2 6 v2_2.toNatClampNeg (r5 - 48)) 0 11) + 1)) 6 v2_2.toNatClampNeg)) + r19) - 48)) 0 11 (((u2 (u2 (u2 S_2 6 v2_2.toNatClampNeg (r5 - 48)) 0 11 (((u2 S_2 6 v2_2.toNatClampNeg (r5 - 48)) 0 11) + 1)) 6 v2_2.toNatClampNeg (((10 * ((u2 (u2 S_2 6 v2_2.toNatClampNeg (r5 - 48)) 0 11 (((u2 S_2 6 v2_2.toNatClampNeg (r5 - 48)) 0 11) + 1)) 6 v2_2.toNatClampNeg)) + r19) - 48)) 0 11) + 1)) 0 11) + 1)) _ _ _ (lv_sub hl [1, 2, 0] rfl) hw hS h
              · rw [if_neg g25] at h
                refine lv_iconst (v := 0) hx hb dX5_readNumbers_126 (by decide) ?_
                cases h
                exact e_zW hx hb hr hlk (by decide) rfl hw hS dX5_readNumbers_127
            · rw [if_neg g24] at h
              refine lv_bipush (v := 44) hx hb dX5_readNumbers_116 (by decide) ?_
              refine lv_goto (tgt := 123) hx hb dX5_readNumbers_118 (by decide) ?_
              refine lv_icmp_eq (tgt := 128) hx hb dX5_readNumbers_123 (by decide) (fun g27 => ?_) (fun g27 => ?_)
              · rw [if_pos g27] at h
                refine lv_aload_n hx hb dX5_readNumbers_128 rfl (lv_at hl 0 rfl) ?_
                refine lv_dup hx hb dX5_readNumbers_129 rfl ?_
                refine gX5_77 hx hb hB hown hK hw dX5_readNumbers_130 ?_
                refine lv_iconst (v := 1) hx hb dX5_readNumbers_133 (by decide) ?_
                refine lv_iadd hx hb dX5_readNumbers_134 ?_
                refine pX5_77 hx hb hB hown hK hw hS (fun _ z => z) dX5_readNumbers_135 (fun H28 L28 hw hS => ?_)
                refine lv_iinc (v := (v2_2 + 1)) (lv' := [(2, .int (v2_2 + 1)), (0, .ref (am 0)), (1, .int v1_2)]) hx hb dX5_readNumbers_138 hl (k := 2) rfl rfl (by decide) rfl (fun ls hl => ?_)
                refine lv_goto (tgt := 2) hx hb dX5_readNumbers_141 (by decide) ?_
                exact ih_2 v1_2 (v2_2 + 1) (u2 (u2 (u2 (u2 (u2 S_2 6 v2_2.toNatClampNeg (r5 - 48)) 0 11 (((u2 S_2 6 v2_2.toNatClampNeg (r5 - 48)) 0 11) + 1)) 6 v2_2.toNatClampNeg (((10 * ((u2 (u2 S_2 6 v2_2.toNatClampNeg (r5 - 48)) 0 11 (((u2 S_2 6 v2_2.toNatClampNeg (r5 - 48)) 0 11) + 1)) 6 v2_2.toNatClampNeg)) + r19) - 48)) 0 11 (((u2 (u2 (u2 S_2 6 v2_2.toNatClampNeg (r5 - 48)) 0 11 (((u2 S_2 6 v2_2.toNatClampNeg (r5 - 48)) 0 11) + 1)) 6 v2_2.toNatClampNeg (((10 * ((u2 (u2 S_2 6 v2_2.toNatClampNeg (r5 - 48)) 0 11 (((u2 S_2 6 v2_2.toNatClampNeg (r5 - 48)) 0 11) + 1)) 6 v2_2.toNatClampNeg)) + r19) - 48)) 0 11) + 1)) 0 11 (((u2 (u2 (u2 (u2 S_2 6 v2_2.toNatClampNeg (r5 - 48)) 0 11 (((u2 S_2 6 v2_2.toNatClampNeg (r5 - 48)) 0 11) + 1)) 6 v2_2.toNatClampNeg (((10 * ((u2 (u2 S_2 6 v2_2.toNatClampNeg (r5 - 48)) 0 11 (((u2 S_2 6 v2_2.toNatClampNeg (r5 - 48)) 0 11) + 1)) 6 v2_2.toNatClampNeg)) + r19) - 48)) 0 11 (((u2 (u2 (u2 S_2 6 v2_2.toNatClampNeg (r5 - 48)) 0 11 (((u2 S_2 6 v2_2.toNatClampNeg (r5 - 48)) 0 11) + 1)) 6 v2_2.toNatClampNeg (((10 * ((u2 (u2 S_2 6 v2_2.toNatClampNeg (r5 - 48)) 0 11 (((u2 S_2 6 v2_2.toNatClampNeg (r5 - 48)) 0 11) + 1)) 6 v2_2.toNatClampNeg)) + r19) - 48)) 0 11) + 1)) 0 11) + 1)) _ _ _ (lv_sub hl [1, 2, 0] rfl) hw hS h
              · rw [if_neg g27] at h
                refine lv_iconst (v := 0) hx hb dX5_readNumbers_126 (by decide) ?_
                cases h
                exact e_zW hx hb hr hlk (by decide) rfl hw hS dX5_readNumbers_127
        · rw [if_pos g4] at h
          refine lv_iconst (v := 0) hx hb dX5_readNumbers_21 (by decide) ?_
          cases h
          exact e_zW hx hb hr hlk (by decide) rfl hw hS dX5_readNumbers_22
  refine lv_iconst (v := 0) hx hb dX5_readNumbers_0 (by decide) ?_
  refine lv_istore_n (lv' := [(2, .int 0), (0, .ref (am 0)), (1, .int a1)]) hx hb dX5_readNumbers_1 rfl hl (by decide) rfl (fun ls hl => ?_)
  exact hL2 FU a1 0 S _ _ _ (lv_sub hl [1, 2, 0] rfl) hw hS h
def fX5_isTold (S : OS) (a1 : Int32) (a2 : Int32) (a3 : Int32) : Option (Int32) := gB (ib a1 3) ((fX5_in (S 6 a1.toNatClampNeg) a2 a3).bind (fun r2 => (gB (isC .boolean r2) (some r2))))
abbrev rmX5_isTold : Room := { frames := 1, cells := 0, slots := 0, locals := 22 }
set_option maxHeartbeats 4000000 in
set_option maxRecDepth 100000 in
theorem c_X5_isTold (l : Launch) (E : En) (am : Nat → Nat) (S : OS) (a1 : Int32) (a2 : Int32) (a3 : Int32) (r : Int32) (h : fX5_isTold S a1 a2 a3 = some r) : Met l yX5_isTold (kX5_isTold :: BIG) rmX5_isTold (Pk E [.ref (am 0), .int a1, .int a2, .int a3] (MW E am S)) (QcRead r) 0 0 (fun _ => False) := by
  refine Mb (by decide) (Nat.le_of_ble_eq_true rfl) ?_
  intro p e s m below meth c ls hx hb hr hlk hB hown hml _ hK hw hl
  have hl : lv_has ls 4 [(0, .ref (am 0)), (1, .int a1), (2, .int a2), (3, .int a3)] := hl
  rw [fX5_isTold] at h
  refine lv_aload_n hx hb dX5_isTold_0 rfl (lv_at hl 0 rfl) ?_
  refine gX5_25 hx hb hB hown hK hw dX5_isTold_1 ?_
  refine lv_iload_n hx hb dX5_isTold_4 rfl (lv_at hl 1 rfl) ?_
  obtain ⟨g1, h⟩ := gB_ok h
  refine lM hx hb hK hw (by decide) (by decide) (ib_ok g1) dX5_isTold_5 ?_
  refine lv_iload_n hx hb dX5_isTold_6 rfl (lv_at hl 2 rfl) ?_
  refine lv_iload_n hx hb dX5_isTold_7 rfl (lv_at hl 3 rfl) ?_
  obtain ⟨r2, e2, h⟩ := ob h
  refine k_SR ⟨hx, hb, hml, hown, hB⟩ (c_X5_in l E (S 6 a1.toNatClampNeg) a2 a3 r2 e2) (clX5_67 hB rfl rfl ⟨Nat.le_of_ble_eq_true rfl, Nat.le_of_ble_eq_true rfl⟩) hK trivial rfl hl.1 rfl (Nat.le_of_ble_eq_true rfl) dX5_isTold_8 ⟨Nat.zero_le _, Nat.zero_le _⟩ ?_
  obtain ⟨g3, h⟩ := gB_ok h
  exact e_zR hx hb hr hlk (isC_ok g3) h dX5_isTold_11
def fX5_put_L3 (c1 : Nat) (c3 : Nat) (v1_3 : Int32) (v3_3 : Int32) : Nat → Int32 → OS → Option (OS)
  | 0, _, _ => none
  | n_3 + 1, v4_3, S_3 => if v3_3 ≤ v4_3 then some (S_3) else gB (ib v4_3 (lenM c3)) (gB (ib (v1_3 + v4_3) (lenM c1)) (fX5_put_L3 c1 c3 v1_3 v3_3 n_3 (v4_3 + 1) (u2 S_3 c1 (v1_3 + v4_3).toNatClampNeg (S_3 c3 v4_3.toNatClampNeg))))
def fX5_put (S : OS) (c1 : Nat) (a2 : Int32) (c3 : Nat) (a4 : Int32) : Option (OS) := fX5_put_L3 c1 c3 a2 a4 FU 0 S
abbrev rmX5_put : Room := { frames := 0, cells := 0, slots := 0, locals := 0 }
set_option maxHeartbeats 4000000 in
set_option maxRecDepth 100000 in
theorem c_X5_put (l : Launch) (E : En) (am : Nat → Nat) (S : OS) (c1 : Nat) (a2 : Int32) (c3 : Nat) (a4 : Int32) (h01 : 0 < c1) (hc1 : c1 < 13) (h03 : 0 < c3) (hc3 : c3 < 13) (r : OS) (h : fX5_put S c1 a2 c3 a4 = some r) : Met l yX5_put (kX5_put :: BIG) rmX5_put (Pk E [.ref (am c1), .int a2, .ref (am c3), .int a4] (MW E am S)) (QW none (AM am) (MW E am r)) 0 0 (AM am) := by
  refine Mb (by decide) (Nat.le_of_ble_eq_true rfl) ?_
  intro p e s m below meth c ls hx hb hr hlk hB hown hml _ hK hw hl
  have hS : va_S (AM am) s.heap s.heap [] := va_S.rf
  have hl : lv_has ls 5 [(0, .ref (am c1)), (1, .int a2), (2, .ref (am c3)), (3, .int a4)] := hl
  rw [fX5_put] at h
  have hL3 : ∀ (n_3 : Nat) (v1_3 : Int32) (v3_3 : Int32) (v4_3 : Int32) (S_3 : OS) (H_3 : Heap) (L_3 : List Loc) (ls_3 : Array Slot), lv_has ls_3 5 [(0, .ref (am c1)), (1, .int v1_3), (2, .ref (am c3)), (3, .int v3_3), (4, .int v4_3)] → MW E am S_3 H_3 → va_S (AM am) s.heap H_3 L_3 → fX5_put_L3 c1 c3 v1_3 v3_3 n_3 v4_3 S_3 = some r → W p l e rmX5_put s m ([.ref (am c1), .int a2, .ref (am c3), .int a4] : List Value).toArray below meth c H_3 L_3 0 0 (MQ below (QW none (AM am) (MW E am r)) ([.ref (am c1), .int a2, .ref (am c3), .int a4] : List Value).toArray s 0 0 (AM am)) (F0 m 3 ls_3 []) := by
    intro n_3
    induction n_3 with
    | zero =>
      intro v1_3 v3_3 v4_3 S_3 H_3 L_3 ls_3 hl hw hS h
      exact nn h
    | succ n_3 ih_3 =>
      intro v1_3 v3_3 v4_3 S_3 H_3 L_3 ls_3 hl hw hS h
      rw [fX5_put_L3] at h
      refine lv_iload hx hb dX5_put_3 (lv_at hl 4 rfl) ?_
      refine lv_iload_n hx hb dX5_put_5 rfl (lv_at hl 3 rfl) ?_
      refine lv_icmp_ge (tgt := 25) hx hb dX5_put_6 (by decide) (fun g1 => ?_) (fun g1 => ?_)
      · rw [if_pos g1] at h
        cases h
        exact e_vW hx hb hr hlk hw hS dX5_put_25
      · rw [if_neg g1] at h
        refine lv_aload_n hx hb dX5_put_9 rfl (lv_at hl 0 rfl) ?_
        refine lv_iload_n hx hb dX5_put_10 rfl (lv_at hl 1 rfl) ?_
        refine lv_iload hx hb dX5_put_11 (lv_at hl 4 rfl) ?_
        refine lv_iadd hx hb dX5_put_13 ?_
        refine lv_aload_n hx hb dX5_put_14 rfl (lv_at hl 2 rfl) ?_
        refine lv_iload hx hb dX5_put_15 (lv_at hl 4 rfl) ?_
        obtain ⟨g2, h⟩ := gB_ok h
        refine lM hx hb hK hw h03 hc3 (ib_ok g2) dX5_put_17 ?_
        obtain ⟨g3, h⟩ := gB_ok h
        refine sM hx hb hK hw hS (fun _ z => z) h01 hc1 (ib_ok g3) dX5_put_18 (fun H4 L4 hw hS => ?_)
        refine lv_iinc (v := (v4_3 + 1)) (lv' := [(4, .int (v4_3 + 1)), (0, .ref (am c1)), (1, .int v1_3), (2, .ref (am c3)), (3, .int v3_3)]) hx hb dX5_put_19 hl (k := 4) rfl rfl (by decide) rfl (fun ls hl => ?_)
        refine lv_goto (tgt := 3) hx hb dX5_put_22 (by decide) ?_
        exact ih_3 v1_3 v3_3 (v4_3 + 1) (u2 S_3 c1 (v1_3 + v4_3).toNatClampNeg (S_3 c3 v4_3.toNatClampNeg)) _ _ _ (lv_sub hl [1, 2, 3, 4, 0] rfl) hw hS h
  refine lv_iconst (v := 0) hx hb dX5_put_0 (by decide) ?_
  refine lv_istore (lv' := [(4, .int 0), (0, .ref (am c1)), (1, .int a2), (2, .ref (am c3)), (3, .int a4)]) hx hb dX5_put_1 hl (by decide) rfl (fun ls hl => ?_)
  exact hL3 FU a2 a4 0 S _ _ _ (lv_sub hl [1, 2, 3, 4, 0] rfl) hw hS h
def fX5_clearTold_L19 : Nat → Int32 → OS → Option (OS)
  | 0, _, _ => none
  | n_19 + 1, v1_19, S_19 => if 66 ≤ v1_19 then some (S_19) else gB (ib v1_19 66) (fX5_clearTold_L19 n_19 (v1_19 + 1) (u2 S_19 7 v1_19.toNatClampNeg 0))
def fX5_clearTold (S : OS) : Option (OS) := fX5_clearTold_L19 FU 0 (u2 (u2 (u2 S 0 13 6) 0 14 60) 0 15 0)
abbrev rmX5_clearTold : Room := { frames := 0, cells := 0, slots := 0, locals := 0 }
set_option maxHeartbeats 4000000 in
set_option maxRecDepth 100000 in
theorem c_X5_clearTold (l : Launch) (E : En) (am : Nat → Nat) (S : OS) (r : OS) (h : fX5_clearTold S = some r) : Met l yX5_clearTold (kX5_clearTold :: BIG) rmX5_clearTold (Pk E [.ref (am 0)] (MW E am S)) (QW none (AM am) (MW E am r)) 0 0 (AM am) := by
  refine Mb (by decide) (Nat.le_of_ble_eq_true rfl) ?_
  intro p e s m below meth c ls hx hb hr hlk hB hown hml _ hK hw hl
  have hS : va_S (AM am) s.heap s.heap [] := va_S.rf
  have hl : lv_has ls 2 [(0, .ref (am 0))] := hl
  rw [fX5_clearTold] at h
  have hL19 : ∀ (n_19 : Nat) (v1_19 : Int32) (S_19 : OS) (H_19 : Heap) (L_19 : List Loc) (ls_19 : Array Slot), lv_has ls_19 2 [(0, .ref (am 0)), (1, .int v1_19)] → MW E am S_19 H_19 → va_S (AM am) s.heap H_19 L_19 → fX5_clearTold_L19 n_19 v1_19 S_19 = some r → W p l e rmX5_clearTold s m ([.ref (am 0)] : List Value).toArray below meth c H_19 L_19 0 0 (MQ below (QW none (AM am) (MW E am r)) ([.ref (am 0)] : List Value).toArray s 0 0 (AM am)) (F0 m 19 ls_19 []) := by
    intro n_19
    induction n_19 with
    | zero =>
      intro v1_19 S_19 H_19 L_19 ls_19 hl hw hS h
      exact nn h
    | succ n_19 ih_19 =>
      intro v1_19 S_19 H_19 L_19 ls_19 hl hw hS h
      rw [fX5_clearTold_L19] at h
      refine lv_iload_n hx hb dX5_clearTold_19 rfl (lv_at hl 1 rfl) ?_
      refine lv_bipush (v := 66) hx hb dX5_clearTold_20 (by decide) ?_
      refine lv_icmp_ge (tgt := 38) hx hb dX5_clearTold_22 (by decide) (fun g1 => ?_) (fun g1 => ?_)
      · rw [if_pos g1] at h
        cases h
        exact e_vW hx hb hr hlk hw hS dX5_clearTold_38
      · rw [if_neg g1] at h
        refine lv_aload_n hx hb dX5_clearTold_25 rfl (lv_at hl 0 rfl) ?_
        refine gX5_28 hx hb hB hown hK hw dX5_clearTold_26 ?_
        refine lv_iload_n hx hb dX5_clearTold_29 rfl (lv_at hl 1 rfl) ?_
        refine lv_iconst (v := 0) hx hb dX5_clearTold_30 (by decide) ?_
        obtain ⟨g2, h⟩ := gB_ok h
        refine sM hx hb hK hw hS (fun _ z => z) (by decide) (by decide) (ib_ok g2) dX5_clearTold_31 (fun H3 L3 hw hS => ?_)
        refine lv_iinc (v := (v1_19 + 1)) (lv' := [(1, .int (v1_19 + 1)), (0, .ref (am 0))]) hx hb dX5_clearTold_32 hl (k := 1) rfl rfl (by decide) rfl (fun ls hl => ?_)
        refine lv_goto (tgt := 19) hx hb dX5_clearTold_35 (by decide) ?_
        exact ih_19 (v1_19 + 1) (u2 S_19 7 v1_19.toNatClampNeg 0) _ _ _ (lv_sub hl [1, 0] rfl) hw hS h
  refine lv_aload_n hx hb dX5_clearTold_0 rfl (lv_at hl 0 rfl) ?_
  refine lv_bipush (v := 6) hx hb dX5_clearTold_1 (by decide) ?_
  refine pX5_49 hx hb hB hown hK hw hS (fun _ z => z) dX5_clearTold_3 (fun H4 L4 hw hS => ?_)
  refine lv_aload_n hx hb dX5_clearTold_6 rfl (lv_at hl 0 rfl) ?_
  refine lv_bipush (v := 60) hx hb dX5_clearTold_7 (by decide) ?_
  refine pX5_61 hx hb hB hown hK hw hS (fun _ z => z) dX5_clearTold_9 (fun H5 L5 hw hS => ?_)
  refine lv_aload_n hx hb dX5_clearTold_12 rfl (lv_at hl 0 rfl) ?_
  refine lv_iconst (v := 0) hx hb dX5_clearTold_13 (by decide) ?_
  refine pX5_88 hx hb hB hown hK hw hS (fun _ z => z) (by decide) (by decide) dX5_clearTold_14 (fun H6 L6 hw hS => ?_)
  refine lv_iconst (v := 0) hx hb dX5_clearTold_17 (by decide) ?_
  refine lv_istore_n (lv' := [(1, .int 0), (0, .ref (am 0))]) hx hb dX5_clearTold_18 rfl hl (by decide) rfl (fun ls hl => ?_)
  exact hL19 FU 0 (u2 (u2 (u2 S 0 13 6) 0 14 60) 0 15 0) _ _ _ (lv_sub hl [1, 0] rfl) hw hS h
def fX5_readPlotsOf (S : OS) : Option (Int32 × OS) := if (S 0 15) = 0 then (fX5_readNumbers S 1).bind (fun r3 => (if r3.1 = 0 then some (0, (u2 r3.2 0 13 (r3.2 0 13))) else (fX5_isTold r3.2 0 2 8).bind (fun r7 => (if r7 = 0 then some (0, (u2 r3.2 0 13 (r3.2 0 13))) else some (1, (u2 r3.2 0 13 (r3.2 6 (0 : Int32).toNatClampNeg))))))) else some (0, (u2 S 0 13 (S 0 13)))
abbrev rmX5_readPlotsOf : Room := { frames := 3, cells := 0, slots := 0, locals := 64 }
set_option maxHeartbeats 4000000 in
set_option maxRecDepth 100000 in
theorem c_X5_readPlotsOf (l : Launch) (E : En) (am : Nat → Nat) (S : OS) (r : Int32 × OS) (h : fX5_readPlotsOf S = some r) : Met l yX5_readPlotsOf (kX5_readPlotsOf :: BIG) rmX5_readPlotsOf (Pk E [.ref (am 0)] (MW E am S)) (QW (some (.int r.1)) (AM am) (MW E am r.2)) 0 0 (AM am) := by
  refine Mb (by decide) (Nat.le_of_ble_eq_true rfl) ?_
  intro p e s m below meth c ls hx hb hr hlk hB hown hml _ hK hw hl
  have hS : va_S (AM am) s.heap s.heap [] := va_S.rf
  have hl : lv_has ls 2 [(0, .ref (am 0))] := hl
  rw [fX5_readPlotsOf] at h
  refine lv_aload_n hx hb dX5_readPlotsOf_0 rfl (lv_at hl 0 rfl) ?_
  refine gX5_88 hx hb hB hown hK hw dX5_readPlotsOf_1 ?_
  refine lv_if_ne (tgt := 30) hx hb dX5_readPlotsOf_4 (by decide) (fun g1 => ?_) (fun g1 => ?_)
  · rw [if_neg g1] at h
    refine lv_iconst (v := 0) hx hb dX5_readPlotsOf_30 (by decide) ?_
    refine lv_istore_n (lv' := [(1, .int 0), (0, .ref (am 0))]) hx hb dX5_readPlotsOf_31 rfl hl (by decide) rfl (fun ls hl => ?_)
    refine lv_aload_n hx hb dX5_readPlotsOf_32 rfl (lv_at hl 1 rfl) ?_
    refine lv_iload_n hx hb dX5_readPlotsOf_33 rfl (lv_at hl 0 rfl) ?_
    refine lv_if_eq (tgt := 46) hx hb dX5_readPlotsOf_34 (by decide) (fun _ => ?_) (fun g => absurd (by decide) g)
    refine lv_aload_n hx hb dX5_readPlotsOf_46 rfl (lv_at hl 1 rfl) ?_
    refine gX5_49 hx hb hB hown hK hw dX5_readPlotsOf_47 ?_
    refine pX5_49 hx hb hB hown hK hw hS (fun _ z => z) dX5_readPlotsOf_50 (fun H2 L2 hw hS => ?_)
    refine lv_iload_n hx hb dX5_readPlotsOf_53 rfl (lv_at hl 0 rfl) ?_
    cases h
    exact e_zW hx hb hr hlk (by decide) rfl hw hS dX5_readPlotsOf_54
  · rw [if_pos g1] at h
    refine lv_aload_n hx hb dX5_readPlotsOf_7 rfl (lv_at hl 0 rfl) ?_
    refine lv_iconst (v := 1) hx hb dX5_readPlotsOf_8 (by decide) ?_
    obtain ⟨r3, e3, h⟩ := ob h
    refine k_VWi ⟨hx, hb, hml, hown, hB⟩ (c_X5_readNumbers l E am S 1 r3 e3) (clX5_92 hB rfl rfl ⟨Nat.le_of_ble_eq_true rfl, Nat.le_of_ble_eq_true rfl⟩) hK hw (rvM hK hw) rfl hl.1 rfl (Nat.le_of_ble_eq_true rfl) dX5_readPlotsOf_9 ⟨Nat.zero_le _, Nat.zero_le _⟩ hS (fun _ z => z) (fun H4 L4 hw _ _ hS => ?_)
    refine lv_if_eq (tgt := 30) hx hb dX5_readPlotsOf_12 (by decide) (fun g5 => ?_) (fun g5 => ?_)
    · rw [if_pos g5] at h
      refine lv_iconst (v := 0) hx hb dX5_readPlotsOf_30 (by decide) ?_
      refine lv_istore_n (lv' := [(1, .int 0), (0, .ref (am 0))]) hx hb dX5_readPlotsOf_31 rfl hl (by decide) rfl (fun ls hl => ?_)
      refine lv_aload_n hx hb dX5_readPlotsOf_32 rfl (lv_at hl 1 rfl) ?_
      refine lv_iload_n hx hb dX5_readPlotsOf_33 rfl (lv_at hl 0 rfl) ?_
      refine lv_if_eq (tgt := 46) hx hb dX5_readPlotsOf_34 (by decide) (fun _ => ?_) (fun g => absurd (by decide) g)
      refine lv_aload_n hx hb dX5_readPlotsOf_46 rfl (lv_at hl 1 rfl) ?_
      refine gX5_49 hx hb hB hown hK hw dX5_readPlotsOf_47 ?_
      refine pX5_49 hx hb hB hown hK hw hS (fun _ z => z) dX5_readPlotsOf_50 (fun H6 L6 hw hS => ?_)
      refine lv_iload_n hx hb dX5_readPlotsOf_53 rfl (lv_at hl 0 rfl) ?_
      cases h
      exact e_zW hx hb hr hlk (by decide) rfl hw hS dX5_readPlotsOf_54
    · rw [if_neg g5] at h
      refine lv_aload_n hx hb dX5_readPlotsOf_15 rfl (lv_at hl 0 rfl) ?_
      refine lv_iconst (v := 0) hx hb dX5_readPlotsOf_16 (by decide) ?_
      refine lv_iconst (v := 2) hx hb dX5_readPlotsOf_17 (by decide) ?_
      refine lv_bipush (v := 8) hx hb dX5_readPlotsOf_18 (by decide) ?_
      obtain ⟨r7, e7, h⟩ := ob h
      refine k_VR ⟨hx, hb, hml, hown, hB⟩ (c_X5_isTold l E am r3.2 0 2 8 r7 e7) (clX5_95 hB rfl rfl ⟨Nat.le_of_ble_eq_true rfl, Nat.le_of_ble_eq_true rfl⟩) hK hw (rvM hK hw) rfl hl.1 rfl (Nat.le_of_ble_eq_true rfl) dX5_readPlotsOf_20 ⟨Nat.zero_le _, Nat.zero_le _⟩ ?_
      refine lv_if_eq (tgt := 30) hx hb dX5_readPlotsOf_23 (by decide) (fun g8 => ?_) (fun g8 => ?_)
      · rw [if_pos g8] at h
        refine lv_iconst (v := 0) hx hb dX5_readPlotsOf_30 (by decide) ?_
        refine lv_istore_n (lv' := [(1, .int 0), (0, .ref (am 0))]) hx hb dX5_readPlotsOf_31 rfl hl (by decide) rfl (fun ls hl => ?_)
        refine lv_aload_n hx hb dX5_readPlotsOf_32 rfl (lv_at hl 1 rfl) ?_
        refine lv_iload_n hx hb dX5_readPlotsOf_33 rfl (lv_at hl 0 rfl) ?_
        refine lv_if_eq (tgt := 46) hx hb dX5_readPlotsOf_34 (by decide) (fun _ => ?_) (fun g => absurd (by decide) g)
        refine lv_aload_n hx hb dX5_readPlotsOf_46 rfl (lv_at hl 1 rfl) ?_
        refine gX5_49 hx hb hB hown hK hw dX5_readPlotsOf_47 ?_
        refine pX5_49 hx hb hB hown hK hw hS (fun _ z => z) dX5_readPlotsOf_50 (fun H9 L9 hw hS => ?_)
        refine lv_iload_n hx hb dX5_readPlotsOf_53 rfl (lv_at hl 0 rfl) ?_
        cases h
        exact e_zW hx hb hr hlk (by decide) rfl hw hS dX5_readPlotsOf_54
      · rw [if_neg g8] at h
        refine lv_iconst (v := 1) hx hb dX5_readPlotsOf_26 (by decide) ?_
        refine lv_goto (tgt := 31) hx hb dX5_readPlotsOf_27 (by decide) ?_
        refine lv_istore_n (lv' := [(1, .int 1), (0, .ref (am 0))]) hx hb dX5_readPlotsOf_31 rfl hl (by decide) rfl (fun ls hl => ?_)
        refine lv_aload_n hx hb dX5_readPlotsOf_32 rfl (lv_at hl 1 rfl) ?_
        refine lv_iload_n hx hb dX5_readPlotsOf_33 rfl (lv_at hl 0 rfl) ?_
        refine lv_if_eq (tgt := 46) hx hb dX5_readPlotsOf_34 (by decide) (fun g => absurd g (by decide)) (fun _ => ?_)
        refine lv_aload_n hx hb dX5_readPlotsOf_37 rfl (lv_at hl 1 rfl) ?_
        refine gX5_25 hx hb hB hown hK hw dX5_readPlotsOf_38 ?_
        refine lv_iconst (v := 0) hx hb dX5_readPlotsOf_41 (by decide) ?_
        refine lM hx hb hK hw (by decide) (by decide) (ib_ok (by decide)) dX5_readPlotsOf_42 ?_
        refine lv_goto (tgt := 50) hx hb dX5_readPlotsOf_43 (by decide) ?_
        refine pX5_49 hx hb hB hown hK hw hS (fun _ z => z) dX5_readPlotsOf_50 (fun H10 L10 hw hS => ?_)
        refine lv_iload_n hx hb dX5_readPlotsOf_53 rfl (lv_at hl 0 rfl) ?_
        cases h
        exact e_zW hx hb hr hlk (by decide) rfl hw hS dX5_readPlotsOf_54
def fX5_readDeadOf (S : OS) : Option (Int32 × OS) := if (S 7 (0 : Int32).toNatClampNeg) = 12 then some (0, S) else (fX5_readNumbers S 3).bind (fun r2 => (if r2.1 = 0 then some (0, r2.2) else (fX5_isTold r2.2 0 0 1).bind (fun r5 => (if r5 = 0 then some (0, r2.2) else (fX5_isTold r2.2 1 0 3).bind (fun r7 => (if r7 = 0 then some (0, r2.2) else (fX5_isTold r2.2 2 0 9).bind (fun r9 => (if r9 = 0 then some (0, r2.2) else (fX5_tellsDead r2.2 (r2.2 6 (0 : Int32).toNatClampNeg) (r2.2 6 (1 : Int32).toNatClampNeg) (r2.2 6 (2 : Int32).toNatClampNeg)).bind (fun r11 => (some (1, r11)))))))))))
abbrev rmX5_readDeadOf : Room := { frames := 3, cells := 0, slots := 0, locals := 64 }
set_option maxHeartbeats 4000000 in
set_option maxRecDepth 100000 in
theorem c_X5_readDeadOf (l : Launch) (E : En) (am : Nat → Nat) (S : OS) (r : Int32 × OS) (h : fX5_readDeadOf S = some r) : Met l yX5_readDeadOf (kX5_readDeadOf :: BIG) rmX5_readDeadOf (Pk E [.ref (am 0)] (MW E am S)) (QW (some (.int r.1)) (AM am) (MW E am r.2)) 0 0 (AM am) := by
  refine Mb (by decide) (Nat.le_of_ble_eq_true rfl) ?_
  intro p e s m below meth c ls hx hb hr hlk hB hown hml _ hK hw hl
  have hS : va_S (AM am) s.heap s.heap [] := va_S.rf
  have hl : lv_has ls 1 [(0, .ref (am 0))] := hl
  rw [fX5_readDeadOf] at h
  refine lv_aload_n hx hb dX5_readDeadOf_0 rfl (lv_at hl 0 rfl) ?_
  refine gX5_28 hx hb hB hown hK hw dX5_readDeadOf_1 ?_
  refine lv_iconst (v := 0) hx hb dX5_readDeadOf_4 (by decide) ?_
  refine lM hx hb hK hw (by decide) (by decide) (ib_ok (by decide)) dX5_readDeadOf_5 ?_
  refine lv_bipush (v := 12) hx hb dX5_readDeadOf_6 (by decide) ?_
  refine lv_icmp_eq (tgt := 50) hx hb dX5_readDeadOf_8 (by decide) (fun g1 => ?_) (fun g1 => ?_)
  · rw [if_pos g1] at h
    refine lv_iconst (v := 0) hx hb dX5_readDeadOf_50 (by decide) ?_
    cases h
    exact e_zW hx hb hr hlk (by decide) rfl hw hS dX5_readDeadOf_51
  · rw [if_neg g1] at h
    refine lv_aload_n hx hb dX5_readDeadOf_11 rfl (lv_at hl 0 rfl) ?_
    refine lv_iconst (v := 3) hx hb dX5_readDeadOf_12 (by decide) ?_
    obtain ⟨r2, e2, h⟩ := ob h
    refine k_VWi ⟨hx, hb, hml, hown, hB⟩ (c_X5_readNumbers l E am S 3 r2 e2) (clX5_92 hB rfl rfl ⟨Nat.le_of_ble_eq_true rfl, Nat.le_of_ble_eq_true rfl⟩) hK hw (rvM hK hw) rfl hl.1 rfl (Nat.le_of_ble_eq_true rfl) dX5_readDeadOf_13 ⟨Nat.zero_le _, Nat.zero_le _⟩ hS (fun _ z => z) (fun H3 L3 hw _ _ hS => ?_)
    refine lv_if_eq (tgt := 50) hx hb dX5_readDeadOf_16 (by decide) (fun g4 => ?_) (fun g4 => ?_)
    · rw [if_pos g4] at h
      refine lv_iconst (v := 0) hx hb dX5_readDeadOf_50 (by decide) ?_
      cases h
      exact e_zW hx hb hr hlk (by decide) rfl hw hS dX5_readDeadOf_51
    · rw [if_neg g4] at h
      refine lv_aload_n hx hb dX5_readDeadOf_19 rfl (lv_at hl 0 rfl) ?_
      refine lv_iconst (v := 0) hx hb dX5_readDeadOf_20 (by decide) ?_
      refine lv_iconst (v := 0) hx hb dX5_readDeadOf_21 (by decide) ?_
      refine lv_iconst (v := 1) hx hb dX5_readDeadOf_22 (by decide) ?_
      obtain ⟨r5, e5, h⟩ := ob h
      refine k_VR ⟨hx, hb, hml, hown, hB⟩ (c_X5_isTold l E am r2.2 0 0 1 r5 e5) (clX5_95 hB rfl rfl ⟨Nat.le_of_ble_eq_true rfl, Nat.le_of_ble_eq_true rfl⟩) hK hw (rvM hK hw) rfl hl.1 rfl (Nat.le_of_ble_eq_true rfl) dX5_readDeadOf_23 ⟨Nat.zero_le _, Nat.zero_le _⟩ ?_
      refine lv_if_eq (tgt := 50) hx hb dX5_readDeadOf_26 (by decide) (fun g6 => ?_) (fun g6 => ?_)
      · rw [if_pos g6] at h
        refine lv_iconst (v := 0) hx hb dX5_readDeadOf_50 (by decide) ?_
        cases h
        exact e_zW hx hb hr hlk (by decide) rfl hw hS dX5_readDeadOf_51
      · rw [if_neg g6] at h
        refine lv_aload_n hx hb dX5_readDeadOf_29 rfl (lv_at hl 0 rfl) ?_
        refine lv_iconst (v := 1) hx hb dX5_readDeadOf_30 (by decide) ?_
        refine lv_iconst (v := 0) hx hb dX5_readDeadOf_31 (by decide) ?_
        refine lv_iconst (v := 3) hx hb dX5_readDeadOf_32 (by decide) ?_
        obtain ⟨r7, e7, h⟩ := ob h
        refine k_VR ⟨hx, hb, hml, hown, hB⟩ (c_X5_isTold l E am r2.2 1 0 3 r7 e7) (clX5_95 hB rfl rfl ⟨Nat.le_of_ble_eq_true rfl, Nat.le_of_ble_eq_true rfl⟩) hK hw (rvM hK hw) rfl hl.1 rfl (Nat.le_of_ble_eq_true rfl) dX5_readDeadOf_33 ⟨Nat.zero_le _, Nat.zero_le _⟩ ?_
        refine lv_if_eq (tgt := 50) hx hb dX5_readDeadOf_36 (by decide) (fun g8 => ?_) (fun g8 => ?_)
        · rw [if_pos g8] at h
          refine lv_iconst (v := 0) hx hb dX5_readDeadOf_50 (by decide) ?_
          cases h
          exact e_zW hx hb hr hlk (by decide) rfl hw hS dX5_readDeadOf_51
        · rw [if_neg g8] at h
          refine lv_aload_n hx hb dX5_readDeadOf_39 rfl (lv_at hl 0 rfl) ?_
          refine lv_iconst (v := 2) hx hb dX5_readDeadOf_40 (by decide) ?_
          refine lv_iconst (v := 0) hx hb dX5_readDeadOf_41 (by decide) ?_
          refine lv_bipush (v := 9) hx hb dX5_readDeadOf_42 (by decide) ?_
          obtain ⟨r9, e9, h⟩ := ob h
          refine k_VR ⟨hx, hb, hml, hown, hB⟩ (c_X5_isTold l E am r2.2 2 0 9 r9 e9) (clX5_95 hB rfl rfl ⟨Nat.le_of_ble_eq_true rfl, Nat.le_of_ble_eq_true rfl⟩) hK hw (rvM hK hw) rfl hl.1 rfl (Nat.le_of_ble_eq_true rfl) dX5_readDeadOf_44 ⟨Nat.zero_le _, Nat.zero_le _⟩ ?_
          refine lv_if_ne (tgt := 52) hx hb dX5_readDeadOf_47 (by decide) (fun g10 => ?_) (fun g10 => ?_)
          · rw [if_neg g10] at h
            refine lv_aload_n hx hb dX5_readDeadOf_52 rfl (lv_at hl 0 rfl) ?_
            refine lv_aload_n hx hb dX5_readDeadOf_53 rfl (lv_at hl 0 rfl) ?_
            refine gX5_25 hx hb hB hown hK hw dX5_readDeadOf_54 ?_
            refine lv_iconst (v := 0) hx hb dX5_readDeadOf_57 (by decide) ?_
            refine lM hx hb hK hw (by decide) (by decide) (ib_ok (by decide)) dX5_readDeadOf_58 ?_
            refine lv_aload_n hx hb dX5_readDeadOf_59 rfl (lv_at hl 0 rfl) ?_
            refine gX5_25 hx hb hB hown hK hw dX5_readDeadOf_60 ?_
            refine lv_iconst (v := 1) hx hb dX5_readDeadOf_63 (by decide) ?_
            refine lM hx hb hK hw (by decide) (by decide) (ib_ok (by decide)) dX5_readDeadOf_64 ?_
            refine lv_aload_n hx hb dX5_readDeadOf_65 rfl (lv_at hl 0 rfl) ?_
            refine gX5_25 hx hb hB hown hK hw dX5_readDeadOf_66 ?_
            refine lv_iconst (v := 2) hx hb dX5_readDeadOf_69 (by decide) ?_
            refine lM hx hb hK hw (by decide) (by decide) (ib_ok (by decide)) dX5_readDeadOf_70 ?_
            obtain ⟨r11, e11, h⟩ := ob h
            refine k_VWv ⟨hx, hb, hml, hown, hB⟩ (c_X5_tellsDead l E am r2.2 (r2.2 6 (0 : Int32).toNatClampNeg) (r2.2 6 (1 : Int32).toNatClampNeg) (r2.2 6 (2 : Int32).toNatClampNeg) r11 e11) (clX5_53 hB rfl rfl ⟨Nat.le_of_ble_eq_true rfl, Nat.le_of_ble_eq_true rfl⟩) hK hw (rvM hK hw) rfl hl.1 rfl (Nat.le_of_ble_eq_true rfl) dX5_readDeadOf_71 ⟨Nat.zero_le _, Nat.zero_le _⟩ hS (fun _ z => z) (fun H12 L12 hw _ _ hS => ?_)
            refine lv_iconst (v := 1) hx hb dX5_readDeadOf_74 (by decide) ?_
            cases h
            exact e_zW hx hb hr hlk (by decide) rfl hw hS dX5_readDeadOf_75
          · rw [if_pos g10] at h
            refine lv_iconst (v := 0) hx hb dX5_readDeadOf_50 (by decide) ?_
            cases h
            exact e_zW hx hb hr hlk (by decide) rfl hw hS dX5_readDeadOf_51
def fX5_readGuestOf (S : OS) : Option (Int32 × OS) := if (S 7 (53 : Int32).toNatClampNeg) = 6 then some (0, S) else (fX5_readNumbers S 2).bind (fun r2 => (if r2.1 = 0 then some (0, r2.2) else (fX5_isTold r2.2 0 0 ((r2.2 7 (0 : Int32).toNatClampNeg) - 1)).bind (fun r5 => (if r5 = 0 then some (0, r2.2) else (fX5_isTold r2.2 1 1 20).bind (fun r7 => (if r7 = 0 then some (0, r2.2) else (fX5_tellsGuest r2.2 (r2.2 6 (0 : Int32).toNatClampNeg) (r2.2 6 (1 : Int32).toNatClampNeg)).bind (fun r9 => (some (1, r9)))))))))
abbrev rmX5_readGuestOf : Room := { frames := 3, cells := 0, slots := 0, locals := 64 }
set_option maxHeartbeats 4000000 in
set_option maxRecDepth 100000 in
theorem c_X5_readGuestOf (l : Launch) (E : En) (am : Nat → Nat) (S : OS) (r : Int32 × OS) (h : fX5_readGuestOf S = some r) : Met l yX5_readGuestOf (kX5_readGuestOf :: BIG) rmX5_readGuestOf (Pk E [.ref (am 0)] (MW E am S)) (QW (some (.int r.1)) (AM am) (MW E am r.2)) 0 0 (AM am) := by
  refine Mb (by decide) (Nat.le_of_ble_eq_true rfl) ?_
  intro p e s m below meth c ls hx hb hr hlk hB hown hml _ hK hw hl
  have hS : va_S (AM am) s.heap s.heap [] := va_S.rf
  have hl : lv_has ls 1 [(0, .ref (am 0))] := hl
  rw [fX5_readGuestOf] at h
  refine lv_aload_n hx hb dX5_readGuestOf_0 rfl (lv_at hl 0 rfl) ?_
  refine gX5_28 hx hb hB hown hK hw dX5_readGuestOf_1 ?_
  refine lv_bipush (v := 53) hx hb dX5_readGuestOf_4 (by decide) ?_
  refine lM hx hb hK hw (by decide) (by decide) (ib_ok (by decide)) dX5_readGuestOf_6 ?_
  refine lv_bipush (v := 6) hx hb dX5_readGuestOf_7 (by decide) ?_
  refine lv_icmp_eq (tgt := 48) hx hb dX5_readGuestOf_9 (by decide) (fun g1 => ?_) (fun g1 => ?_)
  · rw [if_pos g1] at h
    refine lv_iconst (v := 0) hx hb dX5_readGuestOf_48 (by decide) ?_
    cases h
    exact e_zW hx hb hr hlk (by decide) rfl hw hS dX5_readGuestOf_49
  · rw [if_neg g1] at h
    refine lv_aload_n hx hb dX5_readGuestOf_12 rfl (lv_at hl 0 rfl) ?_
    refine lv_iconst (v := 2) hx hb dX5_readGuestOf_13 (by decide) ?_
    obtain ⟨r2, e2, h⟩ := ob h
    refine k_VWi ⟨hx, hb, hml, hown, hB⟩ (c_X5_readNumbers l E am S 2 r2 e2) (clX5_92 hB rfl rfl ⟨Nat.le_of_ble_eq_true rfl, Nat.le_of_ble_eq_true rfl⟩) hK hw (rvM hK hw) rfl hl.1 rfl (Nat.le_of_ble_eq_true rfl) dX5_readGuestOf_14 ⟨Nat.zero_le _, Nat.zero_le _⟩ hS (fun _ z => z) (fun H3 L3 hw _ _ hS => ?_)
    refine lv_if_eq (tgt := 48) hx hb dX5_readGuestOf_17 (by decide) (fun g4 => ?_) (fun g4 => ?_)
    · rw [if_pos g4] at h
      refine lv_iconst (v := 0) hx hb dX5_readGuestOf_48 (by decide) ?_
      cases h
      exact e_zW hx hb hr hlk (by decide) rfl hw hS dX5_readGuestOf_49
    · rw [if_neg g4] at h
      refine lv_aload_n hx hb dX5_readGuestOf_20 rfl (lv_at hl 0 rfl) ?_
      refine lv_iconst (v := 0) hx hb dX5_readGuestOf_21 (by decide) ?_
      refine lv_iconst (v := 0) hx hb dX5_readGuestOf_22 (by decide) ?_
      refine lv_aload_n hx hb dX5_readGuestOf_23 rfl (lv_at hl 0 rfl) ?_
      refine gX5_28 hx hb hB hown hK hw dX5_readGuestOf_24 ?_
      refine lv_iconst (v := 0) hx hb dX5_readGuestOf_27 (by decide) ?_
      refine lM hx hb hK hw (by decide) (by decide) (ib_ok (by decide)) dX5_readGuestOf_28 ?_
      refine lv_iconst (v := 1) hx hb dX5_readGuestOf_29 (by decide) ?_
      refine lv_isub hx hb dX5_readGuestOf_30 ?_
      obtain ⟨r5, e5, h⟩ := ob h
      refine k_VR ⟨hx, hb, hml, hown, hB⟩ (c_X5_isTold l E am r2.2 0 0 ((r2.2 7 (0 : Int32).toNatClampNeg) - 1) r5 e5) (clX5_95 hB rfl rfl ⟨Nat.le_of_ble_eq_true rfl, Nat.le_of_ble_eq_true rfl⟩) hK hw (rvM hK hw) rfl hl.1 rfl (Nat.le_of_ble_eq_true rfl) dX5_readGuestOf_31 ⟨Nat.zero_le _, Nat.zero_le _⟩ ?_
      refine lv_if_eq (tgt := 48) hx hb dX5_readGuestOf_34 (by decide) (fun g6 => ?_) (fun g6 => ?_)
      · rw [if_pos g6] at h
        refine lv_iconst (v := 0) hx hb dX5_readGuestOf_48 (by decide) ?_
        cases h
        exact e_zW hx hb hr hlk (by decide) rfl hw hS dX5_readGuestOf_49
      · rw [if_neg g6] at h
        refine lv_aload_n hx hb dX5_readGuestOf_37 rfl (lv_at hl 0 rfl) ?_
        refine lv_iconst (v := 1) hx hb dX5_readGuestOf_38 (by decide) ?_
        refine lv_iconst (v := 1) hx hb dX5_readGuestOf_39 (by decide) ?_
        refine lv_bipush (v := 20) hx hb dX5_readGuestOf_40 (by decide) ?_
        obtain ⟨r7, e7, h⟩ := ob h
        refine k_VR ⟨hx, hb, hml, hown, hB⟩ (c_X5_isTold l E am r2.2 1 1 20 r7 e7) (clX5_95 hB rfl rfl ⟨Nat.le_of_ble_eq_true rfl, Nat.le_of_ble_eq_true rfl⟩) hK hw (rvM hK hw) rfl hl.1 rfl (Nat.le_of_ble_eq_true rfl) dX5_readGuestOf_42 ⟨Nat.zero_le _, Nat.zero_le _⟩ ?_
        refine lv_if_ne (tgt := 50) hx hb dX5_readGuestOf_45 (by decide) (fun g8 => ?_) (fun g8 => ?_)
        · rw [if_neg g8] at h
          refine lv_aload_n hx hb dX5_readGuestOf_50 rfl (lv_at hl 0 rfl) ?_
          refine lv_aload_n hx hb dX5_readGuestOf_51 rfl (lv_at hl 0 rfl) ?_
          refine gX5_25 hx hb hB hown hK hw dX5_readGuestOf_52 ?_
          refine lv_iconst (v := 0) hx hb dX5_readGuestOf_55 (by decide) ?_
          refine lM hx hb hK hw (by decide) (by decide) (ib_ok (by decide)) dX5_readGuestOf_56 ?_
          refine lv_aload_n hx hb dX5_readGuestOf_57 rfl (lv_at hl 0 rfl) ?_
          refine gX5_25 hx hb hB hown hK hw dX5_readGuestOf_58 ?_
          refine lv_iconst (v := 1) hx hb dX5_readGuestOf_61 (by decide) ?_
          refine lM hx hb hK hw (by decide) (by decide) (ib_ok (by decide)) dX5_readGuestOf_62 ?_
          obtain ⟨r9, e9, h⟩ := ob h
          refine k_VWv ⟨hx, hb, hml, hown, hB⟩ (c_X5_tellsGuest l E am r2.2 (r2.2 6 (0 : Int32).toNatClampNeg) (r2.2 6 (1 : Int32).toNatClampNeg) r9 e9) (clX5_57 hB rfl rfl ⟨Nat.le_of_ble_eq_true rfl, Nat.le_of_ble_eq_true rfl⟩) hK hw (rvM hK hw) rfl hl.1 rfl (Nat.le_of_ble_eq_true rfl) dX5_readGuestOf_63 ⟨Nat.zero_le _, Nat.zero_le _⟩ hS (fun _ z => z) (fun H10 L10 hw _ _ hS => ?_)
          refine lv_iconst (v := 1) hx hb dX5_readGuestOf_66 (by decide) ?_
          cases h
          exact e_zW hx hb hr hlk (by decide) rfl hw hS dX5_readGuestOf_67
        · rw [if_pos g8] at h
          refine lv_iconst (v := 0) hx hb dX5_readGuestOf_48 (by decide) ?_
          cases h
          exact e_zW hx hb hr hlk (by decide) rfl hw hS dX5_readGuestOf_49
def fX5_readTruceOf (S : OS) : Option (Int32 × OS) := (fX5_readNumbers S 1).bind (fun r1 => (if r1.1 = 0 then some (0, (u2 r1.2 0 14 (r1.2 0 14))) else (fX5_isTold r1.2 0 1 99).bind (fun r5 => (if r5 = 0 then some (0, (u2 r1.2 0 14 (r1.2 0 14))) else some (1, (u2 r1.2 0 14 (r1.2 6 (0 : Int32).toNatClampNeg)))))))
abbrev rmX5_readTruceOf : Room := { frames := 3, cells := 0, slots := 0, locals := 64 }
set_option maxHeartbeats 4000000 in
set_option maxRecDepth 100000 in
theorem c_X5_readTruceOf (l : Launch) (E : En) (am : Nat → Nat) (S : OS) (r : Int32 × OS) (h : fX5_readTruceOf S = some r) : Met l yX5_readTruceOf (kX5_readTruceOf :: BIG) rmX5_readTruceOf (Pk E [.ref (am 0)] (MW E am S)) (QW (some (.int r.1)) (AM am) (MW E am r.2)) 0 0 (AM am) := by
  refine Mb (by decide) (Nat.le_of_ble_eq_true rfl) ?_
  intro p e s m below meth c ls hx hb hr hlk hB hown hml _ hK hw hl
  have hS : va_S (AM am) s.heap s.heap [] := va_S.rf
  have hl : lv_has ls 2 [(0, .ref (am 0))] := hl
  rw [fX5_readTruceOf] at h
  refine lv_aload_n hx hb dX5_readTruceOf_0 rfl (lv_at hl 0 rfl) ?_
  refine lv_iconst (v := 1) hx hb dX5_readTruceOf_1 (by decide) ?_
  obtain ⟨r1, e1, h⟩ := ob h
  refine k_VWi ⟨hx, hb, hml, hown, hB⟩ (c_X5_readNumbers l E am S 1 r1 e1) (clX5_92 hB rfl rfl ⟨Nat.le_of_ble_eq_true rfl, Nat.le_of_ble_eq_true rfl⟩) hK hw (rvM hK hw) rfl hl.1 rfl (Nat.le_of_ble_eq_true rfl) dX5_readTruceOf_2 ⟨Nat.zero_le _, Nat.zero_le _⟩ hS (fun _ z => z) (fun H2 L2 hw _ _ hS => ?_)
  refine lv_if_eq (tgt := 23) hx hb dX5_readTruceOf_5 (by decide) (fun g3 => ?_) (fun g3 => ?_)
  · rw [if_pos g3] at h
    refine lv_iconst (v := 0) hx hb dX5_readTruceOf_23 (by decide) ?_
    refine lv_istore_n (lv' := [(1, .int 0), (0, .ref (am 0))]) hx hb dX5_readTruceOf_24 rfl hl (by decide) rfl (fun ls hl => ?_)
    refine lv_aload_n hx hb dX5_readTruceOf_25 rfl (lv_at hl 1 rfl) ?_
    refine lv_iload_n hx hb dX5_readTruceOf_26 rfl (lv_at hl 0 rfl) ?_
    refine lv_if_eq (tgt := 39) hx hb dX5_readTruceOf_27 (by decide) (fun _ => ?_) (fun g => absurd (by decide) g)
    refine lv_aload_n hx hb dX5_readTruceOf_39 rfl (lv_at hl 1 rfl) ?_
    refine gX5_61 hx hb hB hown hK hw dX5_readTruceOf_40 ?_
    refine pX5_61 hx hb hB hown hK hw hS (fun _ z => z) dX5_readTruceOf_43 (fun H4 L4 hw hS => ?_)
    refine lv_iload_n hx hb dX5_readTruceOf_46 rfl (lv_at hl 0 rfl) ?_
    cases h
    exact e_zW hx hb hr hlk (by decide) rfl hw hS dX5_readTruceOf_47
  · rw [if_neg g3] at h
    refine lv_aload_n hx hb dX5_readTruceOf_8 rfl (lv_at hl 0 rfl) ?_
    refine lv_iconst (v := 0) hx hb dX5_readTruceOf_9 (by decide) ?_
    refine lv_iconst (v := 1) hx hb dX5_readTruceOf_10 (by decide) ?_
    refine lv_bipush (v := 99) hx hb dX5_readTruceOf_11 (by decide) ?_
    obtain ⟨r5, e5, h⟩ := ob h
    refine k_VR ⟨hx, hb, hml, hown, hB⟩ (c_X5_isTold l E am r1.2 0 1 99 r5 e5) (clX5_95 hB rfl rfl ⟨Nat.le_of_ble_eq_true rfl, Nat.le_of_ble_eq_true rfl⟩) hK hw (rvM hK hw) rfl hl.1 rfl (Nat.le_of_ble_eq_true rfl) dX5_readTruceOf_13 ⟨Nat.zero_le _, Nat.zero_le _⟩ ?_
    refine lv_if_eq (tgt := 23) hx hb dX5_readTruceOf_16 (by decide) (fun g6 => ?_) (fun g6 => ?_)
    · rw [if_pos g6] at h
      refine lv_iconst (v := 0) hx hb dX5_readTruceOf_23 (by decide) ?_
      refine lv_istore_n (lv' := [(1, .int 0), (0, .ref (am 0))]) hx hb dX5_readTruceOf_24 rfl hl (by decide) rfl (fun ls hl => ?_)
      refine lv_aload_n hx hb dX5_readTruceOf_25 rfl (lv_at hl 1 rfl) ?_
      refine lv_iload_n hx hb dX5_readTruceOf_26 rfl (lv_at hl 0 rfl) ?_
      refine lv_if_eq (tgt := 39) hx hb dX5_readTruceOf_27 (by decide) (fun _ => ?_) (fun g => absurd (by decide) g)
      refine lv_aload_n hx hb dX5_readTruceOf_39 rfl (lv_at hl 1 rfl) ?_
      refine gX5_61 hx hb hB hown hK hw dX5_readTruceOf_40 ?_
      refine pX5_61 hx hb hB hown hK hw hS (fun _ z => z) dX5_readTruceOf_43 (fun H7 L7 hw hS => ?_)
      refine lv_iload_n hx hb dX5_readTruceOf_46 rfl (lv_at hl 0 rfl) ?_
      cases h
      exact e_zW hx hb hr hlk (by decide) rfl hw hS dX5_readTruceOf_47
    · rw [if_neg g6] at h
      refine lv_iconst (v := 1) hx hb dX5_readTruceOf_19 (by decide) ?_
      refine lv_goto (tgt := 24) hx hb dX5_readTruceOf_20 (by decide) ?_
      refine lv_istore_n (lv' := [(1, .int 1), (0, .ref (am 0))]) hx hb dX5_readTruceOf_24 rfl hl (by decide) rfl (fun ls hl => ?_)
      refine lv_aload_n hx hb dX5_readTruceOf_25 rfl (lv_at hl 1 rfl) ?_
      refine lv_iload_n hx hb dX5_readTruceOf_26 rfl (lv_at hl 0 rfl) ?_
      refine lv_if_eq (tgt := 39) hx hb dX5_readTruceOf_27 (by decide) (fun g => absurd g (by decide)) (fun _ => ?_)
      refine lv_aload_n hx hb dX5_readTruceOf_30 rfl (lv_at hl 1 rfl) ?_
      refine gX5_25 hx hb hB hown hK hw dX5_readTruceOf_31 ?_
      refine lv_iconst (v := 0) hx hb dX5_readTruceOf_34 (by decide) ?_
      refine lM hx hb hK hw (by decide) (by decide) (ib_ok (by decide)) dX5_readTruceOf_35 ?_
      refine lv_goto (tgt := 43) hx hb dX5_readTruceOf_36 (by decide) ?_
      refine pX5_61 hx hb hB hown hK hw hS (fun _ z => z) dX5_readTruceOf_43 (fun H8 L8 hw hS => ?_)
      refine lv_iload_n hx hb dX5_readTruceOf_46 rfl (lv_at hl 0 rfl) ?_
      cases h
      exact e_zW hx hb hr hlk (by decide) rfl hw hS dX5_readTruceOf_47
def fX5_readItem (S : OS) : Option (Int32 × OS) := (fX5_letterAt S (S 0 11)).bind (fun r1 => (if r1 = 121 then (fX5_readPlotsOf (u2 S 0 11 ((S 0 11) + 1))).bind (fun r17 => (gB (isC .boolean r17.1) (some (r17.1, r17.2)))) else if r1 = 100 then (fX5_readDeadOf (u2 (u2 S 0 11 ((S 0 11) + 1)) 0 15 1)).bind (fun r6 => (gB (isC .boolean r6.1) (some (r6.1, r6.2)))) else if r1 = 116 then (fX5_readTruceOf (u2 (u2 S 0 11 ((S 0 11) + 1)) 0 15 1)).bind (fun r10 => (gB (isC .boolean r10.1) (some (r10.1, r10.2)))) else if r1 = 118 then (fX5_readGuestOf (u2 (u2 S 0 11 ((S 0 11) + 1)) 0 15 1)).bind (fun r14 => (gB (isC .boolean r14.1) (some (r14.1, r14.2)))) else some (0, (u2 (u2 S 0 11 ((S 0 11) + 1)) 0 15 1))))
abbrev rmX5_readItem : Room := { frames := 4, cells := 0, slots := 0, locals := 85 }
set_option maxHeartbeats 4000000 in
set_option maxRecDepth 100000 in
theorem c_X5_readItem (l : Launch) (E : En) (am : Nat → Nat) (S : OS) (r : Int32 × OS) (h : fX5_readItem S = some r) : Met l yX5_readItem (kX5_readItem :: BIG) rmX5_readItem (Pk E [.ref (am 0)] (MW E am S)) (QW (some (.int r.1)) (AM am) (MW E am r.2)) 0 0 (AM am) := by
  refine Mb (by decide) (Nat.le_of_ble_eq_true rfl) ?_
  intro p e s m below meth c ls hx hb hr hlk hB hown hml _ hK hw hl
  have hS : va_S (AM am) s.heap s.heap [] := va_S.rf
  have hl : lv_has ls 2 [(0, .ref (am 0))] := hl
  rw [fX5_readItem] at h
  refine lv_aload_n hx hb dX5_readItem_0 rfl (lv_at hl 0 rfl) ?_
  refine lv_aload_n hx hb dX5_readItem_1 rfl (lv_at hl 0 rfl) ?_
  refine gX5_77 hx hb hB hown hK hw dX5_readItem_2 ?_
  obtain ⟨r1, e1, h⟩ := ob h
  refine k_VR ⟨hx, hb, hml, hown, hB⟩ (c_X5_letterAt l E am S (S 0 11) r1 e1) (clX5_80 hB rfl rfl ⟨Nat.le_of_ble_eq_true rfl, Nat.le_of_ble_eq_true rfl⟩) hK hw (rvM hK hw) rfl hl.1 rfl (Nat.le_of_ble_eq_true rfl) dX5_readItem_5 ⟨Nat.zero_le _, Nat.zero_le _⟩ ?_
  refine lv_istore_n (lv' := [(1, .int r1), (0, .ref (am 0))]) hx hb dX5_readItem_8 rfl hl (by decide) rfl (fun ls hl => ?_)
  refine lv_aload_n hx hb dX5_readItem_9 rfl (lv_at hl 1 rfl) ?_
  refine lv_dup hx hb dX5_readItem_10 rfl ?_
  refine gX5_77 hx hb hB hown hK hw dX5_readItem_11 ?_
  refine lv_iconst (v := 1) hx hb dX5_readItem_14 (by decide) ?_
  refine lv_iadd hx hb dX5_readItem_15 ?_
  refine pX5_77 hx hb hB hown hK hw hS (fun _ z => z) dX5_readItem_16 (fun H2 L2 hw hS => ?_)
  refine lv_iload_n hx hb dX5_readItem_19 rfl (lv_at hl 0 rfl) ?_
  refine lv_bipush (v := 121) hx hb dX5_readItem_20 (by decide) ?_
  refine lv_icmp_ne (tgt := 30) hx hb dX5_readItem_22 (by decide) (fun g3 => ?_) (fun g3 => ?_)
  · rw [if_neg g3] at h
    refine lv_aload_n hx hb dX5_readItem_30 rfl (lv_at hl 1 rfl) ?_
    refine lv_iconst (v := 1) hx hb dX5_readItem_31 (by decide) ?_
    refine pX5_88 hx hb hB hown hK hw hS (fun _ z => z) (by decide) (by decide) dX5_readItem_32 (fun H4 L4 hw hS => ?_)
    refine lv_iload_n hx hb dX5_readItem_35 rfl (lv_at hl 0 rfl) ?_
    by_cases g5 : r1 = 100
    · rw [if_pos g5] at h
      refine lv_lookup (off := 36) (tgt := 72) hx hb dX5_readItem_36 (by decide) (by rw [g5]; decide) (by decide) ?_
      refine lv_aload_n hx hb dX5_readItem_72 rfl (lv_at hl 1 rfl) ?_
      obtain ⟨r6, e6, h⟩ := ob h
      refine k_VWi ⟨hx, hb, hml, hown, hB⟩ (c_X5_readDeadOf l E am (u2 (u2 S 0 11 ((S 0 11) + 1)) 0 15 1) r6 e6) (clX5_102 hB rfl rfl ⟨Nat.le_of_ble_eq_true rfl, Nat.le_of_ble_eq_true rfl⟩) hK hw (rvM hK hw) rfl hl.1 rfl (Nat.le_of_ble_eq_true rfl) dX5_readItem_73 ⟨Nat.zero_le _, Nat.zero_le _⟩ hS (fun _ z => z) (fun H7 L7 hw _ _ hS => ?_)
      obtain ⟨g8, h⟩ := gB_ok h
      cases h
      exact e_zW hx hb hr hlk (isC_ok g8) rfl hw hS dX5_readItem_76
    · rw [if_neg g5] at h
      by_cases g9 : r1 = 116
      · rw [if_pos g9] at h
        refine lv_lookup (off := 46) (tgt := 82) hx hb dX5_readItem_36 (by decide) (by rw [g9]; decide) (by decide) ?_
        refine lv_aload_n hx hb dX5_readItem_82 rfl (lv_at hl 1 rfl) ?_
        obtain ⟨r10, e10, h⟩ := ob h
        refine k_VWi ⟨hx, hb, hml, hown, hB⟩ (c_X5_readTruceOf l E am (u2 (u2 S 0 11 ((S 0 11) + 1)) 0 15 1) r10 e10) (clX5_108 hB rfl rfl ⟨Nat.le_of_ble_eq_true rfl, Nat.le_of_ble_eq_true rfl⟩) hK hw (rvM hK hw) rfl hl.1 rfl (Nat.le_of_ble_eq_true rfl) dX5_readItem_83 ⟨Nat.zero_le _, Nat.zero_le _⟩ hS (fun _ z => z) (fun H11 L11 hw _ _ hS => ?_)
        obtain ⟨g12, h⟩ := gB_ok h
        cases h
        exact e_zW hx hb hr hlk (isC_ok g12) rfl hw hS dX5_readItem_86
      · rw [if_neg g9] at h
        by_cases g13 : r1 = 118
        · rw [if_pos g13] at h
          refine lv_lookup (off := 41) (tgt := 77) hx hb dX5_readItem_36 (by decide) (by rw [g13]; decide) (by decide) ?_
          refine lv_aload_n hx hb dX5_readItem_77 rfl (lv_at hl 1 rfl) ?_
          obtain ⟨r14, e14, h⟩ := ob h
          refine k_VWi ⟨hx, hb, hml, hown, hB⟩ (c_X5_readGuestOf l E am (u2 (u2 S 0 11 ((S 0 11) + 1)) 0 15 1) r14 e14) (clX5_105 hB rfl rfl ⟨Nat.le_of_ble_eq_true rfl, Nat.le_of_ble_eq_true rfl⟩) hK hw (rvM hK hw) rfl hl.1 rfl (Nat.le_of_ble_eq_true rfl) dX5_readItem_78 ⟨Nat.zero_le _, Nat.zero_le _⟩ hS (fun _ z => z) (fun H15 L15 hw _ _ hS => ?_)
          obtain ⟨g16, h⟩ := gB_ok h
          cases h
          exact e_zW hx hb hr hlk (isC_ok g16) rfl hw hS dX5_readItem_81
        · rw [if_neg g13] at h
          refine lv_lookup (off := 51) (tgt := 87) hx hb dX5_readItem_36 (by decide) ((lv_osw g5 (by decide)).trans ((lv_osw g9 (by decide)).trans ((lv_osw g13 (by decide)).trans (rfl)))) (by decide) ?_
          refine lv_iconst (v := 0) hx hb dX5_readItem_87 (by decide) ?_
          cases h
          exact e_zW hx hb hr hlk (by decide) rfl hw hS dX5_readItem_88
  · rw [if_pos g3] at h
    refine lv_aload_n hx hb dX5_readItem_25 rfl (lv_at hl 1 rfl) ?_
    obtain ⟨r17, e17, h⟩ := ob h
    refine k_VWi ⟨hx, hb, hml, hown, hB⟩ (c_X5_readPlotsOf l E am (u2 S 0 11 ((S 0 11) + 1)) r17 e17) (clX5_98 hB rfl rfl ⟨Nat.le_of_ble_eq_true rfl, Nat.le_of_ble_eq_true rfl⟩) hK hw (rvM hK hw) rfl hl.1 rfl (Nat.le_of_ble_eq_true rfl) dX5_readItem_26 ⟨Nat.zero_le _, Nat.zero_le _⟩ hS (fun _ z => z) (fun H18 L18 hw _ _ hS => ?_)
    obtain ⟨g19, h⟩ := gB_ok h
    cases h
    exact e_zW hx hb hr hlk (isC_ok g19) rfl hw hS dX5_readItem_29
def fX5_fault_L9 : Nat → OS → Option (Int32 × OS)
  | 0, _ => none
  | n_9 + 1, S_9 => if (S_9 0 10) ≤ (S_9 0 11) then some ((-4), S_9) else (fX5_readItem S_9).bind (fun r2 => (if r2.1 = 0 then some ((S_9 0 11), r2.2) else fX5_fault_L9 n_9 r2.2))
def fX5_fault (S : OS) : Option (Int32 × OS) := (fX5_clearTold (u2 S 0 11 0)).bind (fun r6 => (fX5_fault_L9 FU r6))
abbrev rmX5_fault : Room := { frames := 5, cells := 0, slots := 0, locals := 106 }
set_option maxHeartbeats 4000000 in
set_option maxRecDepth 100000 in
theorem c_X5_fault (l : Launch) (E : En) (am : Nat → Nat) (S : OS) (r : Int32 × OS) (h : fX5_fault S = some r) : Met l yX5_fault (kX5_fault :: BIG) rmX5_fault (Pk E [.ref (am 0)] (MW E am S)) (QW (some (.int r.1)) (AM am) (MW E am r.2)) 0 0 (AM am) := by
  refine Mb (by decide) (Nat.le_of_ble_eq_true rfl) ?_
  intro p e s m below meth c ls hx hb hr hlk hB hown hml _ hK hw hl
  have hS : va_S (AM am) s.heap s.heap [] := va_S.rf
  have hl : lv_has ls 2 [(0, .ref (am 0))] := hl
  rw [fX5_fault] at h
  have hL9 : ∀ (n_9 : Nat) (S_9 : OS) (H_9 : Heap) (L_9 : List Loc) (ls_9 : Array Slot), lv_has ls_9 2 [(0, .ref (am 0))] → MW E am S_9 H_9 → va_S (AM am) s.heap H_9 L_9 → fX5_fault_L9 n_9 S_9 = some r → W p l e rmX5_fault s m ([.ref (am 0)] : List Value).toArray below meth c H_9 L_9 0 0 (MQ below (QW (some (.int r.1)) (AM am) (MW E am r.2)) ([.ref (am 0)] : List Value).toArray s 0 0 (AM am)) (F0 m 9 ls_9 []) := by
    intro n_9
    induction n_9 with
    | zero =>
      intro S_9 H_9 L_9 ls_9 hl hw hS h
      exact nn h
    | succ n_9 ih_9 =>
      intro S_9 H_9 L_9 ls_9 hl hw hS h
      rw [fX5_fault_L9] at h
      refine lv_aload_n hx hb dX5_fault_9 rfl (lv_at hl 0 rfl) ?_
      refine gX5_77 hx hb hB hown hK hw dX5_fault_10 ?_
      refine lv_aload_n hx hb dX5_fault_13 rfl (lv_at hl 0 rfl) ?_
      refine gX5_74 hx hb hB hown hK hw dX5_fault_14 ?_
      refine lv_icmp_ge (tgt := 37) hx hb dX5_fault_17 (by decide) (fun g1 => ?_) (fun g1 => ?_)
      · rw [if_pos g1] at h
        refine lv_bipush (v := (-4)) hx hb dX5_fault_37 (by decide) ?_
        cases h
        exact e_zW hx hb hr hlk rfl rfl hw hS dX5_fault_39
      · rw [if_neg g1] at h
        refine lv_aload_n hx hb dX5_fault_20 rfl (lv_at hl 0 rfl) ?_
        refine gX5_77 hx hb hB hown hK hw dX5_fault_21 ?_
        refine lv_istore_n (lv' := [(1, .int (S_9 0 11)), (0, .ref (am 0))]) hx hb dX5_fault_24 rfl hl (by decide) rfl (fun ls hl => ?_)
        refine lv_aload_n hx hb dX5_fault_25 rfl (lv_at hl 1 rfl) ?_
        obtain ⟨r2, e2, h⟩ := ob h
        refine k_VWi ⟨hx, hb, hml, hown, hB⟩ (c_X5_readItem l E am S_9 r2 e2) (clX5_111 hB rfl rfl ⟨Nat.le_of_ble_eq_true rfl, Nat.le_of_ble_eq_true rfl⟩) hK hw (rvM hK hw) rfl hl.1 rfl (Nat.le_of_ble_eq_true rfl) dX5_fault_26 ⟨Nat.zero_le _, Nat.zero_le _⟩ hS (fun _ z => z) (fun H3 L3 hw _ _ hS => ?_)
        refine lv_if_ne (tgt := 34) hx hb dX5_fault_29 (by decide) (fun g4 => ?_) (fun g4 => ?_)
        · rw [if_neg g4] at h
          refine lv_goto (tgt := 9) hx hb dX5_fault_34 (by decide) ?_
          exact ih_9 r2.2 _ _ _ (lv_sub hl [1] rfl) hw hS h
        · rw [if_pos g4] at h
          refine lv_iload_n hx hb dX5_fault_32 rfl (lv_at hl 0 rfl) ?_
          cases h
          exact e_zW hx hb hr hlk rfl rfl hw hS dX5_fault_33
  refine lv_aload_n hx hb dX5_fault_0 rfl (lv_at hl 0 rfl) ?_
  refine lv_iconst (v := 0) hx hb dX5_fault_1 (by decide) ?_
  refine pX5_77 hx hb hB hown hK hw hS (fun _ z => z) dX5_fault_2 (fun H5 L5 hw hS => ?_)
  refine lv_aload_n hx hb dX5_fault_5 rfl (lv_at hl 0 rfl) ?_
  obtain ⟨r6, e6, h⟩ := ob h
  refine k_VWv ⟨hx, hb, hml, hown, hB⟩ (c_X5_clearTold l E am (u2 S 0 11 0) r6 e6) (clX5_46 hB rfl rfl ⟨Nat.le_of_ble_eq_true rfl, Nat.le_of_ble_eq_true rfl⟩) hK hw (rvM hK hw) rfl hl.1 rfl (Nat.le_of_ble_eq_true rfl) dX5_fault_6 ⟨Nat.zero_le _, Nat.zero_le _⟩ hS (fun _ z => z) (fun H7 L7 hw _ _ hS => ?_)
  exact hL9 FU r6 _ _ _ (lv_sub hl [0] rfl) hw hS h
def fX5_freeFrom_L6 (S : OS) (v1_6 : Int32) (v3_6 : Int32) : Nat → Int32 → Int32 → Option (Int32)
  | 0, _, _ => none
  | n_6 + 1, v4_6, v5_6 => if (S 0 0) ≤ v5_6 then some (-4) else gB (ib ((37 + (8 * v1_6)) + v4_6) 66) (if (S 8 ((37 + (8 * v1_6)) + v4_6).toNatClampNeg) = 0 then some v4_6 else gB (nz (S 0 0)) (fX5_freeFrom_L6 S v1_6 v3_6 n_6 (((v4_6 + v3_6) + (S 0 0)) - ((v4_6 + v3_6) + (S 0 0)) / (S 0 0) * (S 0 0)) (v5_6 + 1)))
def fX5_freeFrom (S : OS) (a1 : Int32) (a2 : Int32) (a3 : Int32) : Option (Int32) := fX5_freeFrom_L6 S a1 a3 FU a2 0
abbrev rmX5_freeFrom : Room := { frames := 0, cells := 0, slots := 0, locals := 0 }
set_option maxHeartbeats 4000000 in
set_option maxRecDepth 100000 in
theorem c_X5_freeFrom (l : Launch) (E : En) (am : Nat → Nat) (S : OS) (a1 : Int32) (a2 : Int32) (a3 : Int32) (r : Int32) (h : fX5_freeFrom S a1 a2 a3 = some r) : Met l yX5_freeFrom (kX5_freeFrom :: BIG) rmX5_freeFrom (Pk E [.ref (am 0), .int a1, .int a2, .int a3] (MW E am S)) (QcRead r) 0 0 (fun _ => False) := by
  refine Mb (by decide) (Nat.le_of_ble_eq_true rfl) ?_
  intro p e s m below meth c ls hx hb hr hlk hB hown hml _ hK hw hl
  have hl : lv_has ls 6 [(0, .ref (am 0)), (1, .int a1), (2, .int a2), (3, .int a3)] := hl
  rw [fX5_freeFrom] at h
  have hL6 : ∀ (n_6 : Nat) (v1_6 : Int32) (v3_6 : Int32) (v4_6 : Int32) (v5_6 : Int32) (ls_6 : Array Slot), lv_has ls_6 6 [(0, .ref (am 0)), (1, .int v1_6), (3, .int v3_6), (4, .int v4_6), (5, .int v5_6)] → fX5_freeFrom_L6 S v1_6 v3_6 n_6 v4_6 v5_6 = some r → W p l e rmX5_freeFrom s m ([.ref (am 0), .int a1, .int a2, .int a3] : List Value).toArray below meth c s.heap [] 0 0 (MQ below (QcRead r) ([.ref (am 0), .int a1, .int a2, .int a3] : List Value).toArray s 0 0 (fun _ => False)) (F0 m 6 ls_6 []) := by
    intro n_6
    induction n_6 with
    | zero =>
      intro v1_6 v3_6 v4_6 v5_6 ls_6 hl h
      exact nn h
    | succ n_6 ih_6 =>
      intro v1_6 v3_6 v4_6 v5_6 ls_6 hl h
      rw [fX5_freeFrom_L6] at h
      refine lv_iload hx hb dX5_freeFrom_6 (lv_at hl 4 rfl) ?_
      refine lv_aload_n hx hb dX5_freeFrom_8 rfl (lv_at hl 0 rfl) ?_
      refine gX5_71 hx hb hB hown hK hw dX5_freeFrom_9 ?_
      refine lv_icmp_ge (tgt := 58) hx hb dX5_freeFrom_12 (by decide) (fun g1 => ?_) (fun g1 => ?_)
      · rw [if_pos g1] at h
        refine lv_bipush (v := (-4)) hx hb dX5_freeFrom_58 (by decide) ?_
        exact e_zR hx hb hr hlk rfl h dX5_freeFrom_60
      · rw [if_neg g1] at h
        refine lv_aload_n hx hb dX5_freeFrom_15 rfl (lv_at hl 0 rfl) ?_
        refine gX5_31 hx hb hB hown hK hw dX5_freeFrom_16 ?_
        refine lv_bipush (v := 37) hx hb dX5_freeFrom_19 (by decide) ?_
        refine lv_bipush (v := 8) hx hb dX5_freeFrom_21 (by decide) ?_
        refine lv_iload_n hx hb dX5_freeFrom_23 rfl (lv_at hl 1 rfl) ?_
        refine lv_imul hx hb dX5_freeFrom_24 ?_
        refine lv_iadd hx hb dX5_freeFrom_25 ?_
        refine lv_iload hx hb dX5_freeFrom_26 (lv_at hl 3 rfl) ?_
        refine lv_iadd hx hb dX5_freeFrom_28 ?_
        obtain ⟨g2, h⟩ := gB_ok h
        refine lM hx hb hK hw (by decide) (by decide) (ib_ok g2) dX5_freeFrom_29 ?_
        refine lv_if_ne (tgt := 36) hx hb dX5_freeFrom_30 (by decide) (fun g3 => ?_) (fun g3 => ?_)
        · rw [if_neg g3] at h
          refine lv_iload hx hb dX5_freeFrom_36 (lv_at hl 3 rfl) ?_
          refine lv_iload_n hx hb dX5_freeFrom_38 rfl (lv_at hl 2 rfl) ?_
          refine lv_iadd hx hb dX5_freeFrom_39 ?_
          refine lv_aload_n hx hb dX5_freeFrom_40 rfl (lv_at hl 0 rfl) ?_
          refine gX5_71 hx hb hB hown hK hw dX5_freeFrom_41 ?_
          refine lv_iadd hx hb dX5_freeFrom_44 ?_
          refine lv_aload_n hx hb dX5_freeFrom_45 rfl (lv_at hl 0 rfl) ?_
          refine gX5_71 hx hb hB hown hK hw dX5_freeFrom_46 ?_
          obtain ⟨g4, h⟩ := gB_ok h
          refine lv_irem hx hb dX5_freeFrom_49 (nz_ok g4) ?_
          refine lv_istore (lv' := [(4, .int (((v4_6 + v3_6) + (S 0 0)) - ((v4_6 + v3_6) + (S 0 0)) / (S 0 0) * (S 0 0))), (0, .ref (am 0)), (1, .int v1_6), (3, .int v3_6), (5, .int v5_6)]) hx hb dX5_freeFrom_50 hl (by decide) rfl (fun ls hl => ?_)
          refine lv_iinc (v := (v5_6 + 1)) (lv' := [(5, .int (v5_6 + 1)), (4, .int (((v4_6 + v3_6) + (S 0 0)) - ((v4_6 + v3_6) + (S 0 0)) / (S 0 0) * (S 0 0))), (0, .ref (am 0)), (1, .int v1_6), (3, .int v3_6)]) hx hb dX5_freeFrom_52 hl (k := 4) rfl rfl (by decide) rfl (fun ls hl => ?_)
          refine lv_goto (tgt := 6) hx hb dX5_freeFrom_55 (by decide) ?_
          exact ih_6 v1_6 v3_6 (((v4_6 + v3_6) + (S 0 0)) - ((v4_6 + v3_6) + (S 0 0)) / (S 0 0) * (S 0 0)) (v5_6 + 1) _ (lv_sub hl [2, 3, 4, 1, 0] rfl) h
        · rw [if_pos g3] at h
          refine lv_iload hx hb dX5_freeFrom_33 (lv_at hl 3 rfl) ?_
          exact e_zR hx hb hr hlk rfl h dX5_freeFrom_35
  refine lv_iload_n hx hb dX5_freeFrom_0 rfl (lv_at hl 2 rfl) ?_
  refine lv_istore (lv' := [(4, .int a2), (0, .ref (am 0)), (1, .int a1), (2, .int a2), (3, .int a3)]) hx hb dX5_freeFrom_1 hl (by decide) rfl (fun ls hl => ?_)
  refine lv_iconst (v := 0) hx hb dX5_freeFrom_3 (by decide) ?_
  refine lv_istore (lv' := [(5, .int 0), (4, .int a2), (0, .ref (am 0)), (1, .int a1), (2, .int a2), (3, .int a3)]) hx hb dX5_freeFrom_4 hl (by decide) rfl (fun ls hl => ?_)
  exact hL6 FU a1 a3 a2 0 _ (lv_sub hl [2, 3, 5, 1, 0] rfl) h
def fX5_placeFor (S : OS) (a1 : Int32) (a2 : Int32) (a3 : Int32) : Option (Int32) := if a2 = 2 then (fX5_freeFrom S a1 0 1).bind (fun r5 => (some r5)) else if a2 = 1 then (fX5_freeFrom S a1 (((9 - a3) * (S 0 0)) / 10) (-1)).bind (fun r4 => (some r4)) else (fX5_freeFrom S a1 (((9 - a3) * (S 0 0)) / 10) 1).bind (fun r3 => (some r3))
abbrev rmX5_placeFor : Room := { frames := 1, cells := 0, slots := 0, locals := 25 }
set_option maxHeartbeats 4000000 in
set_option maxRecDepth 100000 in
theorem c_X5_placeFor (l : Launch) (E : En) (am : Nat → Nat) (S : OS) (a1 : Int32) (a2 : Int32) (a3 : Int32) (r : Int32) (h : fX5_placeFor S a1 a2 a3 = some r) : Met l yX5_placeFor (kX5_placeFor :: BIG) rmX5_placeFor (Pk E [.ref (am 0), .int a1, .int a2, .int a3] (MW E am S)) (QcRead r) 0 0 (fun _ => False) := by
  refine Mb (by decide) (Nat.le_of_ble_eq_true rfl) ?_
  intro p e s m below meth c ls hx hb hr hlk hB hown hml _ hK hw hl
  have hl : lv_has ls 5 [(0, .ref (am 0)), (1, .int a1), (2, .int a2), (3, .int a3)] := hl
  rw [fX5_placeFor] at h
  refine lv_bipush (v := 9) hx hb dX5_placeFor_0 (by decide) ?_
  refine lv_iload_n hx hb dX5_placeFor_2 rfl (lv_at hl 3 rfl) ?_
  refine lv_isub hx hb dX5_placeFor_3 ?_
  refine lv_aload_n hx hb dX5_placeFor_4 rfl (lv_at hl 0 rfl) ?_
  refine gX5_71 hx hb hB hown hK hw dX5_placeFor_5 ?_
  refine lv_imul hx hb dX5_placeFor_8 ?_
  refine lv_bipush (v := 10) hx hb dX5_placeFor_9 (by decide) ?_
  refine lv_idiv hx hb dX5_placeFor_11 (by decide) ?_
  refine lv_istore (lv' := [(4, .int (((9 - a3) * (S 0 0)) / 10)), (0, .ref (am 0)), (1, .int a1), (2, .int a2), (3, .int a3)]) hx hb dX5_placeFor_12 hl (by decide) rfl (fun ls hl => ?_)
  refine lv_iload_n hx hb dX5_placeFor_14 rfl (lv_at hl 3 rfl) ?_
  refine lv_iconst (v := 2) hx hb dX5_placeFor_15 (by decide) ?_
  refine lv_icmp_ne (tgt := 29) hx hb dX5_placeFor_16 (by decide) (fun g1 => ?_) (fun g1 => ?_)
  · rw [if_neg g1] at h
    refine lv_aload_n hx hb dX5_placeFor_29 rfl (lv_at hl 1 rfl) ?_
    refine lv_iload_n hx hb dX5_placeFor_30 rfl (lv_at hl 2 rfl) ?_
    refine lv_iload hx hb dX5_placeFor_31 (lv_at hl 0 rfl) ?_
    refine lv_iload_n hx hb dX5_placeFor_33 rfl (lv_at hl 3 rfl) ?_
    refine lv_iconst (v := 1) hx hb dX5_placeFor_34 (by decide) ?_
    refine lv_icmp_ne (tgt := 42) hx hb dX5_placeFor_35 (by decide) (fun g2 => ?_) (fun g2 => ?_)
    · rw [if_neg g2] at h
      refine lv_iconst (v := 1) hx hb dX5_placeFor_42 (by decide) ?_
      obtain ⟨r3, e3, h⟩ := ob h
      refine k_VR ⟨hx, hb, hml, hown, hB⟩ (c_X5_freeFrom l E am S a1 (((9 - a3) * (S 0 0)) / 10) 1 r3 e3) (clX5_137 hB rfl rfl ⟨Nat.le_of_ble_eq_true rfl, Nat.le_of_ble_eq_true rfl⟩) hK hw (rvM hK hw) rfl hl.1 rfl (Nat.le_of_ble_eq_true rfl) dX5_placeFor_43 ⟨Nat.zero_le _, Nat.zero_le _⟩ ?_
      exact e_zR hx hb hr hlk rfl h dX5_placeFor_46
    · rw [if_pos g2] at h
      refine lv_iconst (v := (-1)) hx hb dX5_placeFor_38 (by decide) ?_
      refine lv_goto (tgt := 43) hx hb dX5_placeFor_39 (by decide) ?_
      obtain ⟨r4, e4, h⟩ := ob h
      refine k_VR ⟨hx, hb, hml, hown, hB⟩ (c_X5_freeFrom l E am S a1 (((9 - a3) * (S 0 0)) / 10) (-1) r4 e4) (clX5_137 hB rfl rfl ⟨Nat.le_of_ble_eq_true rfl, Nat.le_of_ble_eq_true rfl⟩) hK hw (rvM hK hw) rfl hl.1 rfl (Nat.le_of_ble_eq_true rfl) dX5_placeFor_43 ⟨Nat.zero_le _, Nat.zero_le _⟩ ?_
      exact e_zR hx hb hr hlk rfl h dX5_placeFor_46
  · rw [if_pos g1] at h
    refine lv_aload_n hx hb dX5_placeFor_19 rfl (lv_at hl 1 rfl) ?_
    refine lv_iload_n hx hb dX5_placeFor_20 rfl (lv_at hl 2 rfl) ?_
    refine lv_iconst (v := 0) hx hb dX5_placeFor_21 (by decide) ?_
    refine lv_iconst (v := 1) hx hb dX5_placeFor_22 (by decide) ?_
    obtain ⟨r5, e5, h⟩ := ob h
    refine k_VR ⟨hx, hb, hml, hown, hB⟩ (c_X5_freeFrom l E am S a1 0 1 r5 e5) (clX5_137 hB rfl rfl ⟨Nat.le_of_ble_eq_true rfl, Nat.le_of_ble_eq_true rfl⟩) hK hw (rvM hK hw) rfl hl.1 rfl (Nat.le_of_ble_eq_true rfl) dX5_placeFor_23 ⟨Nat.zero_le _, Nat.zero_le _⟩ ?_
    refine lv_goto (tgt := 46) hx hb dX5_placeFor_26 (by decide) ?_
    exact e_zR hx hb hr hlk rfl h dX5_placeFor_46
def fX5_buries (S : OS) (a1 : Int32) : Option (Int32 × OS) := gB (ib (1 + (3 * a1)) 66) (gB (ib ((1 + (3 * a1)) + 1) 66) (gB (ib ((1 + (3 * a1)) + 2) 66) ((fX5_placeFor S (1 - (S 8 (1 + (3 * a1)).toNatClampNeg)) (S 8 ((1 + (3 * a1)) + 1).toNatClampNeg) (S 8 ((1 + (3 * a1)) + 2).toNatClampNeg)).bind (fun r4 => (if 0 ≤ r4 then gB (ib ((37 + (8 * (1 - (S 8 (1 + (3 * a1)).toNatClampNeg)))) + r4) 66) (if (S 8 ((1 + (3 * a1)) + 1).toNatClampNeg) = 3 then (fX5_placeFor (u2 S 8 ((37 + (8 * (1 - (S 8 (1 + (3 * a1)).toNatClampNeg)))) + r4).toNatClampNeg (a1 + 1)) (S 8 (1 + (3 * a1)).toNatClampNeg) 0 (S 8 ((1 + (3 * a1)) + 2).toNatClampNeg)).bind (fun r9 => (if r9 < 0 then some (r4, (u2 S 8 ((37 + (8 * (1 - (S 8 (1 + (3 * a1)).toNatClampNeg)))) + r4).toNatClampNeg (a1 + 1))) else gB (ib ((37 + (8 * (S 8 (1 + (3 * a1)).toNatClampNeg))) + r9) 66) (some (r4, (u2 (u2 S 8 ((37 + (8 * (1 - (S 8 (1 + (3 * a1)).toNatClampNeg)))) + r4).toNatClampNeg (a1 + 1)) 8 ((37 + (8 * (S 8 (1 + (3 * a1)).toNatClampNeg))) + r9).toNatClampNeg (a1 + 21)))))) else some (r4, (u2 S 8 ((37 + (8 * (1 - (S 8 (1 + (3 * a1)).toNatClampNeg)))) + r4).toNatClampNeg (a1 + 1)))) else some ((-4), S))))))
abbrev rmX5_buries : Room := { frames := 2, cells := 0, slots := 0, locals := 49 }
set_option maxHeartbeats 4000000 in
set_option maxRecDepth 100000 in
theorem c_X5_buries (l : Launch) (E : En) (am : Nat → Nat) (S : OS) (a1 : Int32) (r : Int32 × OS) (h : fX5_buries S a1 = some r) : Met l yX5_buries (kX5_buries :: BIG) rmX5_buries (Pk E [.ref (am 0), .int a1] (MW E am S)) (QW (some (.int r.1)) (AM am) (MW E am r.2)) 0 0 (AM am) := by
  refine Mb (by decide) (Nat.le_of_ble_eq_true rfl) ?_
  intro p e s m below meth c ls hx hb hr hlk hB hown hml _ hK hw hl
  have hS : va_S (AM am) s.heap s.heap [] := va_S.rf
  have hl : lv_has ls 7 [(0, .ref (am 0)), (1, .int a1)] := hl
  rw [fX5_buries] at h
  refine lv_aload_n hx hb dX5_buries_0 rfl (lv_at hl 0 rfl) ?_
  refine gX5_31 hx hb hB hown hK hw dX5_buries_1 ?_
  refine lv_iconst (v := 1) hx hb dX5_buries_4 (by decide) ?_
  refine lv_iconst (v := 3) hx hb dX5_buries_5 (by decide) ?_
  refine lv_iload_n hx hb dX5_buries_6 rfl (lv_at hl 1 rfl) ?_
  refine lv_imul hx hb dX5_buries_7 ?_
  refine lv_iadd hx hb dX5_buries_8 ?_
  obtain ⟨g1, h⟩ := gB_ok h
  refine lM hx hb hK hw (by decide) (by decide) (ib_ok g1) dX5_buries_9 ?_
  refine lv_istore_n (lv' := [(2, .int (S 8 (1 + (3 * a1)).toNatClampNeg)), (0, .ref (am 0)), (1, .int a1)]) hx hb dX5_buries_10 rfl hl (by decide) rfl (fun ls hl => ?_)
  refine lv_aload_n hx hb dX5_buries_11 rfl (lv_at hl 1 rfl) ?_
  refine gX5_31 hx hb hB hown hK hw dX5_buries_12 ?_
  refine lv_iconst (v := 1) hx hb dX5_buries_15 (by decide) ?_
  refine lv_iconst (v := 3) hx hb dX5_buries_16 (by decide) ?_
  refine lv_iload_n hx hb dX5_buries_17 rfl (lv_at hl 2 rfl) ?_
  refine lv_imul hx hb dX5_buries_18 ?_
  refine lv_iadd hx hb dX5_buries_19 ?_
  refine lv_iconst (v := 1) hx hb dX5_buries_20 (by decide) ?_
  refine lv_iadd hx hb dX5_buries_21 ?_
  obtain ⟨g2, h⟩ := gB_ok h
  refine lM hx hb hK hw (by decide) (by decide) (ib_ok g2) dX5_buries_22 ?_
  refine lv_istore_n (lv' := [(3, .int (S 8 ((1 + (3 * a1)) + 1).toNatClampNeg)), (2, .int (S 8 (1 + (3 * a1)).toNatClampNeg)), (0, .ref (am 0)), (1, .int a1)]) hx hb dX5_buries_23 rfl hl (by decide) rfl (fun ls hl => ?_)
  refine lv_aload_n hx hb dX5_buries_24 rfl (lv_at hl 2 rfl) ?_
  refine gX5_31 hx hb hB hown hK hw dX5_buries_25 ?_
  refine lv_iconst (v := 1) hx hb dX5_buries_28 (by decide) ?_
  refine lv_iconst (v := 3) hx hb dX5_buries_29 (by decide) ?_
  refine lv_iload_n hx hb dX5_buries_30 rfl (lv_at hl 3 rfl) ?_
  refine lv_imul hx hb dX5_buries_31 ?_
  refine lv_iadd hx hb dX5_buries_32 ?_
  refine lv_iconst (v := 2) hx hb dX5_buries_33 (by decide) ?_
  refine lv_iadd hx hb dX5_buries_34 ?_
  obtain ⟨g3, h⟩ := gB_ok h
  refine lM hx hb hK hw (by decide) (by decide) (ib_ok g3) dX5_buries_35 ?_
  refine lv_istore (lv' := [(4, .int (S 8 ((1 + (3 * a1)) + 2).toNatClampNeg)), (3, .int (S 8 ((1 + (3 * a1)) + 1).toNatClampNeg)), (2, .int (S 8 (1 + (3 * a1)).toNatClampNeg)), (0, .ref (am 0)), (1, .int a1)]) hx hb dX5_buries_36 hl (by decide) rfl (fun ls hl => ?_)
  refine lv_aload_n hx hb dX5_buries_38 rfl (lv_at hl 3 rfl) ?_
  refine lv_iconst (v := 1) hx hb dX5_buries_39 (by decide) ?_
  refine lv_iload_n hx hb dX5_buries_40 rfl (lv_at hl 2 rfl) ?_
  refine lv_isub hx hb dX5_buries_41 ?_
  refine lv_iload_n hx hb dX5_buries_42 rfl (lv_at hl 1 rfl) ?_
  refine lv_iload hx hb dX5_buries_43 (lv_at hl 0 rfl) ?_
  obtain ⟨r4, e4, h⟩ := ob h
  refine k_VR ⟨hx, hb, hml, hown, hB⟩ (c_X5_placeFor l E am S (1 - (S 8 (1 + (3 * a1)).toNatClampNeg)) (S 8 ((1 + (3 * a1)) + 1).toNatClampNeg) (S 8 ((1 + (3 * a1)) + 2).toNatClampNeg) r4 e4) (clX5_141 hB rfl rfl ⟨Nat.le_of_ble_eq_true rfl, Nat.le_of_ble_eq_true rfl⟩) hK hw (rvM hK hw) rfl hl.1 rfl (Nat.le_of_ble_eq_true rfl) dX5_buries_45 ⟨Nat.zero_le _, Nat.zero_le _⟩ ?_
  refine lv_istore (lv' := [(5, .int r4), (4, .int (S 8 ((1 + (3 * a1)) + 2).toNatClampNeg)), (3, .int (S 8 ((1 + (3 * a1)) + 1).toNatClampNeg)), (2, .int (S 8 (1 + (3 * a1)).toNatClampNeg)), (0, .ref (am 0)), (1, .int a1)]) hx hb dX5_buries_48 hl (by decide) rfl (fun ls hl => ?_)
  refine lv_iload hx hb dX5_buries_50 (lv_at hl 0 rfl) ?_
  refine lv_if_ge (tgt := 58) hx hb dX5_buries_52 (by decide) (fun g5 => ?_) (fun g5 => ?_)
  · rw [if_pos g5] at h
    refine lv_aload_n hx hb dX5_buries_58 rfl (lv_at hl 4 rfl) ?_
    refine gX5_31 hx hb hB hown hK hw dX5_buries_59 ?_
    refine lv_bipush (v := 37) hx hb dX5_buries_62 (by decide) ?_
    refine lv_bipush (v := 8) hx hb dX5_buries_64 (by decide) ?_
    refine lv_iconst (v := 1) hx hb dX5_buries_66 (by decide) ?_
    refine lv_iload_n hx hb dX5_buries_67 rfl (lv_at hl 3 rfl) ?_
    refine lv_isub hx hb dX5_buries_68 ?_
    refine lv_imul hx hb dX5_buries_69 ?_
    refine lv_iadd hx hb dX5_buries_70 ?_
    refine lv_iload hx hb dX5_buries_71 (lv_at hl 0 rfl) ?_
    refine lv_iadd hx hb dX5_buries_73 ?_
    refine lv_iload_n hx hb dX5_buries_74 rfl (lv_at hl 5 rfl) ?_
    refine lv_iconst (v := 1) hx hb dX5_buries_75 (by decide) ?_
    refine lv_iadd hx hb dX5_buries_76 ?_
    obtain ⟨g6, h⟩ := gB_ok h
    refine sM hx hb hK hw hS (fun _ z => z) (by decide) (by decide) (ib_ok g6) dX5_buries_77 (fun H7 L7 hw hS => ?_)
    refine lv_iload_n hx hb dX5_buries_78 rfl (lv_at hl 2 rfl) ?_
    refine lv_iconst (v := 3) hx hb dX5_buries_79 (by decide) ?_
    refine lv_icmp_ne (tgt := 94) hx hb dX5_buries_80 (by decide) (fun g8 => ?_) (fun g8 => ?_)
    · rw [if_neg g8] at h
      refine lv_bipush (v := (-4)) hx hb dX5_buries_94 (by decide) ?_
      refine lv_istore (lv' := [(6, .int (-4)), (5, .int r4), (4, .int (S 8 ((1 + (3 * a1)) + 2).toNatClampNeg)), (3, .int (S 8 ((1 + (3 * a1)) + 1).toNatClampNeg)), (2, .int (S 8 (1 + (3 * a1)).toNatClampNeg)), (0, .ref (am 0)), (1, .int a1)]) hx hb dX5_buries_96 hl (by decide) rfl (fun ls hl => ?_)
      refine lv_iload hx hb dX5_buries_98 (lv_at hl 0 rfl) ?_
      refine lv_if_lt (tgt := 122) hx hb dX5_buries_100 (by decide) (fun _ => ?_) (fun g => absurd (by decide) g)
      refine lv_iload hx hb dX5_buries_122 (lv_at hl 1 rfl) ?_
      cases h
      exact e_zW hx hb hr hlk rfl rfl hw hS dX5_buries_124
    · rw [if_pos g8] at h
      refine lv_aload_n hx hb dX5_buries_83 rfl (lv_at hl 4 rfl) ?_
      refine lv_iload_n hx hb dX5_buries_84 rfl (lv_at hl 3 rfl) ?_
      refine lv_iconst (v := 0) hx hb dX5_buries_85 (by decide) ?_
      refine lv_iload hx hb dX5_buries_86 (lv_at hl 1 rfl) ?_
      obtain ⟨r9, e9, h⟩ := ob h
      refine k_VR ⟨hx, hb, hml, hown, hB⟩ (c_X5_placeFor l E am (u2 S 8 ((37 + (8 * (1 - (S 8 (1 + (3 * a1)).toNatClampNeg)))) + r4).toNatClampNeg (a1 + 1)) (S 8 (1 + (3 * a1)).toNatClampNeg) 0 (S 8 ((1 + (3 * a1)) + 2).toNatClampNeg) r9 e9) (clX5_141 hB rfl rfl ⟨Nat.le_of_ble_eq_true rfl, Nat.le_of_ble_eq_true rfl⟩) hK hw (rvM hK hw) rfl hl.1 rfl (Nat.le_of_ble_eq_true rfl) dX5_buries_88 ⟨Nat.zero_le _, Nat.zero_le _⟩ ?_
      refine lv_goto (tgt := 96) hx hb dX5_buries_91 (by decide) ?_
      refine lv_istore (lv' := [(6, .int r9), (5, .int r4), (4, .int (S 8 ((1 + (3 * a1)) + 2).toNatClampNeg)), (3, .int (S 8 ((1 + (3 * a1)) + 1).toNatClampNeg)), (2, .int (S 8 (1 + (3 * a1)).toNatClampNeg)), (0, .ref (am 0)), (1, .int a1)]) hx hb dX5_buries_96 hl (by decide) rfl (fun ls hl => ?_)
      refine lv_iload hx hb dX5_buries_98 (lv_at hl 0 rfl) ?_
      refine lv_if_lt (tgt := 122) hx hb dX5_buries_100 (by decide) (fun g10 => ?_) (fun g10 => ?_)
      · rw [if_pos g10] at h
        refine lv_iload hx hb dX5_buries_122 (lv_at hl 1 rfl) ?_
        cases h
        exact e_zW hx hb hr hlk rfl rfl hw hS dX5_buries_124
      · rw [if_neg g10] at h
        refine lv_aload_n hx hb dX5_buries_103 rfl (lv_at hl 5 rfl) ?_
        refine gX5_31 hx hb hB hown hK hw dX5_buries_104 ?_
        refine lv_bipush (v := 37) hx hb dX5_buries_107 (by decide) ?_
        refine lv_bipush (v := 8) hx hb dX5_buries_109 (by decide) ?_
        refine lv_iload_n hx hb dX5_buries_111 rfl (lv_at hl 4 rfl) ?_
        refine lv_imul hx hb dX5_buries_112 ?_
        refine lv_iadd hx hb dX5_buries_113 ?_
        refine lv_iload hx hb dX5_buries_114 (lv_at hl 0 rfl) ?_
        refine lv_iadd hx hb dX5_buries_116 ?_
        refine lv_iload_n hx hb dX5_buries_117 rfl (lv_at hl 6 rfl) ?_
        refine lv_bipush (v := 21) hx hb dX5_buries_118 (by decide) ?_
        refine lv_iadd hx hb dX5_buries_120 ?_
        obtain ⟨g11, h⟩ := gB_ok h
        refine sM hx hb hK hw hS (fun _ z => z) (by decide) (by decide) (ib_ok g11) dX5_buries_121 (fun H12 L12 hw hS => ?_)
        refine lv_iload hx hb dX5_buries_122 (lv_at hl 1 rfl) ?_
        cases h
        exact e_zW hx hb hr hlk rfl rfl hw hS dX5_buries_124
  · rw [if_neg g5] at h
    refine lv_bipush (v := (-4)) hx hb dX5_buries_55 (by decide) ?_
    cases h
    exact e_zW hx hb hr hlk rfl rfl hw hS dX5_buries_57
def fX5_anew_L24 : Nat → Int32 → OS → Option (OS)
  | 0, _, _ => none
  | n_24 + 1, v1_24, S_24 => if (S_24 8 (0 : Int32).toNatClampNeg) ≤ v1_24 then some (S_24) else (fX5_buries S_24 v1_24).bind (fun r2 => (fX5_anew_L24 n_24 (v1_24 + 1) r2.2))
def fX5_anew_L3 : Nat → Int32 → OS → Option (OS)
  | 0, _, _ => none
  | n_3 + 1, v1_3, S_3 => if 53 ≤ v1_3 then fX5_anew_L24 FU 0 S_3 else gB (ib v1_3 66) (fX5_anew_L3 n_3 (v1_3 + 1) (u2 S_3 8 v1_3.toNatClampNeg 0))
def fX5_anew (S : OS) : Option (OS) := fX5_anew_L3 FU 37 S
abbrev rmX5_anew : Room := { frames := 3, cells := 0, slots := 0, locals := 75 }
set_option maxHeartbeats 4000000 in
set_option maxRecDepth 100000 in
theorem c_X5_anew (l : Launch) (E : En) (am : Nat → Nat) (S : OS) (r : OS) (h : fX5_anew S = some r) : Met l yX5_anew (kX5_anew :: BIG) rmX5_anew (Pk E [.ref (am 0)] (MW E am S)) (QW none (AM am) (MW E am r)) 0 0 (AM am) := by
  refine Mb (by decide) (Nat.le_of_ble_eq_true rfl) ?_
  intro p e s m below meth c ls hx hb hr hlk hB hown hml _ hK hw hl
  have hS : va_S (AM am) s.heap s.heap [] := va_S.rf
  have hl : lv_has ls 2 [(0, .ref (am 0))] := hl
  rw [fX5_anew] at h
  have hL24 : ∀ (n_24 : Nat) (v1_24 : Int32) (S_24 : OS) (H_24 : Heap) (L_24 : List Loc) (ls_24 : Array Slot), lv_has ls_24 2 [(0, .ref (am 0)), (1, .int v1_24)] → MW E am S_24 H_24 → va_S (AM am) s.heap H_24 L_24 → fX5_anew_L24 n_24 v1_24 S_24 = some r → W p l e rmX5_anew s m ([.ref (am 0)] : List Value).toArray below meth c H_24 L_24 0 0 (MQ below (QW none (AM am) (MW E am r)) ([.ref (am 0)] : List Value).toArray s 0 0 (AM am)) (F0 m 24 ls_24 []) := by
    intro n_24
    induction n_24 with
    | zero =>
      intro v1_24 S_24 H_24 L_24 ls_24 hl hw hS h
      exact nn h
    | succ n_24 ih_24 =>
      intro v1_24 S_24 H_24 L_24 ls_24 hl hw hS h
      rw [fX5_anew_L24] at h
      refine lv_iload_n hx hb dX5_anew_24 rfl (lv_at hl 1 rfl) ?_
      refine lv_aload_n hx hb dX5_anew_25 rfl (lv_at hl 0 rfl) ?_
      refine gX5_31 hx hb hB hown hK hw dX5_anew_26 ?_
      refine lv_iconst (v := 0) hx hb dX5_anew_29 (by decide) ?_
      refine lM hx hb hK hw (by decide) (by decide) (ib_ok (by decide)) dX5_anew_30 ?_
      refine lv_icmp_ge (tgt := 46) hx hb dX5_anew_31 (by decide) (fun g1 => ?_) (fun g1 => ?_)
      · rw [if_pos g1] at h
        cases h
        exact e_vW hx hb hr hlk hw hS dX5_anew_46
      · rw [if_neg g1] at h
        refine lv_aload_n hx hb dX5_anew_34 rfl (lv_at hl 0 rfl) ?_
        refine lv_iload_n hx hb dX5_anew_35 rfl (lv_at hl 1 rfl) ?_
        obtain ⟨r2, e2, h⟩ := ob h
        refine k_VWi ⟨hx, hb, hml, hown, hB⟩ (c_X5_buries l E am S_24 v1_24 r2 e2) (clX5_144 hB rfl rfl ⟨Nat.le_of_ble_eq_true rfl, Nat.le_of_ble_eq_true rfl⟩) hK hw (rvM hK hw) rfl hl.1 rfl (Nat.le_of_ble_eq_true rfl) dX5_anew_36 ⟨Nat.zero_le _, Nat.zero_le _⟩ hS (fun _ z => z) (fun H3 L3 hw _ _ hS => ?_)
        refine lv_pop hx hb dX5_anew_39 rfl ?_
        refine lv_iinc (v := (v1_24 + 1)) (lv' := [(1, .int (v1_24 + 1)), (0, .ref (am 0))]) hx hb dX5_anew_40 hl (k := 1) rfl rfl (by decide) rfl (fun ls hl => ?_)
        refine lv_goto (tgt := 24) hx hb dX5_anew_43 (by decide) ?_
        exact ih_24 (v1_24 + 1) r2.2 _ _ _ (lv_sub hl [1, 0] rfl) hw hS h
  have hL3 : ∀ (n_3 : Nat) (v1_3 : Int32) (S_3 : OS) (H_3 : Heap) (L_3 : List Loc) (ls_3 : Array Slot), lv_has ls_3 2 [(0, .ref (am 0)), (1, .int v1_3)] → MW E am S_3 H_3 → va_S (AM am) s.heap H_3 L_3 → fX5_anew_L3 n_3 v1_3 S_3 = some r → W p l e rmX5_anew s m ([.ref (am 0)] : List Value).toArray below meth c H_3 L_3 0 0 (MQ below (QW none (AM am) (MW E am r)) ([.ref (am 0)] : List Value).toArray s 0 0 (AM am)) (F0 m 3 ls_3 []) := by
    intro n_3
    induction n_3 with
    | zero =>
      intro v1_3 S_3 H_3 L_3 ls_3 hl hw hS h
      exact nn h
    | succ n_3 ih_3 =>
      intro v1_3 S_3 H_3 L_3 ls_3 hl hw hS h
      rw [fX5_anew_L3] at h
      refine lv_iload_n hx hb dX5_anew_3 rfl (lv_at hl 1 rfl) ?_
      refine lv_bipush (v := 53) hx hb dX5_anew_4 (by decide) ?_
      refine lv_icmp_ge (tgt := 22) hx hb dX5_anew_6 (by decide) (fun g4 => ?_) (fun g4 => ?_)
      · rw [if_pos g4] at h
        refine lv_iconst (v := 0) hx hb dX5_anew_22 (by decide) ?_
        refine lv_istore_n (lv' := [(1, .int 0), (0, .ref (am 0))]) hx hb dX5_anew_23 rfl hl (by decide) rfl (fun ls hl => ?_)
        exact hL24 FU 0 S_3 _ _ _ (lv_sub hl [1, 0] rfl) hw hS h
      · rw [if_neg g4] at h
        refine lv_aload_n hx hb dX5_anew_9 rfl (lv_at hl 0 rfl) ?_
        refine gX5_31 hx hb hB hown hK hw dX5_anew_10 ?_
        refine lv_iload_n hx hb dX5_anew_13 rfl (lv_at hl 1 rfl) ?_
        refine lv_iconst (v := 0) hx hb dX5_anew_14 (by decide) ?_
        obtain ⟨g5, h⟩ := gB_ok h
        refine sM hx hb hK hw hS (fun _ z => z) (by decide) (by decide) (ib_ok g5) dX5_anew_15 (fun H6 L6 hw hS => ?_)
        refine lv_iinc (v := (v1_3 + 1)) (lv' := [(1, .int (v1_3 + 1)), (0, .ref (am 0))]) hx hb dX5_anew_16 hl (k := 1) rfl rfl (by decide) rfl (fun ls hl => ?_)
        refine lv_goto (tgt := 3) hx hb dX5_anew_19 (by decide) ?_
        exact ih_3 (v1_3 + 1) (u2 S_3 8 v1_3.toNatClampNeg 0) _ _ _ (lv_sub hl [1, 0] rfl) hw hS h
  refine lv_bipush (v := 37) hx hb dX5_anew_0 (by decide) ?_
  refine lv_istore_n (lv' := [(1, .int 37), (0, .ref (am 0))]) hx hb dX5_anew_2 rfl hl (by decide) rfl (fun ls hl => ?_)
  exact hL3 FU 37 S _ _ _ (lv_sub hl [1, 0] rfl) hw hS h
def fX5_settles (S : OS) : Option (OS) := (fX5_put (u2 (u2 S 0 0 (S 0 13)) 0 1 ((u2 S 0 0 (S 0 13)) 0 14)) 8 0 7 66).bind (fun r3 => ((fX5_anew r3).bind (fun r5 => ((fX5_put r5 1 0 8 66).bind (fun r7 => (some ((u2 (u2 (u2 r7 0 3 0) 0 5 0) 0 7 0))))))))
abbrev rmX5_settles : Room := { frames := 4, cells := 0, slots := 0, locals := 96 }
set_option maxHeartbeats 4000000 in
set_option maxRecDepth 100000 in
theorem c_X5_settles (l : Launch) (E : En) (am : Nat → Nat) (S : OS) (r : OS) (h : fX5_settles S = some r) : Met l yX5_settles (kX5_settles :: BIG) rmX5_settles (Pk E [.ref (am 0)] (MW E am S)) (QW none (AM am) (MW E am r)) 0 0 (AM am) := by
  refine Mb (by decide) (Nat.le_of_ble_eq_true rfl) ?_
  intro p e s m below meth c ls hx hb hr hlk hB hown hml _ hK hw hl
  have hS : va_S (AM am) s.heap s.heap [] := va_S.rf
  have hl : lv_has ls 1 [(0, .ref (am 0))] := hl
  rw [fX5_settles] at h
  refine lv_aload_n hx hb dX5_settles_0 rfl (lv_at hl 0 rfl) ?_
  refine lv_aload_n hx hb dX5_settles_1 rfl (lv_at hl 0 rfl) ?_
  refine gX5_49 hx hb hB hown hK hw dX5_settles_2 ?_
  refine pX5_71 hx hb hB hown hK hw hS (fun _ z => z) dX5_settles_5 (fun H1 L1 hw hS => ?_)
  refine lv_aload_n hx hb dX5_settles_8 rfl (lv_at hl 0 rfl) ?_
  refine lv_aload_n hx hb dX5_settles_9 rfl (lv_at hl 0 rfl) ?_
  refine gX5_61 hx hb hB hown hK hw dX5_settles_10 ?_
  refine pX5_118 hx hb hB hown hK hw hS (fun _ z => z) dX5_settles_13 (fun H2 L2 hw hS => ?_)
  refine lv_aload_n hx hb dX5_settles_16 rfl (lv_at hl 0 rfl) ?_
  refine gX5_31 hx hb hB hown hK hw dX5_settles_17 ?_
  refine lv_iconst (v := 0) hx hb dX5_settles_20 (by decide) ?_
  refine lv_aload_n hx hb dX5_settles_21 rfl (lv_at hl 0 rfl) ?_
  refine gX5_28 hx hb hB hown hK hw dX5_settles_22 ?_
  refine lv_bipush (v := 66) hx hb dX5_settles_25 (by decide) ?_
  obtain ⟨r3, e3, h⟩ := ob h
  refine k_SWv ⟨hx, hb, hml, hown, hB⟩ (c_X5_put l E am (u2 (u2 S 0 0 (S 0 13)) 0 1 ((u2 S 0 0 (S 0 13)) 0 14)) 8 0 7 66 (by decide) (by decide) (by decide) (by decide) r3 e3) (clX5_121 hB rfl rfl ⟨Nat.le_of_ble_eq_true rfl, Nat.le_of_ble_eq_true rfl⟩) hK hw rfl hl.1 rfl (Nat.le_of_ble_eq_true rfl) dX5_settles_27 ⟨Nat.zero_le _, Nat.zero_le _⟩ hS (fun _ z => z) (fun H4 L4 hw _ _ hS => ?_)
  refine lv_aload_n hx hb dX5_settles_30 rfl (lv_at hl 0 rfl) ?_
  obtain ⟨r5, e5, h⟩ := ob h
  refine k_VWv ⟨hx, hb, hml, hown, hB⟩ (c_X5_anew l E am r3 r5 e5) (clX5_125 hB rfl rfl ⟨Nat.le_of_ble_eq_true rfl, Nat.le_of_ble_eq_true rfl⟩) hK hw (rvM hK hw) rfl hl.1 rfl (Nat.le_of_ble_eq_true rfl) dX5_settles_31 ⟨Nat.zero_le _, Nat.zero_le _⟩ hS (fun _ z => z) (fun H6 L6 hw _ _ hS => ?_)
  refine lv_aload_n hx hb dX5_settles_34 rfl (lv_at hl 0 rfl) ?_
  refine gX5_7 hx hb hB hown hK hw dX5_settles_35 ?_
  refine lv_iconst (v := 0) hx hb dX5_settles_38 (by decide) ?_
  refine lv_aload_n hx hb dX5_settles_39 rfl (lv_at hl 0 rfl) ?_
  refine gX5_31 hx hb hB hown hK hw dX5_settles_40 ?_
  refine lv_bipush (v := 66) hx hb dX5_settles_43 (by decide) ?_
  obtain ⟨r7, e7, h⟩ := ob h
  refine k_SWv ⟨hx, hb, hml, hown, hB⟩ (c_X5_put l E am r5 1 0 8 66 (by decide) (by decide) (by decide) (by decide) r7 e7) (clX5_121 hB rfl rfl ⟨Nat.le_of_ble_eq_true rfl, Nat.le_of_ble_eq_true rfl⟩) hK hw rfl hl.1 rfl (Nat.le_of_ble_eq_true rfl) dX5_settles_45 ⟨Nat.zero_le _, Nat.zero_le _⟩ hS (fun _ z => z) (fun H8 L8 hw _ _ hS => ?_)
  refine lv_aload_n hx hb dX5_settles_48 rfl (lv_at hl 0 rfl) ?_
  refine lv_iconst (v := 0) hx hb dX5_settles_49 (by decide) ?_
  refine pX5_128 hx hb hB hown hK hw hS (fun _ z => z) dX5_settles_50 (fun H9 L9 hw hS => ?_)
  refine lv_aload_n hx hb dX5_settles_53 rfl (lv_at hl 0 rfl) ?_
  refine lv_iconst (v := 0) hx hb dX5_settles_54 (by decide) ?_
  refine pX5_131 hx hb hB hown hK hw hS (fun _ z => z) dX5_settles_55 (fun H10 L10 hw hS => ?_)
  refine lv_aload_n hx hb dX5_settles_58 rfl (lv_at hl 0 rfl) ?_
  refine lv_iconst (v := 0) hx hb dX5_settles_59 (by decide) ?_
  refine pX5_134 hx hb hB hown hK hw hS (fun _ z => z) dX5_settles_60 (fun H11 L11 hw hS => ?_)
  cases h
  exact e_vW hx hb hr hlk hw hS dX5_settles_63
def fX5_lay (S : OS) : Option (Int32 × OS) := (fX5_fault S).bind (fun r1 => (if r1.1 = (-4) then if (r1.2 7 (0 : Int32).toNatClampNeg) = 0 then some ((-2), r1.2) else (fX5_settles r1.2).bind (fun r5 => (some ((r5 1 (0 : Int32).toNatClampNeg), r5))) else some ((-2), r1.2)))
abbrev rmX5_lay : Room := { frames := 6, cells := 0, slots := 0, locals := 127 }
set_option maxHeartbeats 4000000 in
set_option maxRecDepth 100000 in
theorem c_X5_lay (l : Launch) (E : En) (am : Nat → Nat) (S : OS) (r : Int32 × OS) (h : fX5_lay S = some r) : Met l yX5_lay (kX5_lay :: BIG) rmX5_lay (Pk E [.ref (am 0)] (MW E am S)) (QW (some (.int r.1)) (AM am) (MW E am r.2)) 0 0 (AM am) := by
  refine Mb (by decide) (Nat.le_of_ble_eq_true rfl) ?_
  intro p e s m below meth c ls hx hb hr hlk hB hown hml _ hK hw hl
  have hS : va_S (AM am) s.heap s.heap [] := va_S.rf
  have hl : lv_has ls 1 [(0, .ref (am 0))] := hl
  rw [fX5_lay] at h
  refine lv_aload_n hx hb dX5_lay_0 rfl (lv_at hl 0 rfl) ?_
  obtain ⟨r1, e1, h⟩ := ob h
  refine k_VWi ⟨hx, hb, hml, hown, hB⟩ (c_X5_fault l E am S r1 e1) (clX5_114 hB rfl rfl ⟨Nat.le_of_ble_eq_true rfl, Nat.le_of_ble_eq_true rfl⟩) hK hw (rvM hK hw) rfl hl.1 rfl (Nat.le_of_ble_eq_true rfl) dX5_lay_1 ⟨Nat.zero_le _, Nat.zero_le _⟩ hS (fun _ z => z) (fun H2 L2 hw _ _ hS => ?_)
  refine lv_bipush (v := (-4)) hx hb dX5_lay_4 (by decide) ?_
  refine lv_icmp_ne (tgt := 18) hx hb dX5_lay_6 (by decide) (fun g3 => ?_) (fun g3 => ?_)
  · rw [if_neg g3] at h
    refine lv_bipush (v := (-2)) hx hb dX5_lay_18 (by decide) ?_
    cases h
    exact e_zW hx hb hr hlk rfl rfl hw hS dX5_lay_20
  · rw [if_pos g3] at h
    refine lv_aload_n hx hb dX5_lay_9 rfl (lv_at hl 0 rfl) ?_
    refine gX5_28 hx hb hB hown hK hw dX5_lay_10 ?_
    refine lv_iconst (v := 0) hx hb dX5_lay_13 (by decide) ?_
    refine lM hx hb hK hw (by decide) (by decide) (ib_ok (by decide)) dX5_lay_14 ?_
    refine lv_if_ne (tgt := 21) hx hb dX5_lay_15 (by decide) (fun g4 => ?_) (fun g4 => ?_)
    · rw [if_neg g4] at h
      refine lv_aload_n hx hb dX5_lay_21 rfl (lv_at hl 0 rfl) ?_
      obtain ⟨r5, e5, h⟩ := ob h
      refine k_VWv ⟨hx, hb, hml, hown, hB⟩ (c_X5_settles l E am r1.2 r5 e5) (clX5_64 hB rfl rfl ⟨Nat.le_of_ble_eq_true rfl, Nat.le_of_ble_eq_true rfl⟩) hK hw (rvM hK hw) rfl hl.1 rfl (Nat.le_of_ble_eq_true rfl) dX5_lay_22 ⟨Nat.zero_le _, Nat.zero_le _⟩ hS (fun _ z => z) (fun H6 L6 hw _ _ hS => ?_)
      refine lv_aload_n hx hb dX5_lay_25 rfl (lv_at hl 0 rfl) ?_
      refine gX5_7 hx hb hB hown hK hw dX5_lay_26 ?_
      refine lv_iconst (v := 0) hx hb dX5_lay_29 (by decide) ?_
      refine lM hx hb hK hw (by decide) (by decide) (ib_ok (by decide)) dX5_lay_30 ?_
      cases h
      exact e_zW hx hb hr hlk rfl rfl hw hS dX5_lay_31
    · rw [if_pos g4] at h
      refine lv_bipush (v := (-2)) hx hb dX5_lay_18 (by decide) ?_
      cases h
      exact e_zW hx hb hr hlk rfl rfl hw hS dX5_lay_20
def fX5_from (S : OS) (c1 : Nat) : Option (OS) := (fX5_put S 8 0 c1 66).bind (fun r1 => (some (r1)))
abbrev rmX5_from : Room := { frames := 1, cells := 0, slots := 0, locals := 24 }
set_option maxHeartbeats 4000000 in
set_option maxRecDepth 100000 in
theorem c_X5_from (l : Launch) (E : En) (am : Nat → Nat) (S : OS) (c1 : Nat) (h01 : 0 < c1) (hc1 : c1 < 13) (r : OS) (h : fX5_from S c1 = some r) : Met l yX5_from (kX5_from :: BIG) rmX5_from (Pk E [.ref (am 0), .ref (am c1)] (MW E am S)) (QW none (AM am) (MW E am r)) 0 0 (AM am) := by
  refine Mb (by decide) (Nat.le_of_ble_eq_true rfl) ?_
  intro p e s m below meth c ls hx hb hr hlk hB hown hml _ hK hw hl
  have hS : va_S (AM am) s.heap s.heap [] := va_S.rf
  have hl : lv_has ls 2 [(0, .ref (am 0)), (1, .ref (am c1))] := hl
  rw [fX5_from] at h
  refine lv_aload_n hx hb dX5_from_0 rfl (lv_at hl 0 rfl) ?_
  refine gX5_31 hx hb hB hown hK hw dX5_from_1 ?_
  refine lv_iconst (v := 0) hx hb dX5_from_4 (by decide) ?_
  refine lv_aload_n hx hb dX5_from_5 rfl (lv_at hl 1 rfl) ?_
  refine lv_bipush (v := 66) hx hb dX5_from_6 (by decide) ?_
  obtain ⟨r1, e1, h⟩ := ob h
  refine k_SWv ⟨hx, hb, hml, hown, hB⟩ (c_X5_put l E am S 8 0 c1 66 (by decide) (by decide) h01 hc1 r1 e1) (clX5_121 hB rfl rfl ⟨Nat.le_of_ble_eq_true rfl, Nat.le_of_ble_eq_true rfl⟩) hK hw rfl hl.1 rfl (Nat.le_of_ble_eq_true rfl) dX5_from_8 ⟨Nat.zero_le _, Nat.zero_le _⟩ hS (fun _ z => z) (fun H2 L2 hw _ _ hS => ?_)
  cases h
  exact e_vW hx hb hr hlk hw hS dX5_from_11
def fX5_plotIn_L2 (c1 : Nat) (S : OS) (v1_2 : Int32) (v2_2 : Int32) : Nat → Int32 → Option (Int32)
  | 0, _ => none
  | n_2 + 1, v3_2 => if 8 ≤ v3_2 then some (-4) else gB (ib ((37 + (8 * v1_2)) + v3_2) (lenM c1)) (if (S c1 ((37 + (8 * v1_2)) + v3_2).toNatClampNeg) = (v2_2 + 1) then some v3_2 else fX5_plotIn_L2 c1 S v1_2 v2_2 n_2 (v3_2 + 1))
def fX5_plotIn (S : OS) (c1 : Nat) (a2 : Int32) (a3 : Int32) : Option (Int32) := fX5_plotIn_L2 c1 S a2 a3 FU 0
abbrev rmX5_plotIn : Room := { frames := 0, cells := 0, slots := 0, locals := 0 }
set_option maxHeartbeats 4000000 in
set_option maxRecDepth 100000 in
theorem c_X5_plotIn (l : Launch) (E : En) (am : Nat → Nat) (S : OS) (c1 : Nat) (a2 : Int32) (a3 : Int32) (h01 : 0 < c1) (hc1 : c1 < 13) (r : Int32) (h : fX5_plotIn S c1 a2 a3 = some r) : Met l yX5_plotIn (kX5_plotIn :: BIG) rmX5_plotIn (Pk E [.ref (am c1), .int a2, .int a3] (MW E am S)) (QcRead r) 0 0 (fun _ => False) := by
  refine Mb (by decide) (Nat.le_of_ble_eq_true rfl) ?_
  intro p e s m below meth c ls hx hb hr hlk hB hown hml _ hK hw hl
  have hl : lv_has ls 4 [(0, .ref (am c1)), (1, .int a2), (2, .int a3)] := hl
  rw [fX5_plotIn] at h
  have hL2 : ∀ (n_2 : Nat) (v1_2 : Int32) (v2_2 : Int32) (v3_2 : Int32) (ls_2 : Array Slot), lv_has ls_2 4 [(0, .ref (am c1)), (1, .int v1_2), (2, .int v2_2), (3, .int v3_2)] → fX5_plotIn_L2 c1 S v1_2 v2_2 n_2 v3_2 = some r → W p l e rmX5_plotIn s m ([.ref (am c1), .int a2, .int a3] : List Value).toArray below meth c s.heap [] 0 0 (MQ below (QcRead r) ([.ref (am c1), .int a2, .int a3] : List Value).toArray s 0 0 (fun _ => False)) (F0 m 2 ls_2 []) := by
    intro n_2
    induction n_2 with
    | zero =>
      intro v1_2 v2_2 v3_2 ls_2 hl h
      exact nn h
    | succ n_2 ih_2 =>
      intro v1_2 v2_2 v3_2 ls_2 hl h
      rw [fX5_plotIn_L2] at h
      refine lv_iload_n hx hb dX5_plotIn_2 rfl (lv_at hl 3 rfl) ?_
      refine lv_bipush (v := 8) hx hb dX5_plotIn_3 (by decide) ?_
      refine lv_icmp_ge (tgt := 33) hx hb dX5_plotIn_5 (by decide) (fun g1 => ?_) (fun g1 => ?_)
      · rw [if_pos g1] at h
        refine lv_bipush (v := (-4)) hx hb dX5_plotIn_33 (by decide) ?_
        exact e_zR hx hb hr hlk rfl h dX5_plotIn_35
      · rw [if_neg g1] at h
        refine lv_aload_n hx hb dX5_plotIn_8 rfl (lv_at hl 0 rfl) ?_
        refine lv_bipush (v := 37) hx hb dX5_plotIn_9 (by decide) ?_
        refine lv_bipush (v := 8) hx hb dX5_plotIn_11 (by decide) ?_
        refine lv_iload_n hx hb dX5_plotIn_13 rfl (lv_at hl 1 rfl) ?_
        refine lv_imul hx hb dX5_plotIn_14 ?_
        refine lv_iadd hx hb dX5_plotIn_15 ?_
        refine lv_iload_n hx hb dX5_plotIn_16 rfl (lv_at hl 3 rfl) ?_
        refine lv_iadd hx hb dX5_plotIn_17 ?_
        obtain ⟨g2, h⟩ := gB_ok h
        refine lM hx hb hK hw h01 hc1 (ib_ok g2) dX5_plotIn_18 ?_
        refine lv_iload_n hx hb dX5_plotIn_19 rfl (lv_at hl 2 rfl) ?_
        refine lv_iconst (v := 1) hx hb dX5_plotIn_20 (by decide) ?_
        refine lv_iadd hx hb dX5_plotIn_21 ?_
        refine lv_icmp_ne (tgt := 27) hx hb dX5_plotIn_22 (by decide) (fun g3 => ?_) (fun g3 => ?_)
        · rw [if_neg g3] at h
          refine lv_iinc (v := (v3_2 + 1)) (lv' := [(3, .int (v3_2 + 1)), (0, .ref (am c1)), (1, .int v1_2), (2, .int v2_2)]) hx hb dX5_plotIn_27 hl (k := 3) rfl rfl (by decide) rfl (fun ls hl => ?_)
          refine lv_goto (tgt := 2) hx hb dX5_plotIn_30 (by decide) ?_
          exact ih_2 v1_2 v2_2 (v3_2 + 1) _ (lv_sub hl [1, 2, 3, 0] rfl) h
        · rw [if_pos g3] at h
          refine lv_iload_n hx hb dX5_plotIn_25 rfl (lv_at hl 3 rfl) ?_
          exact e_zR hx hb hr hlk rfl h dX5_plotIn_26
  refine lv_iconst (v := 0) hx hb dX5_plotIn_0 (by decide) ?_
  refine lv_istore_n (lv' := [(3, .int 0), (0, .ref (am c1)), (1, .int a2), (2, .int a3)]) hx hb dX5_plotIn_1 rfl hl (by decide) rfl (fun ls hl => ?_)
  exact hL2 FU a2 a3 0 _ (lv_sub hl [1, 2, 3, 0] rfl) h
def fX5_plotOf (S : OS) (c1 : Nat) (a2 : Int32) : Option (Int32) := gB (ib (1 + (3 * a2)) (lenM c1)) ((fX5_plotIn S c1 (1 - (S c1 (1 + (3 * a2)).toNatClampNeg)) a2).bind (fun r2 => (some r2)))
abbrev rmX5_plotOf : Room := { frames := 1, cells := 0, slots := 0, locals := 23 }
set_option maxHeartbeats 4000000 in
set_option maxRecDepth 100000 in
theorem c_X5_plotOf (l : Launch) (E : En) (am : Nat → Nat) (S : OS) (c1 : Nat) (a2 : Int32) (h01 : 0 < c1) (hc1 : c1 < 13) (r : Int32) (h : fX5_plotOf S c1 a2 = some r) : Met l yX5_plotOf (kX5_plotOf :: BIG) rmX5_plotOf (Pk E [.ref (am c1), .int a2] (MW E am S)) (QcRead r) 0 0 (fun _ => False) := by
  refine Mb (by decide) (Nat.le_of_ble_eq_true rfl) ?_
  intro p e s m below meth c ls hx hb hr hlk hB hown hml _ hK hw hl
  have hl : lv_has ls 2 [(0, .ref (am c1)), (1, .int a2)] := hl
  rw [fX5_plotOf] at h
  refine lv_aload_n hx hb dX5_plotOf_0 rfl (lv_at hl 0 rfl) ?_
  refine lv_iconst (v := 1) hx hb dX5_plotOf_1 (by decide) ?_
  refine lv_aload_n hx hb dX5_plotOf_2 rfl (lv_at hl 0 rfl) ?_
  refine lv_iconst (v := 1) hx hb dX5_plotOf_3 (by decide) ?_
  refine lv_iconst (v := 3) hx hb dX5_plotOf_4 (by decide) ?_
  refine lv_iload_n hx hb dX5_plotOf_5 rfl (lv_at hl 1 rfl) ?_
  refine lv_imul hx hb dX5_plotOf_6 ?_
  refine lv_iadd hx hb dX5_plotOf_7 ?_
  obtain ⟨g1, h⟩ := gB_ok h
  refine lM hx hb hK hw h01 hc1 (ib_ok g1) dX5_plotOf_8 ?_
  refine lv_isub hx hb dX5_plotOf_9 ?_
  refine lv_iload_n hx hb dX5_plotOf_10 rfl (lv_at hl 1 rfl) ?_
  obtain ⟨r2, e2, h⟩ := ob h
  refine k_SR ⟨hx, hb, hml, hown, hB⟩ (c_X5_plotIn l E am S c1 (1 - (S c1 (1 + (3 * a2)).toNatClampNeg)) a2 h01 hc1 r2 e2) (clX5_147 hB rfl rfl ⟨Nat.le_of_ble_eq_true rfl, Nat.le_of_ble_eq_true rfl⟩) hK hw rfl hl.1 rfl (Nat.le_of_ble_eq_true rfl) dX5_plotOf_11 ⟨Nat.zero_le _, Nat.zero_le _⟩ ?_
  exact e_zR hx hb hr hlk rfl h dX5_plotOf_14
def fX5_dead (S : OS) (a1 : Int32) (a2 : Int32) : Option (Int32) := (fX5_isDead S a1).bind (fun r1 => (if r1 = 0 then some (-1) else (fX5_in a2 0 4).bind (fun r3 => (if r3 = 0 then some (-1) else if 3 ≤ a2 then if a2 = 3 then (fX5_plotOf S 1 a1).bind (fun r9 => (some r9)) else gB (ib (1 + (3 * a1)) 66) ((fX5_plotIn S 1 (S 1 (1 + (3 * a1)).toNatClampNeg) (a1 + 20)).bind (fun r8 => (some r8))) else gB (ib ((1 + (3 * a1)) + a2) 66) (some (S 1 ((1 + (3 * a1)) + a2).toNatClampNeg))))))
abbrev rmX5_dead : Room := { frames := 2, cells := 0, slots := 0, locals := 44 }
set_option maxHeartbeats 4000000 in
set_option maxRecDepth 100000 in
theorem c_X5_dead (l : Launch) (E : En) (am : Nat → Nat) (S : OS) (a1 : Int32) (a2 : Int32) (r : Int32) (h : fX5_dead S a1 a2 = some r) : Met l yX5_dead (kX5_dead :: BIG) rmX5_dead (Pk E [.ref (am 0), .int a1, .int a2] (MW E am S)) (QcRead r) 0 0 (fun _ => False) := by
  refine Mb (by decide) (Nat.le_of_ble_eq_true rfl) ?_
  intro p e s m below meth c ls hx hb hr hlk hB hown hml _ hK hw hl
  have hl : lv_has ls 3 [(0, .ref (am 0)), (1, .int a1), (2, .int a2)] := hl
  rw [fX5_dead] at h
  refine lv_aload_n hx hb dX5_dead_0 rfl (lv_at hl 0 rfl) ?_
  refine lv_iload_n hx hb dX5_dead_1 rfl (lv_at hl 1 rfl) ?_
  obtain ⟨r1, e1, h⟩ := ob h
  refine k_VR ⟨hx, hb, hml, hown, hB⟩ (c_X5_isDead l E am S a1 r1 e1) (clX5_151 hB rfl rfl ⟨Nat.le_of_ble_eq_true rfl, Nat.le_of_ble_eq_true rfl⟩) hK hw (rvM hK hw) rfl hl.1 rfl (Nat.le_of_ble_eq_true rfl) dX5_dead_2 ⟨Nat.zero_le _, Nat.zero_le _⟩ ?_
  refine lv_if_eq (tgt := 17) hx hb dX5_dead_5 (by decide) (fun g2 => ?_) (fun g2 => ?_)
  · rw [if_pos g2] at h
    refine lv_iconst (v := (-1)) hx hb dX5_dead_17 (by decide) ?_
    exact e_zR hx hb hr hlk rfl h dX5_dead_18
  · rw [if_neg g2] at h
    refine lv_iload_n hx hb dX5_dead_8 rfl (lv_at hl 2 rfl) ?_
    refine lv_iconst (v := 0) hx hb dX5_dead_9 (by decide) ?_
    refine lv_iconst (v := 4) hx hb dX5_dead_10 (by decide) ?_
    obtain ⟨r3, e3, h⟩ := ob h
    refine k_SR ⟨hx, hb, hml, hown, hB⟩ (c_X5_in l E a2 0 4 r3 e3) (clX5_67 hB rfl rfl ⟨Nat.le_of_ble_eq_true rfl, Nat.le_of_ble_eq_true rfl⟩) hK trivial rfl hl.1 rfl (Nat.le_of_ble_eq_true rfl) dX5_dead_11 ⟨Nat.zero_le _, Nat.zero_le _⟩ ?_
    refine lv_if_ne (tgt := 19) hx hb dX5_dead_14 (by decide) (fun g4 => ?_) (fun g4 => ?_)
    · rw [if_neg g4] at h
      refine lv_iload_n hx hb dX5_dead_19 rfl (lv_at hl 2 rfl) ?_
      refine lv_iconst (v := 3) hx hb dX5_dead_20 (by decide) ?_
      refine lv_icmp_ge (tgt := 39) hx hb dX5_dead_21 (by decide) (fun g5 => ?_) (fun g5 => ?_)
      · rw [if_pos g5] at h
        refine lv_iload_n hx hb dX5_dead_39 rfl (lv_at hl 2 rfl) ?_
        refine lv_iconst (v := 3) hx hb dX5_dead_40 (by decide) ?_
        refine lv_icmp_ne (tgt := 55) hx hb dX5_dead_41 (by decide) (fun g6 => ?_) (fun g6 => ?_)
        · rw [if_neg g6] at h
          refine lv_aload_n hx hb dX5_dead_55 rfl (lv_at hl 0 rfl) ?_
          refine gX5_7 hx hb hB hown hK hw dX5_dead_56 ?_
          refine lv_aload_n hx hb dX5_dead_59 rfl (lv_at hl 0 rfl) ?_
          refine gX5_7 hx hb hB hown hK hw dX5_dead_60 ?_
          refine lv_iconst (v := 1) hx hb dX5_dead_63 (by decide) ?_
          refine lv_iconst (v := 3) hx hb dX5_dead_64 (by decide) ?_
          refine lv_iload_n hx hb dX5_dead_65 rfl (lv_at hl 1 rfl) ?_
          refine lv_imul hx hb dX5_dead_66 ?_
          refine lv_iadd hx hb dX5_dead_67 ?_
          obtain ⟨g7, h⟩ := gB_ok h
          refine lM hx hb hK hw (by decide) (by decide) (ib_ok g7) dX5_dead_68 ?_
          refine lv_iload_n hx hb dX5_dead_69 rfl (lv_at hl 1 rfl) ?_
          refine lv_bipush (v := 20) hx hb dX5_dead_70 (by decide) ?_
          refine lv_iadd hx hb dX5_dead_72 ?_
          obtain ⟨r8, e8, h⟩ := ob h
          refine k_SR ⟨hx, hb, hml, hown, hB⟩ (c_X5_plotIn l E am S 1 (S 1 (1 + (3 * a1)).toNatClampNeg) (a1 + 20) (by decide) (by decide) r8 e8) (clX5_147 hB rfl rfl ⟨Nat.le_of_ble_eq_true rfl, Nat.le_of_ble_eq_true rfl⟩) hK hw rfl hl.1 rfl (Nat.le_of_ble_eq_true rfl) dX5_dead_73 ⟨Nat.zero_le _, Nat.zero_le _⟩ ?_
          exact e_zR hx hb hr hlk rfl h dX5_dead_76
        · rw [if_pos g6] at h
          refine lv_aload_n hx hb dX5_dead_44 rfl (lv_at hl 0 rfl) ?_
          refine gX5_7 hx hb hB hown hK hw dX5_dead_45 ?_
          refine lv_iload_n hx hb dX5_dead_48 rfl (lv_at hl 1 rfl) ?_
          obtain ⟨r9, e9, h⟩ := ob h
          refine k_SR ⟨hx, hb, hml, hown, hB⟩ (c_X5_plotOf l E am S 1 a1 (by decide) (by decide) r9 e9) (clX5_154 hB rfl rfl ⟨Nat.le_of_ble_eq_true rfl, Nat.le_of_ble_eq_true rfl⟩) hK hw rfl hl.1 rfl (Nat.le_of_ble_eq_true rfl) dX5_dead_49 ⟨Nat.zero_le _, Nat.zero_le _⟩ ?_
          refine lv_goto (tgt := 76) hx hb dX5_dead_52 (by decide) ?_
          exact e_zR hx hb hr hlk rfl h dX5_dead_76
      · rw [if_neg g5] at h
        refine lv_aload_n hx hb dX5_dead_24 rfl (lv_at hl 0 rfl) ?_
        refine gX5_7 hx hb hB hown hK hw dX5_dead_25 ?_
        refine lv_iconst (v := 1) hx hb dX5_dead_28 (by decide) ?_
        refine lv_iconst (v := 3) hx hb dX5_dead_29 (by decide) ?_
        refine lv_iload_n hx hb dX5_dead_30 rfl (lv_at hl 1 rfl) ?_
        refine lv_imul hx hb dX5_dead_31 ?_
        refine lv_iadd hx hb dX5_dead_32 ?_
        refine lv_iload_n hx hb dX5_dead_33 rfl (lv_at hl 2 rfl) ?_
        refine lv_iadd hx hb dX5_dead_34 ?_
        obtain ⟨g10, h⟩ := gB_ok h
        refine lM hx hb hK hw (by decide) (by decide) (ib_ok g10) dX5_dead_35 ?_
        refine lv_goto (tgt := 76) hx hb dX5_dead_36 (by decide) ?_
        exact e_zR hx hb hr hlk rfl h dX5_dead_76
    · rw [if_pos g4] at h
      refine lv_iconst (v := (-1)) hx hb dX5_dead_17 (by decide) ?_
      exact e_zR hx hb hr hlk rfl h dX5_dead_18
def fX5_plot (S : OS) (a1 : Int32) (a2 : Int32) : Option (Int32) := (fX5_in a1 0 1).bind (fun r1 => (if r1 = 0 then some (-1) else (fX5_isPlot S a2).bind (fun r3 => (if r3 = 0 then some (-1) else gB (ib ((37 + (8 * a1)) + a2) 66) ((fX5_whoIs (S 1 ((37 + (8 * a1)) + a2).toNatClampNeg)).bind (fun r6 => (some r6)))))))
abbrev rmX5_plot : Room := { frames := 2, cells := 0, slots := 0, locals := 43 }
set_option maxHeartbeats 4000000 in
set_option maxRecDepth 100000 in
theorem c_X5_plot (l : Launch) (E : En) (am : Nat → Nat) (S : OS) (a1 : Int32) (a2 : Int32) (r : Int32) (h : fX5_plot S a1 a2 = some r) : Met l yX5_plot (kX5_plot :: BIG) rmX5_plot (Pk E [.ref (am 0), .int a1, .int a2] (MW E am S)) (QcRead r) 0 0 (fun _ => False) := by
  refine Mb (by decide) (Nat.le_of_ble_eq_true rfl) ?_
  intro p e s m below meth c ls hx hb hr hlk hB hown hml _ hK hw hl
  have hl : lv_has ls 3 [(0, .ref (am 0)), (1, .int a1), (2, .int a2)] := hl
  rw [fX5_plot] at h
  refine lv_iload_n hx hb dX5_plot_0 rfl (lv_at hl 1 rfl) ?_
  refine lv_iconst (v := 0) hx hb dX5_plot_1 (by decide) ?_
  refine lv_iconst (v := 1) hx hb dX5_plot_2 (by decide) ?_
  obtain ⟨r1, e1, h⟩ := ob h
  refine k_SR ⟨hx, hb, hml, hown, hB⟩ (c_X5_in l E a1 0 1 r1 e1) (clX5_67 hB rfl rfl ⟨Nat.le_of_ble_eq_true rfl, Nat.le_of_ble_eq_true rfl⟩) hK trivial rfl hl.1 rfl (Nat.le_of_ble_eq_true rfl) dX5_plot_3 ⟨Nat.zero_le _, Nat.zero_le _⟩ ?_
  refine lv_if_eq (tgt := 37) hx hb dX5_plot_6 (by decide) (fun g2 => ?_) (fun g2 => ?_)
  · rw [if_pos g2] at h
    refine lv_iconst (v := (-1)) hx hb dX5_plot_37 (by decide) ?_
    exact e_zR hx hb hr hlk rfl h dX5_plot_38
  · rw [if_neg g2] at h
    refine lv_aload_n hx hb dX5_plot_9 rfl (lv_at hl 0 rfl) ?_
    refine lv_iload_n hx hb dX5_plot_10 rfl (lv_at hl 2 rfl) ?_
    obtain ⟨r3, e3, h⟩ := ob h
    refine k_VR ⟨hx, hb, hml, hown, hB⟩ (c_X5_isPlot l E am S a2 r3 e3) (clX5_158 hB rfl rfl ⟨Nat.le_of_ble_eq_true rfl, Nat.le_of_ble_eq_true rfl⟩) hK hw (rvM hK hw) rfl hl.1 rfl (Nat.le_of_ble_eq_true rfl) dX5_plot_11 ⟨Nat.zero_le _, Nat.zero_le _⟩ ?_
    refine lv_if_eq (tgt := 37) hx hb dX5_plot_14 (by decide) (fun g4 => ?_) (fun g4 => ?_)
    · rw [if_pos g4] at h
      refine lv_iconst (v := (-1)) hx hb dX5_plot_37 (by decide) ?_
      exact e_zR hx hb hr hlk rfl h dX5_plot_38
    · rw [if_neg g4] at h
      refine lv_aload_n hx hb dX5_plot_17 rfl (lv_at hl 0 rfl) ?_
      refine gX5_7 hx hb hB hown hK hw dX5_plot_18 ?_
      refine lv_bipush (v := 37) hx hb dX5_plot_21 (by decide) ?_
      refine lv_bipush (v := 8) hx hb dX5_plot_23 (by decide) ?_
      refine lv_iload_n hx hb dX5_plot_25 rfl (lv_at hl 1 rfl) ?_
      refine lv_imul hx hb dX5_plot_26 ?_
      refine lv_iadd hx hb dX5_plot_27 ?_
      refine lv_iload_n hx hb dX5_plot_28 rfl (lv_at hl 2 rfl) ?_
      refine lv_iadd hx hb dX5_plot_29 ?_
      obtain ⟨g5, h⟩ := gB_ok h
      refine lM hx hb hK hw (by decide) (by decide) (ib_ok g5) dX5_plot_30 ?_
      obtain ⟨r6, e6, h⟩ := ob h
      refine k_SR ⟨hx, hb, hml, hown, hB⟩ (c_X5_whoIs l E (S 1 ((37 + (8 * a1)) + a2).toNatClampNeg) r6 e6) (clX5_161 hB rfl rfl ⟨Nat.le_of_ble_eq_true rfl, Nat.le_of_ble_eq_true rfl⟩) hK trivial rfl hl.1 rfl (Nat.le_of_ble_eq_true rfl) dX5_plot_31 ⟨Nat.zero_le _, Nat.zero_le _⟩ ?_
      refine lv_goto (tgt := 38) hx hb dX5_plot_34 (by decide) ?_
      exact e_zR hx hb hr hlk rfl h dX5_plot_38
def fX5_visitor (S : OS) (a1 : Int32) (a2 : Int32) : Option (Int32) := (fX5_in a1 0 ((S 1 (53 : Int32).toNatClampNeg) - 1)).bind (fun r1 => (if r1 = 0 then some (-1) else (fX5_in a2 0 1).bind (fun r3 => (if r3 = 0 then some (-1) else gB (ib ((54 + (2 * a1)) + a2) 66) (some (S 1 ((54 + (2 * a1)) + a2).toNatClampNeg))))))
abbrev rmX5_visitor : Room := { frames := 1, cells := 0, slots := 0, locals := 22 }
set_option maxHeartbeats 4000000 in
set_option maxRecDepth 100000 in
theorem c_X5_visitor (l : Launch) (E : En) (am : Nat → Nat) (S : OS) (a1 : Int32) (a2 : Int32) (r : Int32) (h : fX5_visitor S a1 a2 = some r) : Met l yX5_visitor (kX5_visitor :: BIG) rmX5_visitor (Pk E [.ref (am 0), .int a1, .int a2] (MW E am S)) (QcRead r) 0 0 (fun _ => False) := by
  refine Mb (by decide) (Nat.le_of_ble_eq_true rfl) ?_
  intro p e s m below meth c ls hx hb hr hlk hB hown hml _ hK hw hl
  have hl : lv_has ls 3 [(0, .ref (am 0)), (1, .int a1), (2, .int a2)] := hl
  rw [fX5_visitor] at h
  refine lv_iload_n hx hb dX5_visitor_0 rfl (lv_at hl 1 rfl) ?_
  refine lv_iconst (v := 0) hx hb dX5_visitor_1 (by decide) ?_
  refine lv_aload_n hx hb dX5_visitor_2 rfl (lv_at hl 0 rfl) ?_
  refine gX5_7 hx hb hB hown hK hw dX5_visitor_3 ?_
  refine lv_bipush (v := 53) hx hb dX5_visitor_6 (by decide) ?_
  refine lM hx hb hK hw (by decide) (by decide) (ib_ok (by decide)) dX5_visitor_8 ?_
  refine lv_iconst (v := 1) hx hb dX5_visitor_9 (by decide) ?_
  refine lv_isub hx hb dX5_visitor_10 ?_
  obtain ⟨r1, e1, h⟩ := ob h
  refine k_SR ⟨hx, hb, hml, hown, hB⟩ (c_X5_in l E a1 0 ((S 1 (53 : Int32).toNatClampNeg) - 1) r1 e1) (clX5_67 hB rfl rfl ⟨Nat.le_of_ble_eq_true rfl, Nat.le_of_ble_eq_true rfl⟩) hK trivial rfl hl.1 rfl (Nat.le_of_ble_eq_true rfl) dX5_visitor_11 ⟨Nat.zero_le _, Nat.zero_le _⟩ ?_
  refine lv_if_eq (tgt := 42) hx hb dX5_visitor_14 (by decide) (fun g2 => ?_) (fun g2 => ?_)
  · rw [if_pos g2] at h
    refine lv_iconst (v := (-1)) hx hb dX5_visitor_42 (by decide) ?_
    exact e_zR hx hb hr hlk rfl h dX5_visitor_43
  · rw [if_neg g2] at h
    refine lv_iload_n hx hb dX5_visitor_17 rfl (lv_at hl 2 rfl) ?_
    refine lv_iconst (v := 0) hx hb dX5_visitor_18 (by decide) ?_
    refine lv_iconst (v := 1) hx hb dX5_visitor_19 (by decide) ?_
    obtain ⟨r3, e3, h⟩ := ob h
    refine k_SR ⟨hx, hb, hml, hown, hB⟩ (c_X5_in l E a2 0 1 r3 e3) (clX5_67 hB rfl rfl ⟨Nat.le_of_ble_eq_true rfl, Nat.le_of_ble_eq_true rfl⟩) hK trivial rfl hl.1 rfl (Nat.le_of_ble_eq_true rfl) dX5_visitor_20 ⟨Nat.zero_le _, Nat.zero_le _⟩ ?_
    refine lv_if_eq (tgt := 42) hx hb dX5_visitor_23 (by decide) (fun g4 => ?_) (fun g4 => ?_)
    · rw [if_pos g4] at h
      refine lv_iconst (v := (-1)) hx hb dX5_visitor_42 (by decide) ?_
      exact e_zR hx hb hr hlk rfl h dX5_visitor_43
    · rw [if_neg g4] at h
      refine lv_aload_n hx hb dX5_visitor_26 rfl (lv_at hl 0 rfl) ?_
      refine gX5_7 hx hb hB hown hK hw dX5_visitor_27 ?_
      refine lv_bipush (v := 54) hx hb dX5_visitor_30 (by decide) ?_
      refine lv_iconst (v := 2) hx hb dX5_visitor_32 (by decide) ?_
      refine lv_iload_n hx hb dX5_visitor_33 rfl (lv_at hl 1 rfl) ?_
      refine lv_imul hx hb dX5_visitor_34 ?_
      refine lv_iadd hx hb dX5_visitor_35 ?_
      refine lv_iload_n hx hb dX5_visitor_36 rfl (lv_at hl 2 rfl) ?_
      refine lv_iadd hx hb dX5_visitor_37 ?_
      obtain ⟨g5, h⟩ := gB_ok h
      refine lM hx hb hK hw (by decide) (by decide) (ib_ok g5) dX5_visitor_38 ?_
      refine lv_goto (tgt := 43) hx hb dX5_visitor_39 (by decide) ?_
      exact e_zR hx hb hr hlk rfl h dX5_visitor_43
def fX5_remembers_L11 : Nat → Int32 → OS → Option (OS)
  | 0, _, _ => none
  | n_11 + 1, v1_11, S_11 => if 462 ≤ v1_11 then (fX5_put (u2 S_11 0 3 ((S_11 0 3) - 1)) 2 (66 * ((u2 S_11 0 3 ((S_11 0 3) - 1)) 0 3)) 1 66).bind (fun r3 => (some ((u2 r3 0 3 ((r3 0 3) + 1))))) else gB (ib (v1_11 + 66) 528) (gB (ib v1_11 528) (fX5_remembers_L11 n_11 (v1_11 + 1) (u2 S_11 2 v1_11.toNatClampNeg (S_11 2 (v1_11 + 66).toNatClampNeg))))
def fX5_remembers (S : OS) : Option (OS) := if (S 0 3) = 8 then fX5_remembers_L11 FU 0 S else (fX5_put S 2 (66 * (S 0 3)) 1 66).bind (fun r10 => (some ((u2 r10 0 3 ((r10 0 3) + 1)))))
abbrev rmX5_remembers : Room := { frames := 1, cells := 0, slots := 0, locals := 24 }
set_option maxHeartbeats 4000000 in
set_option maxRecDepth 100000 in
theorem c_X5_remembers (l : Launch) (E : En) (am : Nat → Nat) (S : OS) (r : OS) (h : fX5_remembers S = some r) : Met l yX5_remembers (kX5_remembers :: BIG) rmX5_remembers (Pk E [.ref (am 0)] (MW E am S)) (QW none (AM am) (MW E am r)) 0 0 (AM am) := by
  refine Mb (by decide) (Nat.le_of_ble_eq_true rfl) ?_
  intro p e s m below meth c ls hx hb hr hlk hB hown hml _ hK hw hl
  have hS : va_S (AM am) s.heap s.heap [] := va_S.rf
  have hl : lv_has ls 2 [(0, .ref (am 0))] := hl
  rw [fX5_remembers] at h
  have hL11 : ∀ (n_11 : Nat) (v1_11 : Int32) (S_11 : OS) (H_11 : Heap) (L_11 : List Loc) (ls_11 : Array Slot), lv_has ls_11 2 [(0, .ref (am 0)), (1, .int v1_11)] → MW E am S_11 H_11 → va_S (AM am) s.heap H_11 L_11 → fX5_remembers_L11 n_11 v1_11 S_11 = some r → W p l e rmX5_remembers s m ([.ref (am 0)] : List Value).toArray below meth c H_11 L_11 0 0 (MQ below (QW none (AM am) (MW E am r)) ([.ref (am 0)] : List Value).toArray s 0 0 (AM am)) (F0 m 11 ls_11 []) := by
    intro n_11
    induction n_11 with
    | zero =>
      intro v1_11 S_11 H_11 L_11 ls_11 hl hw hS h
      exact nn h
    | succ n_11 ih_11 =>
      intro v1_11 S_11 H_11 L_11 ls_11 hl hw hS h
      rw [fX5_remembers_L11] at h
      refine lv_iload_n hx hb dX5_remembers_11 rfl (lv_at hl 1 rfl) ?_
      refine lv_sipush (v := 462) hx hb dX5_remembers_12 (by decide) ?_
      refine lv_icmp_ge (tgt := 39) hx hb dX5_remembers_15 (by decide) (fun g1 => ?_) (fun g1 => ?_)
      · rw [if_pos g1] at h
        refine lv_aload_n hx hb dX5_remembers_39 rfl (lv_at hl 0 rfl) ?_
        refine lv_dup hx hb dX5_remembers_40 rfl ?_
        refine gX5_128 hx hb hB hown hK hw dX5_remembers_41 ?_
        refine lv_iconst (v := 1) hx hb dX5_remembers_44 (by decide) ?_
        refine lv_isub hx hb dX5_remembers_45 ?_
        refine pX5_128 hx hb hB hown hK hw hS (fun _ z => z) dX5_remembers_46 (fun H2 L2 hw hS => ?_)
        refine lv_aload_n hx hb dX5_remembers_49 rfl (lv_at hl 0 rfl) ?_
        refine gX5_13 hx hb hB hown hK hw dX5_remembers_50 ?_
        refine lv_bipush (v := 66) hx hb dX5_remembers_53 (by decide) ?_
        refine lv_aload_n hx hb dX5_remembers_55 rfl (lv_at hl 0 rfl) ?_
        refine gX5_128 hx hb hB hown hK hw dX5_remembers_56 ?_
        refine lv_imul hx hb dX5_remembers_59 ?_
        refine lv_aload_n hx hb dX5_remembers_60 rfl (lv_at hl 0 rfl) ?_
        refine gX5_7 hx hb hB hown hK hw dX5_remembers_61 ?_
        refine lv_bipush (v := 66) hx hb dX5_remembers_64 (by decide) ?_
        obtain ⟨r3, e3, h⟩ := ob h
        refine k_SWv ⟨hx, hb, hml, hown, hB⟩ (c_X5_put l E am (u2 S_11 0 3 ((S_11 0 3) - 1)) 2 (66 * ((u2 S_11 0 3 ((S_11 0 3) - 1)) 0 3)) 1 66 (by decide) (by decide) (by decide) (by decide) r3 e3) (clX5_121 hB rfl rfl ⟨Nat.le_of_ble_eq_true rfl, Nat.le_of_ble_eq_true rfl⟩) hK hw rfl hl.1 rfl (Nat.le_of_ble_eq_true rfl) dX5_remembers_66 ⟨Nat.zero_le _, Nat.zero_le _⟩ hS (fun _ z => z) (fun H4 L4 hw _ _ hS => ?_)
        refine lv_aload_n hx hb dX5_remembers_69 rfl (lv_at hl 0 rfl) ?_
        refine lv_dup hx hb dX5_remembers_70 rfl ?_
        refine gX5_128 hx hb hB hown hK hw dX5_remembers_71 ?_
        refine lv_iconst (v := 1) hx hb dX5_remembers_74 (by decide) ?_
        refine lv_iadd hx hb dX5_remembers_75 ?_
        refine pX5_128 hx hb hB hown hK hw hS (fun _ z => z) dX5_remembers_76 (fun H5 L5 hw hS => ?_)
        cases h
        exact e_vW hx hb hr hlk hw hS dX5_remembers_79
      · rw [if_neg g1] at h
        refine lv_aload_n hx hb dX5_remembers_18 rfl (lv_at hl 0 rfl) ?_
        refine gX5_13 hx hb hB hown hK hw dX5_remembers_19 ?_
        refine lv_iload_n hx hb dX5_remembers_22 rfl (lv_at hl 1 rfl) ?_
        refine lv_aload_n hx hb dX5_remembers_23 rfl (lv_at hl 0 rfl) ?_
        refine gX5_13 hx hb hB hown hK hw dX5_remembers_24 ?_
        refine lv_iload_n hx hb dX5_remembers_27 rfl (lv_at hl 1 rfl) ?_
        refine lv_bipush (v := 66) hx hb dX5_remembers_28 (by decide) ?_
        refine lv_iadd hx hb dX5_remembers_30 ?_
        obtain ⟨g6, h⟩ := gB_ok h
        refine lM hx hb hK hw (by decide) (by decide) (ib_ok g6) dX5_remembers_31 ?_
        obtain ⟨g7, h⟩ := gB_ok h
        refine sM hx hb hK hw hS (fun _ z => z) (by decide) (by decide) (ib_ok g7) dX5_remembers_32 (fun H8 L8 hw hS => ?_)
        refine lv_iinc (v := (v1_11 + 1)) (lv' := [(1, .int (v1_11 + 1)), (0, .ref (am 0))]) hx hb dX5_remembers_33 hl (k := 1) rfl rfl (by decide) rfl (fun ls hl => ?_)
        refine lv_goto (tgt := 11) hx hb dX5_remembers_36 (by decide) ?_
        exact ih_11 (v1_11 + 1) (u2 S_11 2 v1_11.toNatClampNeg (S_11 2 (v1_11 + 66).toNatClampNeg)) _ _ _ (lv_sub hl [1, 0] rfl) hw hS h
  refine lv_aload_n hx hb dX5_remembers_0 rfl (lv_at hl 0 rfl) ?_
  refine gX5_128 hx hb hB hown hK hw dX5_remembers_1 ?_
  refine lv_bipush (v := 8) hx hb dX5_remembers_4 (by decide) ?_
  refine lv_icmp_ne (tgt := 49) hx hb dX5_remembers_6 (by decide) (fun g9 => ?_) (fun g9 => ?_)
  · rw [if_neg g9] at h
    refine lv_aload_n hx hb dX5_remembers_49 rfl (lv_at hl 0 rfl) ?_
    refine gX5_13 hx hb hB hown hK hw dX5_remembers_50 ?_
    refine lv_bipush (v := 66) hx hb dX5_remembers_53 (by decide) ?_
    refine lv_aload_n hx hb dX5_remembers_55 rfl (lv_at hl 0 rfl) ?_
    refine gX5_128 hx hb hB hown hK hw dX5_remembers_56 ?_
    refine lv_imul hx hb dX5_remembers_59 ?_
    refine lv_aload_n hx hb dX5_remembers_60 rfl (lv_at hl 0 rfl) ?_
    refine gX5_7 hx hb hB hown hK hw dX5_remembers_61 ?_
    refine lv_bipush (v := 66) hx hb dX5_remembers_64 (by decide) ?_
    obtain ⟨r10, e10, h⟩ := ob h
    refine k_SWv ⟨hx, hb, hml, hown, hB⟩ (c_X5_put l E am S 2 (66 * (S 0 3)) 1 66 (by decide) (by decide) (by decide) (by decide) r10 e10) (clX5_121 hB rfl rfl ⟨Nat.le_of_ble_eq_true rfl, Nat.le_of_ble_eq_true rfl⟩) hK hw rfl hl.1 rfl (Nat.le_of_ble_eq_true rfl) dX5_remembers_66 ⟨Nat.zero_le _, Nat.zero_le _⟩ hS (fun _ z => z) (fun H11 L11 hw _ _ hS => ?_)
    refine lv_aload_n hx hb dX5_remembers_69 rfl (lv_at hl 0 rfl) ?_
    refine lv_dup hx hb dX5_remembers_70 rfl ?_
    refine gX5_128 hx hb hB hown hK hw dX5_remembers_71 ?_
    refine lv_iconst (v := 1) hx hb dX5_remembers_74 (by decide) ?_
    refine lv_iadd hx hb dX5_remembers_75 ?_
    refine pX5_128 hx hb hB hown hK hw hS (fun _ z => z) dX5_remembers_76 (fun H12 L12 hw hS => ?_)
    cases h
    exact e_vW hx hb hr hlk hw hS dX5_remembers_79
  · rw [if_pos g9] at h
    refine lv_iconst (v := 0) hx hb dX5_remembers_9 (by decide) ?_
    refine lv_istore_n (lv' := [(1, .int 0), (0, .ref (am 0))]) hx hb dX5_remembers_10 rfl hl (by decide) rfl (fun ls hl => ?_)
    exact hL11 FU 0 S _ _ _ (lv_sub hl [1, 0] rfl) hw hS h
def fX5_addsDead (S : OS) (a1 : Int32) (a2 : Int32) (a3 : Int32) : Option (OS) := gB (ib (1 + (3 * (S 8 (0 : Int32).toNatClampNeg))) 66) (gB (ib ((1 + (3 * (S 8 (0 : Int32).toNatClampNeg))) + 1) 66) (gB (ib ((1 + (3 * (S 8 (0 : Int32).toNatClampNeg))) + 2) 66) (some ((u2 (u2 (u2 (u2 S 8 (1 + (3 * (S 8 (0 : Int32).toNatClampNeg))).toNatClampNeg a1) 8 ((1 + (3 * (S 8 (0 : Int32).toNatClampNeg))) + 1).toNatClampNeg a2) 8 ((1 + (3 * (S 8 (0 : Int32).toNatClampNeg))) + 2).toNatClampNeg a3) 8 (0 : Int32).toNatClampNeg (((u2 (u2 (u2 S 8 (1 + (3 * (S 8 (0 : Int32).toNatClampNeg))).toNatClampNeg a1) 8 ((1 + (3 * (S 8 (0 : Int32).toNatClampNeg))) + 1).toNatClampNeg a2) 8 ((1 + (3 * (S 8 (0 : Int32).toNatClampNeg))) + 2).toNatClampNeg a3) 8 (0 : Int32).toNatClampNeg) + 1))))))
abbrev rmX5_addsDead : Room := { frames := 0, cells := 0, slots := 0, locals := 0 }
set_option maxHeartbeats 4000000 in
set_option maxRecDepth 100000 in
theorem c_X5_addsDead (l : Launch) (E : En) (am : Nat → Nat) (S : OS) (a1 : Int32) (a2 : Int32) (a3 : Int32) (r : OS) (h : fX5_addsDead S a1 a2 a3 = some r) : Met l yX5_addsDead (kX5_addsDead :: BIG) rmX5_addsDead (Pk E [.ref (am 0), .int a1, .int a2, .int a3] (MW E am S)) (QW none (AM am) (MW E am r)) 0 0 (AM am) := by
  refine Mb (by decide) (Nat.le_of_ble_eq_true rfl) ?_
  intro p e s m below meth c ls hx hb hr hlk hB hown hml _ hK hw hl
  have hS : va_S (AM am) s.heap s.heap [] := va_S.rf
  have hl : lv_has ls 5 [(0, .ref (am 0)), (1, .int a1), (2, .int a2), (3, .int a3)] := hl
  rw [fX5_addsDead] at h
  refine lv_iconst (v := 1) hx hb dX5_addsDead_0 (by decide) ?_
  refine lv_iconst (v := 3) hx hb dX5_addsDead_1 (by decide) ?_
  refine lv_aload_n hx hb dX5_addsDead_2 rfl (lv_at hl 0 rfl) ?_
  refine gX5_31 hx hb hB hown hK hw dX5_addsDead_3 ?_
  refine lv_iconst (v := 0) hx hb dX5_addsDead_6 (by decide) ?_
  refine lM hx hb hK hw (by decide) (by decide) (ib_ok (by decide)) dX5_addsDead_7 ?_
  refine lv_imul hx hb dX5_addsDead_8 ?_
  refine lv_iadd hx hb dX5_addsDead_9 ?_
  refine lv_istore (lv' := [(4, .int (1 + (3 * (S 8 (0 : Int32).toNatClampNeg)))), (0, .ref (am 0)), (1, .int a1), (2, .int a2), (3, .int a3)]) hx hb dX5_addsDead_10 hl (by decide) rfl (fun ls hl => ?_)
  refine lv_aload_n hx hb dX5_addsDead_12 rfl (lv_at hl 1 rfl) ?_
  refine gX5_31 hx hb hB hown hK hw dX5_addsDead_13 ?_
  refine lv_iload hx hb dX5_addsDead_16 (lv_at hl 0 rfl) ?_
  refine lv_iload_n hx hb dX5_addsDead_18 rfl (lv_at hl 2 rfl) ?_
  obtain ⟨g1, h⟩ := gB_ok h
  refine sM hx hb hK hw hS (fun _ z => z) (by decide) (by decide) (ib_ok g1) dX5_addsDead_19 (fun H2 L2 hw hS => ?_)
  refine lv_aload_n hx hb dX5_addsDead_20 rfl (lv_at hl 1 rfl) ?_
  refine gX5_31 hx hb hB hown hK hw dX5_addsDead_21 ?_
  refine lv_iload hx hb dX5_addsDead_24 (lv_at hl 0 rfl) ?_
  refine lv_iconst (v := 1) hx hb dX5_addsDead_26 (by decide) ?_
  refine lv_iadd hx hb dX5_addsDead_27 ?_
  refine lv_iload_n hx hb dX5_addsDead_28 rfl (lv_at hl 3 rfl) ?_
  obtain ⟨g3, h⟩ := gB_ok h
  refine sM hx hb hK hw hS (fun _ z => z) (by decide) (by decide) (ib_ok g3) dX5_addsDead_29 (fun H4 L4 hw hS => ?_)
  refine lv_aload_n hx hb dX5_addsDead_30 rfl (lv_at hl 1 rfl) ?_
  refine gX5_31 hx hb hB hown hK hw dX5_addsDead_31 ?_
  refine lv_iload hx hb dX5_addsDead_34 (lv_at hl 0 rfl) ?_
  refine lv_iconst (v := 2) hx hb dX5_addsDead_36 (by decide) ?_
  refine lv_iadd hx hb dX5_addsDead_37 ?_
  refine lv_iload_n hx hb dX5_addsDead_38 rfl (lv_at hl 4 rfl) ?_
  obtain ⟨g5, h⟩ := gB_ok h
  refine sM hx hb hK hw hS (fun _ z => z) (by decide) (by decide) (ib_ok g5) dX5_addsDead_39 (fun H6 L6 hw hS => ?_)
  refine lv_aload_n hx hb dX5_addsDead_40 rfl (lv_at hl 1 rfl) ?_
  refine gX5_31 hx hb hB hown hK hw dX5_addsDead_41 ?_
  refine lv_iconst (v := 0) hx hb dX5_addsDead_44 (by decide) ?_
  refine lv_dup2_11 hx hb dX5_addsDead_45 rfl rfl ?_
  refine lM hx hb hK hw (by decide) (by decide) (ib_ok (by decide)) dX5_addsDead_46 ?_
  refine lv_iconst (v := 1) hx hb dX5_addsDead_47 (by decide) ?_
  refine lv_iadd hx hb dX5_addsDead_48 ?_
  refine sM hx hb hK hw hS (fun _ z => z) (by decide) (by decide) (ib_ok (by decide)) dX5_addsDead_49 (fun H7 L7 hw hS => ?_)
  cases h
  exact e_vW hx hb hr hlk hw hS dX5_addsDead_50
def fX5_isOne (S : OS) (a1 : Int32) (a2 : Int32) (a3 : Int32) : Option (Int32) := (fX5_in a1 0 1).bind (fun r1 => (if r1 = 0 then some 0 else (fX5_in a2 0 3).bind (fun r3 => (if r3 = 0 then some 0 else (fX5_in a3 0 9).bind (fun r5 => (if r5 = 0 then some 0 else some 1))))))
abbrev rmX5_isOne : Room := { frames := 1, cells := 0, slots := 0, locals := 22 }
set_option maxHeartbeats 4000000 in
set_option maxRecDepth 100000 in
theorem c_X5_isOne (l : Launch) (E : En) (am : Nat → Nat) (S : OS) (a1 : Int32) (a2 : Int32) (a3 : Int32) (r : Int32) (h : fX5_isOne S a1 a2 a3 = some r) : Met l yX5_isOne (kX5_isOne :: BIG) rmX5_isOne (Pk E [.ref (am 0), .int a1, .int a2, .int a3] (MW E am S)) (QcRead r) 0 0 (fun _ => False) := by
  refine Mb (by decide) (Nat.le_of_ble_eq_true rfl) ?_
  intro p e s m below meth c ls hx hb hr hlk hB hown hml _ hK hw hl
  have hl : lv_has ls 4 [(0, .ref (am 0)), (1, .int a1), (2, .int a2), (3, .int a3)] := hl
  rw [fX5_isOne] at h
  refine lv_iload_n hx hb dX5_isOne_0 rfl (lv_at hl 1 rfl) ?_
  refine lv_iconst (v := 0) hx hb dX5_isOne_1 (by decide) ?_
  refine lv_iconst (v := 1) hx hb dX5_isOne_2 (by decide) ?_
  obtain ⟨r1, e1, h⟩ := ob h
  refine k_SR ⟨hx, hb, hml, hown, hB⟩ (c_X5_in l E a1 0 1 r1 e1) (clX5_67 hB rfl rfl ⟨Nat.le_of_ble_eq_true rfl, Nat.le_of_ble_eq_true rfl⟩) hK trivial rfl hl.1 rfl (Nat.le_of_ble_eq_true rfl) dX5_isOne_3 ⟨Nat.zero_le _, Nat.zero_le _⟩ ?_
  refine lv_if_eq (tgt := 32) hx hb dX5_isOne_6 (by decide) (fun g2 => ?_) (fun g2 => ?_)
  · rw [if_pos g2] at h
    refine lv_iconst (v := 0) hx hb dX5_isOne_32 (by decide) ?_
    exact e_zR hx hb hr hlk (by decide) h dX5_isOne_33
  · rw [if_neg g2] at h
    refine lv_iload_n hx hb dX5_isOne_9 rfl (lv_at hl 2 rfl) ?_
    refine lv_iconst (v := 0) hx hb dX5_isOne_10 (by decide) ?_
    refine lv_iconst (v := 3) hx hb dX5_isOne_11 (by decide) ?_
    obtain ⟨r3, e3, h⟩ := ob h
    refine k_SR ⟨hx, hb, hml, hown, hB⟩ (c_X5_in l E a2 0 3 r3 e3) (clX5_67 hB rfl rfl ⟨Nat.le_of_ble_eq_true rfl, Nat.le_of_ble_eq_true rfl⟩) hK trivial rfl hl.1 rfl (Nat.le_of_ble_eq_true rfl) dX5_isOne_12 ⟨Nat.zero_le _, Nat.zero_le _⟩ ?_
    refine lv_if_eq (tgt := 32) hx hb dX5_isOne_15 (by decide) (fun g4 => ?_) (fun g4 => ?_)
    · rw [if_pos g4] at h
      refine lv_iconst (v := 0) hx hb dX5_isOne_32 (by decide) ?_
      exact e_zR hx hb hr hlk (by decide) h dX5_isOne_33
    · rw [if_neg g4] at h
      refine lv_iload_n hx hb dX5_isOne_18 rfl (lv_at hl 3 rfl) ?_
      refine lv_iconst (v := 0) hx hb dX5_isOne_19 (by decide) ?_
      refine lv_bipush (v := 9) hx hb dX5_isOne_20 (by decide) ?_
      obtain ⟨r5, e5, h⟩ := ob h
      refine k_SR ⟨hx, hb, hml, hown, hB⟩ (c_X5_in l E a3 0 9 r5 e5) (clX5_67 hB rfl rfl ⟨Nat.le_of_ble_eq_true rfl, Nat.le_of_ble_eq_true rfl⟩) hK trivial rfl hl.1 rfl (Nat.le_of_ble_eq_true rfl) dX5_isOne_22 ⟨Nat.zero_le _, Nat.zero_le _⟩ ?_
      refine lv_if_eq (tgt := 32) hx hb dX5_isOne_25 (by decide) (fun g6 => ?_) (fun g6 => ?_)
      · rw [if_pos g6] at h
        refine lv_iconst (v := 0) hx hb dX5_isOne_32 (by decide) ?_
        exact e_zR hx hb hr hlk (by decide) h dX5_isOne_33
      · rw [if_neg g6] at h
        refine lv_iconst (v := 1) hx hb dX5_isOne_28 (by decide) ?_
        refine lv_goto (tgt := 33) hx hb dX5_isOne_29 (by decide) ?_
        exact e_zR hx hb hr hlk (by decide) h dX5_isOne_33
def fX5_bury (S : OS) (a1 : Int32) (a2 : Int32) (a3 : Int32) : Option (Int32 × OS) := (fX5_isOne S a1 a2 a3).bind (fun r1 => (if r1 = 0 then some ((-1), S) else if (S 1 (0 : Int32).toNatClampNeg) = 12 then some ((-3), S) else (fX5_remembers S).bind (fun r4 => ((fX5_from r4 1).bind (fun r6 => ((fX5_addsDead r6 a1 a2 a3).bind (fun r8 => ((fX5_buries r8 ((r8 8 (0 : Int32).toNatClampNeg) - 1)).bind (fun r10 => ((fX5_put r10.2 1 0 8 66).bind (fun r12 => (some (r10.1, r12)))))))))))))
abbrev rmX5_bury : Room := { frames := 3, cells := 0, slots := 0, locals := 75 }
set_option maxHeartbeats 4000000 in
set_option maxRecDepth 100000 in
theorem c_X5_bury (l : Launch) (E : En) (am : Nat → Nat) (S : OS) (a1 : Int32) (a2 : Int32) (a3 : Int32) (r : Int32 × OS) (h : fX5_bury S a1 a2 a3 = some r) : Met l yX5_bury (kX5_bury :: BIG) rmX5_bury (Pk E [.ref (am 0), .int a1, .int a2, .int a3] (MW E am S)) (QW (some (.int r.1)) (AM am) (MW E am r.2)) 0 0 (AM am) := by
  refine Mb (by decide) (Nat.le_of_ble_eq_true rfl) ?_
  intro p e s m below meth c ls hx hb hr hlk hB hown hml _ hK hw hl
  have hS : va_S (AM am) s.heap s.heap [] := va_S.rf
  have hl : lv_has ls 5 [(0, .ref (am 0)), (1, .int a1), (2, .int a2), (3, .int a3)] := hl
  rw [fX5_bury] at h
  refine lv_aload_n hx hb dX5_bury_0 rfl (lv_at hl 0 rfl) ?_
  refine lv_iload_n hx hb dX5_bury_1 rfl (lv_at hl 1 rfl) ?_
  refine lv_iload_n hx hb dX5_bury_2 rfl (lv_at hl 2 rfl) ?_
  refine lv_iload_n hx hb dX5_bury_3 rfl (lv_at hl 3 rfl) ?_
  obtain ⟨r1, e1, h⟩ := ob h
  refine k_VR ⟨hx, hb, hml, hown, hB⟩ (c_X5_isOne l E am S a1 a2 a3 r1 e1) (clX5_164 hB rfl rfl ⟨Nat.le_of_ble_eq_true rfl, Nat.le_of_ble_eq_true rfl⟩) hK hw (rvM hK hw) rfl hl.1 rfl (Nat.le_of_ble_eq_true rfl) dX5_bury_4 ⟨Nat.zero_le _, Nat.zero_le _⟩ ?_
  refine lv_if_ne (tgt := 12) hx hb dX5_bury_7 (by decide) (fun g2 => ?_) (fun g2 => ?_)
  · rw [if_neg g2] at h
    refine lv_aload_n hx hb dX5_bury_12 rfl (lv_at hl 0 rfl) ?_
    refine gX5_7 hx hb hB hown hK hw dX5_bury_13 ?_
    refine lv_iconst (v := 0) hx hb dX5_bury_16 (by decide) ?_
    refine lM hx hb hK hw (by decide) (by decide) (ib_ok (by decide)) dX5_bury_17 ?_
    refine lv_bipush (v := 12) hx hb dX5_bury_18 (by decide) ?_
    refine lv_icmp_ne (tgt := 26) hx hb dX5_bury_20 (by decide) (fun g3 => ?_) (fun g3 => ?_)
    · rw [if_neg g3] at h
      refine lv_aload_n hx hb dX5_bury_26 rfl (lv_at hl 0 rfl) ?_
      obtain ⟨r4, e4, h⟩ := ob h
      refine k_VWv ⟨hx, hb, hml, hown, hB⟩ (c_X5_remembers l E am S r4 e4) (clX5_167 hB rfl rfl ⟨Nat.le_of_ble_eq_true rfl, Nat.le_of_ble_eq_true rfl⟩) hK hw (rvM hK hw) rfl hl.1 rfl (Nat.le_of_ble_eq_true rfl) dX5_bury_27 ⟨Nat.zero_le _, Nat.zero_le _⟩ hS (fun _ z => z) (fun H5 L5 hw _ _ hS => ?_)
      refine lv_aload_n hx hb dX5_bury_30 rfl (lv_at hl 0 rfl) ?_
      refine lv_aload_n hx hb dX5_bury_31 rfl (lv_at hl 0 rfl) ?_
      refine gX5_7 hx hb hB hown hK hw dX5_bury_32 ?_
      obtain ⟨r6, e6, h⟩ := ob h
      refine k_VWv ⟨hx, hb, hml, hown, hB⟩ (c_X5_from l E am r4 1 (by decide) (by decide) r6 e6) (clX5_170 hB rfl rfl ⟨Nat.le_of_ble_eq_true rfl, Nat.le_of_ble_eq_true rfl⟩) hK hw (rvM hK hw) rfl hl.1 rfl (Nat.le_of_ble_eq_true rfl) dX5_bury_35 ⟨Nat.zero_le _, Nat.zero_le _⟩ hS (fun _ z => z) (fun H7 L7 hw _ _ hS => ?_)
      refine lv_aload_n hx hb dX5_bury_38 rfl (lv_at hl 0 rfl) ?_
      refine lv_iload_n hx hb dX5_bury_39 rfl (lv_at hl 1 rfl) ?_
      refine lv_iload_n hx hb dX5_bury_40 rfl (lv_at hl 2 rfl) ?_
      refine lv_iload_n hx hb dX5_bury_41 rfl (lv_at hl 3 rfl) ?_
      obtain ⟨r8, e8, h⟩ := ob h
      refine k_VWv ⟨hx, hb, hml, hown, hB⟩ (c_X5_addsDead l E am r6 a1 a2 a3 r8 e8) (clX5_174 hB rfl rfl ⟨Nat.le_of_ble_eq_true rfl, Nat.le_of_ble_eq_true rfl⟩) hK hw (rvM hK hw) rfl hl.1 rfl (Nat.le_of_ble_eq_true rfl) dX5_bury_42 ⟨Nat.zero_le _, Nat.zero_le _⟩ hS (fun _ z => z) (fun H9 L9 hw _ _ hS => ?_)
      refine lv_aload_n hx hb dX5_bury_45 rfl (lv_at hl 0 rfl) ?_
      refine lv_aload_n hx hb dX5_bury_46 rfl (lv_at hl 0 rfl) ?_
      refine gX5_31 hx hb hB hown hK hw dX5_bury_47 ?_
      refine lv_iconst (v := 0) hx hb dX5_bury_50 (by decide) ?_
      refine lM hx hb hK hw (by decide) (by decide) (ib_ok (by decide)) dX5_bury_51 ?_
      refine lv_iconst (v := 1) hx hb dX5_bury_52 (by decide) ?_
      refine lv_isub hx hb dX5_bury_53 ?_
      obtain ⟨r10, e10, h⟩ := ob h
      refine k_VWi ⟨hx, hb, hml, hown, hB⟩ (c_X5_buries l E am r8 ((r8 8 (0 : Int32).toNatClampNeg) - 1) r10 e10) (clX5_144 hB rfl rfl ⟨Nat.le_of_ble_eq_true rfl, Nat.le_of_ble_eq_true rfl⟩) hK hw (rvM hK hw) rfl hl.1 rfl (Nat.le_of_ble_eq_true rfl) dX5_bury_54 ⟨Nat.zero_le _, Nat.zero_le _⟩ hS (fun _ z => z) (fun H11 L11 hw _ _ hS => ?_)
      refine lv_istore (lv' := [(4, .int r10.1), (0, .ref (am 0)), (1, .int a1), (2, .int a2), (3, .int a3)]) hx hb dX5_bury_57 hl (by decide) rfl (fun ls hl => ?_)
      refine lv_aload_n hx hb dX5_bury_59 rfl (lv_at hl 1 rfl) ?_
      refine gX5_7 hx hb hB hown hK hw dX5_bury_60 ?_
      refine lv_iconst (v := 0) hx hb dX5_bury_63 (by decide) ?_
      refine lv_aload_n hx hb dX5_bury_64 rfl (lv_at hl 1 rfl) ?_
      refine gX5_31 hx hb hB hown hK hw dX5_bury_65 ?_
      refine lv_bipush (v := 66) hx hb dX5_bury_68 (by decide) ?_
      obtain ⟨r12, e12, h⟩ := ob h
      refine k_SWv ⟨hx, hb, hml, hown, hB⟩ (c_X5_put l E am r10.2 1 0 8 66 (by decide) (by decide) (by decide) (by decide) r12 e12) (clX5_121 hB rfl rfl ⟨Nat.le_of_ble_eq_true rfl, Nat.le_of_ble_eq_true rfl⟩) hK hw rfl hl.1 rfl (Nat.le_of_ble_eq_true rfl) dX5_bury_70 ⟨Nat.zero_le _, Nat.zero_le _⟩ hS (fun _ z => z) (fun H13 L13 hw _ _ hS => ?_)
      refine lv_iload hx hb dX5_bury_73 (lv_at hl 0 rfl) ?_
      cases h
      exact e_zW hx hb hr hlk rfl rfl hw hS dX5_bury_75
    · rw [if_pos g3] at h
      refine lv_bipush (v := (-3)) hx hb dX5_bury_23 (by decide) ?_
      cases h
      exact e_zW hx hb hr hlk rfl rfl hw hS dX5_bury_25
  · rw [if_pos g2] at h
    refine lv_iconst (v := (-1)) hx hb dX5_bury_10 (by decide) ?_
    cases h
    exact e_zW hx hb hr hlk rfl rfl hw hS dX5_bury_11
def fX5_changes (S : OS) (c1 : Nat) (a2 : Int32) (a3 : Int32) (a4 : Int32) : Option (OS) := gB (ib ((37 + (8 * a2)) + a3) (lenM c1)) (gB (ib ((37 + (8 * a2)) + a4) (lenM c1)) (gB (ib ((37 + (8 * a2)) + a3) (lenM c1)) (gB (ib ((37 + (8 * a2)) + a4) (lenM c1)) (some ((u2 (u2 S c1 ((37 + (8 * a2)) + a3).toNatClampNeg (S c1 ((37 + (8 * a2)) + a4).toNatClampNeg)) c1 ((37 + (8 * a2)) + a4).toNatClampNeg (S c1 ((37 + (8 * a2)) + a3).toNatClampNeg)))))))
abbrev rmX5_changes : Room := { frames := 0, cells := 0, slots := 0, locals := 0 }
set_option maxHeartbeats 4000000 in
set_option maxRecDepth 100000 in
theorem c_X5_changes (l : Launch) (E : En) (am : Nat → Nat) (S : OS) (c1 : Nat) (a2 : Int32) (a3 : Int32) (a4 : Int32) (h01 : 0 < c1) (hc1 : c1 < 13) (r : OS) (h : fX5_changes S c1 a2 a3 a4 = some r) : Met l yX5_changes (kX5_changes :: BIG) rmX5_changes (Pk E [.ref (am c1), .int a2, .int a3, .int a4] (MW E am S)) (QW none (AM am) (MW E am r)) 0 0 (AM am) := by
  refine Mb (by decide) (Nat.le_of_ble_eq_true rfl) ?_
  intro p e s m below meth c ls hx hb hr hlk hB hown hml _ hK hw hl
  have hS : va_S (AM am) s.heap s.heap [] := va_S.rf
  have hl : lv_has ls 7 [(0, .ref (am c1)), (1, .int a2), (2, .int a3), (3, .int a4)] := hl
  rw [fX5_changes] at h
  refine lv_bipush (v := 37) hx hb dX5_changes_0 (by decide) ?_
  refine lv_bipush (v := 8) hx hb dX5_changes_2 (by decide) ?_
  refine lv_iload_n hx hb dX5_changes_4 rfl (lv_at hl 1 rfl) ?_
  refine lv_imul hx hb dX5_changes_5 ?_
  refine lv_iadd hx hb dX5_changes_6 ?_
  refine lv_iload_n hx hb dX5_changes_7 rfl (lv_at hl 2 rfl) ?_
  refine lv_iadd hx hb dX5_changes_8 ?_
  refine lv_istore (lv' := [(4, .int ((37 + (8 * a2)) + a3)), (0, .ref (am c1)), (1, .int a2), (2, .int a3), (3, .int a4)]) hx hb dX5_changes_9 hl (by decide) rfl (fun ls hl => ?_)
  refine lv_bipush (v := 37) hx hb dX5_changes_11 (by decide) ?_
  refine lv_bipush (v := 8) hx hb dX5_changes_13 (by decide) ?_
  refine lv_iload_n hx hb dX5_changes_15 rfl (lv_at hl 2 rfl) ?_
  refine lv_imul hx hb dX5_changes_16 ?_
  refine lv_iadd hx hb dX5_changes_17 ?_
  refine lv_iload_n hx hb dX5_changes_18 rfl (lv_at hl 4 rfl) ?_
  refine lv_iadd hx hb dX5_changes_19 ?_
  refine lv_istore (lv' := [(5, .int ((37 + (8 * a2)) + a4)), (4, .int ((37 + (8 * a2)) + a3)), (0, .ref (am c1)), (1, .int a2), (2, .int a3), (3, .int a4)]) hx hb dX5_changes_20 hl (by decide) rfl (fun ls hl => ?_)
  refine lv_aload_n hx hb dX5_changes_22 rfl (lv_at hl 2 rfl) ?_
  refine lv_iload hx hb dX5_changes_23 (lv_at hl 1 rfl) ?_
  obtain ⟨g1, h⟩ := gB_ok h
  refine lM hx hb hK hw h01 hc1 (ib_ok g1) dX5_changes_25 ?_
  refine lv_istore (lv' := [(6, .int (S c1 ((37 + (8 * a2)) + a3).toNatClampNeg)), (5, .int ((37 + (8 * a2)) + a4)), (4, .int ((37 + (8 * a2)) + a3)), (0, .ref (am c1)), (1, .int a2), (2, .int a3), (3, .int a4)]) hx hb dX5_changes_26 hl (by decide) rfl (fun ls hl => ?_)
  refine lv_aload_n hx hb dX5_changes_28 rfl (lv_at hl 3 rfl) ?_
  refine lv_iload hx hb dX5_changes_29 (lv_at hl 2 rfl) ?_
  refine lv_aload_n hx hb dX5_changes_31 rfl (lv_at hl 3 rfl) ?_
  refine lv_iload hx hb dX5_changes_32 (lv_at hl 1 rfl) ?_
  obtain ⟨g2, h⟩ := gB_ok h
  refine lM hx hb hK hw h01 hc1 (ib_ok g2) dX5_changes_34 ?_
  obtain ⟨g3, h⟩ := gB_ok h
  refine sM hx hb hK hw hS (fun _ z => z) h01 hc1 (ib_ok g3) dX5_changes_35 (fun H4 L4 hw hS => ?_)
  refine lv_aload_n hx hb dX5_changes_36 rfl (lv_at hl 3 rfl) ?_
  refine lv_iload hx hb dX5_changes_37 (lv_at hl 1 rfl) ?_
  refine lv_iload hx hb dX5_changes_39 (lv_at hl 0 rfl) ?_
  obtain ⟨g5, h⟩ := gB_ok h
  refine sM hx hb hK hw hS (fun _ z => z) h01 hc1 (ib_ok g5) dX5_changes_41 (fun H6 L6 hw hS => ?_)
  cases h
  exact e_vW hx hb hr hlk hw hS dX5_changes_42
def fX5_change (S : OS) (a1 : Int32) (a2 : Int32) (a3 : Int32) : Option (Int32 × OS) := (fX5_in a1 0 1).bind (fun r1 => (if r1 = 0 then some ((-1), S) else (fX5_isPlot S a2).bind (fun r3 => (if r3 = 0 then some ((-1), S) else (fX5_isPlot S a3).bind (fun r5 => (if r5 = 0 then some ((-1), S) else if a2 = a3 then some ((-1), S) else (fX5_remembers S).bind (fun r8 => ((fX5_changes r8 1 a1 a2 a3).bind (fun r10 => ((fX5_plot r10 a1 a2).bind (fun r12 => (some (r12, r10)))))))))))))
abbrev rmX5_change : Room := { frames := 3, cells := 0, slots := 0, locals := 65 }
set_option maxHeartbeats 4000000 in
set_option maxRecDepth 100000 in
theorem c_X5_change (l : Launch) (E : En) (am : Nat → Nat) (S : OS) (a1 : Int32) (a2 : Int32) (a3 : Int32) (r : Int32 × OS) (h : fX5_change S a1 a2 a3 = some r) : Met l yX5_change (kX5_change :: BIG) rmX5_change (Pk E [.ref (am 0), .int a1, .int a2, .int a3] (MW E am S)) (QW (some (.int r.1)) (AM am) (MW E am r.2)) 0 0 (AM am) := by
  refine Mb (by decide) (Nat.le_of_ble_eq_true rfl) ?_
  intro p e s m below meth c ls hx hb hr hlk hB hown hml _ hK hw hl
  have hS : va_S (AM am) s.heap s.heap [] := va_S.rf
  have hl : lv_has ls 4 [(0, .ref (am 0)), (1, .int a1), (2, .int a2), (3, .int a3)] := hl
  rw [fX5_change] at h
  refine lv_iload_n hx hb dX5_change_0 rfl (lv_at hl 1 rfl) ?_
  refine lv_iconst (v := 0) hx hb dX5_change_1 (by decide) ?_
  refine lv_iconst (v := 1) hx hb dX5_change_2 (by decide) ?_
  obtain ⟨r1, e1, h⟩ := ob h
  refine k_SR ⟨hx, hb, hml, hown, hB⟩ (c_X5_in l E a1 0 1 r1 e1) (clX5_67 hB rfl rfl ⟨Nat.le_of_ble_eq_true rfl, Nat.le_of_ble_eq_true rfl⟩) hK trivial rfl hl.1 rfl (Nat.le_of_ble_eq_true rfl) dX5_change_3 ⟨Nat.zero_le _, Nat.zero_le _⟩ ?_
  refine lv_if_eq (tgt := 30) hx hb dX5_change_6 (by decide) (fun g2 => ?_) (fun g2 => ?_)
  · rw [if_pos g2] at h
    refine lv_iconst (v := (-1)) hx hb dX5_change_30 (by decide) ?_
    cases h
    exact e_zW hx hb hr hlk rfl rfl hw hS dX5_change_31
  · rw [if_neg g2] at h
    refine lv_aload_n hx hb dX5_change_9 rfl (lv_at hl 0 rfl) ?_
    refine lv_iload_n hx hb dX5_change_10 rfl (lv_at hl 2 rfl) ?_
    obtain ⟨r3, e3, h⟩ := ob h
    refine k_VR ⟨hx, hb, hml, hown, hB⟩ (c_X5_isPlot l E am S a2 r3 e3) (clX5_158 hB rfl rfl ⟨Nat.le_of_ble_eq_true rfl, Nat.le_of_ble_eq_true rfl⟩) hK hw (rvM hK hw) rfl hl.1 rfl (Nat.le_of_ble_eq_true rfl) dX5_change_11 ⟨Nat.zero_le _, Nat.zero_le _⟩ ?_
    refine lv_if_eq (tgt := 30) hx hb dX5_change_14 (by decide) (fun g4 => ?_) (fun g4 => ?_)
    · rw [if_pos g4] at h
      refine lv_iconst (v := (-1)) hx hb dX5_change_30 (by decide) ?_
      cases h
      exact e_zW hx hb hr hlk rfl rfl hw hS dX5_change_31
    · rw [if_neg g4] at h
      refine lv_aload_n hx hb dX5_change_17 rfl (lv_at hl 0 rfl) ?_
      refine lv_iload_n hx hb dX5_change_18 rfl (lv_at hl 3 rfl) ?_
      obtain ⟨r5, e5, h⟩ := ob h
      refine k_VR ⟨hx, hb, hml, hown, hB⟩ (c_X5_isPlot l E am S a3 r5 e5) (clX5_158 hB rfl rfl ⟨Nat.le_of_ble_eq_true rfl, Nat.le_of_ble_eq_true rfl⟩) hK hw (rvM hK hw) rfl hl.1 rfl (Nat.le_of_ble_eq_true rfl) dX5_change_19 ⟨Nat.zero_le _, Nat.zero_le _⟩ ?_
      refine lv_if_eq (tgt := 30) hx hb dX5_change_22 (by decide) (fun g6 => ?_) (fun g6 => ?_)
      · rw [if_pos g6] at h
        refine lv_iconst (v := (-1)) hx hb dX5_change_30 (by decide) ?_
        cases h
        exact e_zW hx hb hr hlk rfl rfl hw hS dX5_change_31
      · rw [if_neg g6] at h
        refine lv_iload_n hx hb dX5_change_25 rfl (lv_at hl 2 rfl) ?_
        refine lv_iload_n hx hb dX5_change_26 rfl (lv_at hl 3 rfl) ?_
        refine lv_icmp_ne (tgt := 32) hx hb dX5_change_27 (by decide) (fun g7 => ?_) (fun g7 => ?_)
        · rw [if_neg g7] at h
          refine lv_aload_n hx hb dX5_change_32 rfl (lv_at hl 0 rfl) ?_
          obtain ⟨r8, e8, h⟩ := ob h
          refine k_VWv ⟨hx, hb, hml, hown, hB⟩ (c_X5_remembers l E am S r8 e8) (clX5_167 hB rfl rfl ⟨Nat.le_of_ble_eq_true rfl, Nat.le_of_ble_eq_true rfl⟩) hK hw (rvM hK hw) rfl hl.1 rfl (Nat.le_of_ble_eq_true rfl) dX5_change_33 ⟨Nat.zero_le _, Nat.zero_le _⟩ hS (fun _ z => z) (fun H9 L9 hw _ _ hS => ?_)
          refine lv_aload_n hx hb dX5_change_36 rfl (lv_at hl 0 rfl) ?_
          refine gX5_7 hx hb hB hown hK hw dX5_change_37 ?_
          refine lv_iload_n hx hb dX5_change_40 rfl (lv_at hl 1 rfl) ?_
          refine lv_iload_n hx hb dX5_change_41 rfl (lv_at hl 2 rfl) ?_
          refine lv_iload_n hx hb dX5_change_42 rfl (lv_at hl 3 rfl) ?_
          obtain ⟨r10, e10, h⟩ := ob h
          refine k_SWv ⟨hx, hb, hml, hown, hB⟩ (c_X5_changes l E am r8 1 a1 a2 a3 (by decide) (by decide) r10 e10) (clX5_177 hB rfl rfl ⟨Nat.le_of_ble_eq_true rfl, Nat.le_of_ble_eq_true rfl⟩) hK hw rfl hl.1 rfl (Nat.le_of_ble_eq_true rfl) dX5_change_43 ⟨Nat.zero_le _, Nat.zero_le _⟩ hS (fun _ z => z) (fun H11 L11 hw _ _ hS => ?_)
          refine lv_aload_n hx hb dX5_change_46 rfl (lv_at hl 0 rfl) ?_
          refine lv_iload_n hx hb dX5_change_47 rfl (lv_at hl 1 rfl) ?_
          refine lv_iload_n hx hb dX5_change_48 rfl (lv_at hl 2 rfl) ?_
          obtain ⟨r12, e12, h⟩ := ob h
          refine k_VR ⟨hx, hb, hml, hown, hB⟩ (c_X5_plot l E am r10 a1 a2 r12 e12) (clX5_181 hB rfl rfl ⟨Nat.le_of_ble_eq_true rfl, Nat.le_of_ble_eq_true rfl⟩) hK hw (rvM hK hw) rfl hl.1 rfl (Nat.le_of_ble_eq_true rfl) dX5_change_49 ⟨Nat.zero_le _, Nat.zero_le _⟩ ?_
          cases h
          exact e_zW hx hb hr hlk rfl rfl hw hS dX5_change_52
        · rw [if_pos g7] at h
          refine lv_iconst (v := (-1)) hx hb dX5_change_30 (by decide) ?_
          cases h
          exact e_zW hx hb hr hlk rfl rfl hw hS dX5_change_31
def fX5_forgive (S : OS) (a1 : Int32) (a2 : Int32) : Option (Int32 × OS) := (fX5_isDead S a1).bind (fun r1 => (if r1 = 0 then some ((-1), S) else (fX5_in a2 0 9).bind (fun r3 => (if r3 = 0 then some ((-1), S) else (fX5_remembers S).bind (fun r5 => (gB (ib ((1 + (3 * a1)) + 2) 66) (gB (ib ((1 + (3 * a1)) + 2) 66) (some ((r5 1 ((1 + (3 * a1)) + 2).toNatClampNeg), (u2 r5 1 ((1 + (3 * a1)) + 2).toNatClampNeg a2))))))))))
abbrev rmX5_forgive : Room := { frames := 2, cells := 0, slots := 0, locals := 45 }
set_option maxHeartbeats 4000000 in
set_option maxRecDepth 100000 in
theorem c_X5_forgive (l : Launch) (E : En) (am : Nat → Nat) (S : OS) (a1 : Int32) (a2 : Int32) (r : Int32 × OS) (h : fX5_forgive S a1 a2 = some r) : Met l yX5_forgive (kX5_forgive :: BIG) rmX5_forgive (Pk E [.ref (am 0), .int a1, .int a2] (MW E am S)) (QW (some (.int r.1)) (AM am) (MW E am r.2)) 0 0 (AM am) := by
  refine Mb (by decide) (Nat.le_of_ble_eq_true rfl) ?_
  intro p e s m below meth c ls hx hb hr hlk hB hown hml _ hK hw hl
  have hS : va_S (AM am) s.heap s.heap [] := va_S.rf
  have hl : lv_has ls 4 [(0, .ref (am 0)), (1, .int a1), (2, .int a2)] := hl
  rw [fX5_forgive] at h
  refine lv_aload_n hx hb dX5_forgive_0 rfl (lv_at hl 0 rfl) ?_
  refine lv_iload_n hx hb dX5_forgive_1 rfl (lv_at hl 1 rfl) ?_
  obtain ⟨r1, e1, h⟩ := ob h
  refine k_VR ⟨hx, hb, hml, hown, hB⟩ (c_X5_isDead l E am S a1 r1 e1) (clX5_151 hB rfl rfl ⟨Nat.le_of_ble_eq_true rfl, Nat.le_of_ble_eq_true rfl⟩) hK hw (rvM hK hw) rfl hl.1 rfl (Nat.le_of_ble_eq_true rfl) dX5_forgive_2 ⟨Nat.zero_le _, Nat.zero_le _⟩ ?_
  refine lv_if_eq (tgt := 18) hx hb dX5_forgive_5 (by decide) (fun g2 => ?_) (fun g2 => ?_)
  · rw [if_pos g2] at h
    refine lv_iconst (v := (-1)) hx hb dX5_forgive_18 (by decide) ?_
    cases h
    exact e_zW hx hb hr hlk rfl rfl hw hS dX5_forgive_19
  · rw [if_neg g2] at h
    refine lv_iload_n hx hb dX5_forgive_8 rfl (lv_at hl 2 rfl) ?_
    refine lv_iconst (v := 0) hx hb dX5_forgive_9 (by decide) ?_
    refine lv_bipush (v := 9) hx hb dX5_forgive_10 (by decide) ?_
    obtain ⟨r3, e3, h⟩ := ob h
    refine k_SR ⟨hx, hb, hml, hown, hB⟩ (c_X5_in l E a2 0 9 r3 e3) (clX5_67 hB rfl rfl ⟨Nat.le_of_ble_eq_true rfl, Nat.le_of_ble_eq_true rfl⟩) hK trivial rfl hl.1 rfl (Nat.le_of_ble_eq_true rfl) dX5_forgive_12 ⟨Nat.zero_le _, Nat.zero_le _⟩ ?_
    refine lv_if_ne (tgt := 20) hx hb dX5_forgive_15 (by decide) (fun g4 => ?_) (fun g4 => ?_)
    · rw [if_neg g4] at h
      refine lv_aload_n hx hb dX5_forgive_20 rfl (lv_at hl 0 rfl) ?_
      obtain ⟨r5, e5, h⟩ := ob h
      refine k_VWv ⟨hx, hb, hml, hown, hB⟩ (c_X5_remembers l E am S r5 e5) (clX5_167 hB rfl rfl ⟨Nat.le_of_ble_eq_true rfl, Nat.le_of_ble_eq_true rfl⟩) hK hw (rvM hK hw) rfl hl.1 rfl (Nat.le_of_ble_eq_true rfl) dX5_forgive_21 ⟨Nat.zero_le _, Nat.zero_le _⟩ hS (fun _ z => z) (fun H6 L6 hw _ _ hS => ?_)
      refine lv_aload_n hx hb dX5_forgive_24 rfl (lv_at hl 0 rfl) ?_
      refine gX5_7 hx hb hB hown hK hw dX5_forgive_25 ?_
      refine lv_iconst (v := 1) hx hb dX5_forgive_28 (by decide) ?_
      refine lv_iconst (v := 3) hx hb dX5_forgive_29 (by decide) ?_
      refine lv_iload_n hx hb dX5_forgive_30 rfl (lv_at hl 1 rfl) ?_
      refine lv_imul hx hb dX5_forgive_31 ?_
      refine lv_iadd hx hb dX5_forgive_32 ?_
      refine lv_iconst (v := 2) hx hb dX5_forgive_33 (by decide) ?_
      refine lv_iadd hx hb dX5_forgive_34 ?_
      obtain ⟨g7, h⟩ := gB_ok h
      refine lM hx hb hK hw (by decide) (by decide) (ib_ok g7) dX5_forgive_35 ?_
      refine lv_istore_n (lv' := [(3, .int (r5 1 ((1 + (3 * a1)) + 2).toNatClampNeg)), (0, .ref (am 0)), (1, .int a1), (2, .int a2)]) hx hb dX5_forgive_36 rfl hl (by decide) rfl (fun ls hl => ?_)
      refine lv_aload_n hx hb dX5_forgive_37 rfl (lv_at hl 1 rfl) ?_
      refine gX5_7 hx hb hB hown hK hw dX5_forgive_38 ?_
      refine lv_iconst (v := 1) hx hb dX5_forgive_41 (by decide) ?_
      refine lv_iconst (v := 3) hx hb dX5_forgive_42 (by decide) ?_
      refine lv_iload_n hx hb dX5_forgive_43 rfl (lv_at hl 2 rfl) ?_
      refine lv_imul hx hb dX5_forgive_44 ?_
      refine lv_iadd hx hb dX5_forgive_45 ?_
      refine lv_iconst (v := 2) hx hb dX5_forgive_46 (by decide) ?_
      refine lv_iadd hx hb dX5_forgive_47 ?_
      refine lv_iload_n hx hb dX5_forgive_48 rfl (lv_at hl 3 rfl) ?_
      obtain ⟨g8, h⟩ := gB_ok h
      refine sM hx hb hK hw hS (fun _ z => z) (by decide) (by decide) (ib_ok g8) dX5_forgive_49 (fun H9 L9 hw hS => ?_)
      refine lv_iload_n hx hb dX5_forgive_50 rfl (lv_at hl 0 rfl) ?_
      cases h
      exact e_zW hx hb hr hlk rfl rfl hw hS dX5_forgive_51
    · rw [if_pos g4] at h
      refine lv_iconst (v := (-1)) hx hb dX5_forgive_18 (by decide) ?_
      cases h
      exact e_zW hx hb hr hlk rfl rfl hw hS dX5_forgive_19
def fX5_visit (S : OS) (a1 : Int32) (a2 : Int32) : Option (Int32 × OS) := (fX5_isDead S a1).bind (fun r1 => (if r1 = 0 then some ((-1), S) else (fX5_in a2 1 20).bind (fun r3 => (if r3 = 0 then some ((-1), S) else if (S 1 (53 : Int32).toNatClampNeg) = 6 then some ((-3), S) else (fX5_remembers S).bind (fun r6 => (gB (ib (54 + (2 * (r6 1 (53 : Int32).toNatClampNeg))) 66) (gB (ib ((54 + (2 * (r6 1 (53 : Int32).toNatClampNeg))) + 1) 66) (some (((u2 (u2 (u2 r6 1 (54 + (2 * (r6 1 (53 : Int32).toNatClampNeg))).toNatClampNeg a1) 1 ((54 + (2 * (r6 1 (53 : Int32).toNatClampNeg))) + 1).toNatClampNeg a2) 1 (53 : Int32).toNatClampNeg (((u2 (u2 r6 1 (54 + (2 * (r6 1 (53 : Int32).toNatClampNeg))).toNatClampNeg a1) 1 ((54 + (2 * (r6 1 (53 : Int32).toNatClampNeg))) + 1).toNatClampNeg a2) 1 (53 : Int32).toNatClampNeg) + 1)) 1 (53 : Int32).toNatClampNeg), (u2 (u2 (u2 r6 1 (54 + (2 * (r6 1 (53 : Int32).toNatClampNeg))).toNatClampNeg a1) 1 ((54 + (2 * (r6 1 (53 : Int32).toNatClampNeg))) + 1).toNatClampNeg a2) 1 (53 : Int32).toNatClampNeg (((u2 (u2 r6 1 (54 + (2 * (r6 1 (53 : Int32).toNatClampNeg))).toNatClampNeg a1) 1 ((54 + (2 * (r6 1 (53 : Int32).toNatClampNeg))) + 1).toNatClampNeg a2) 1 (53 : Int32).toNatClampNeg) + 1)))))))))))
abbrev rmX5_visit : Room := { frames := 2, cells := 0, slots := 0, locals := 45 }
set_option maxHeartbeats 4000000 in
set_option maxRecDepth 100000 in
theorem c_X5_visit (l : Launch) (E : En) (am : Nat → Nat) (S : OS) (a1 : Int32) (a2 : Int32) (r : Int32 × OS) (h : fX5_visit S a1 a2 = some r) : Met l yX5_visit (kX5_visit :: BIG) rmX5_visit (Pk E [.ref (am 0), .int a1, .int a2] (MW E am S)) (QW (some (.int r.1)) (AM am) (MW E am r.2)) 0 0 (AM am) := by
  refine Mb (by decide) (Nat.le_of_ble_eq_true rfl) ?_
  intro p e s m below meth c ls hx hb hr hlk hB hown hml _ hK hw hl
  have hS : va_S (AM am) s.heap s.heap [] := va_S.rf
  have hl : lv_has ls 4 [(0, .ref (am 0)), (1, .int a1), (2, .int a2)] := hl
  rw [fX5_visit] at h
  refine lv_aload_n hx hb dX5_visit_0 rfl (lv_at hl 0 rfl) ?_
  refine lv_iload_n hx hb dX5_visit_1 rfl (lv_at hl 1 rfl) ?_
  obtain ⟨r1, e1, h⟩ := ob h
  refine k_VR ⟨hx, hb, hml, hown, hB⟩ (c_X5_isDead l E am S a1 r1 e1) (clX5_151 hB rfl rfl ⟨Nat.le_of_ble_eq_true rfl, Nat.le_of_ble_eq_true rfl⟩) hK hw (rvM hK hw) rfl hl.1 rfl (Nat.le_of_ble_eq_true rfl) dX5_visit_2 ⟨Nat.zero_le _, Nat.zero_le _⟩ ?_
  refine lv_if_eq (tgt := 18) hx hb dX5_visit_5 (by decide) (fun g2 => ?_) (fun g2 => ?_)
  · rw [if_pos g2] at h
    refine lv_iconst (v := (-1)) hx hb dX5_visit_18 (by decide) ?_
    cases h
    exact e_zW hx hb hr hlk rfl rfl hw hS dX5_visit_19
  · rw [if_neg g2] at h
    refine lv_iload_n hx hb dX5_visit_8 rfl (lv_at hl 2 rfl) ?_
    refine lv_iconst (v := 1) hx hb dX5_visit_9 (by decide) ?_
    refine lv_bipush (v := 20) hx hb dX5_visit_10 (by decide) ?_
    obtain ⟨r3, e3, h⟩ := ob h
    refine k_SR ⟨hx, hb, hml, hown, hB⟩ (c_X5_in l E a2 1 20 r3 e3) (clX5_67 hB rfl rfl ⟨Nat.le_of_ble_eq_true rfl, Nat.le_of_ble_eq_true rfl⟩) hK trivial rfl hl.1 rfl (Nat.le_of_ble_eq_true rfl) dX5_visit_12 ⟨Nat.zero_le _, Nat.zero_le _⟩ ?_
    refine lv_if_ne (tgt := 20) hx hb dX5_visit_15 (by decide) (fun g4 => ?_) (fun g4 => ?_)
    · rw [if_neg g4] at h
      refine lv_aload_n hx hb dX5_visit_20 rfl (lv_at hl 0 rfl) ?_
      refine gX5_7 hx hb hB hown hK hw dX5_visit_21 ?_
      refine lv_bipush (v := 53) hx hb dX5_visit_24 (by decide) ?_
      refine lM hx hb hK hw (by decide) (by decide) (ib_ok (by decide)) dX5_visit_26 ?_
      refine lv_bipush (v := 6) hx hb dX5_visit_27 (by decide) ?_
      refine lv_icmp_ne (tgt := 35) hx hb dX5_visit_29 (by decide) (fun g5 => ?_) (fun g5 => ?_)
      · rw [if_neg g5] at h
        refine lv_aload_n hx hb dX5_visit_35 rfl (lv_at hl 0 rfl) ?_
        obtain ⟨r6, e6, h⟩ := ob h
        refine k_VWv ⟨hx, hb, hml, hown, hB⟩ (c_X5_remembers l E am S r6 e6) (clX5_167 hB rfl rfl ⟨Nat.le_of_ble_eq_true rfl, Nat.le_of_ble_eq_true rfl⟩) hK hw (rvM hK hw) rfl hl.1 rfl (Nat.le_of_ble_eq_true rfl) dX5_visit_36 ⟨Nat.zero_le _, Nat.zero_le _⟩ hS (fun _ z => z) (fun H7 L7 hw _ _ hS => ?_)
        refine lv_bipush (v := 54) hx hb dX5_visit_39 (by decide) ?_
        refine lv_iconst (v := 2) hx hb dX5_visit_41 (by decide) ?_
        refine lv_aload_n hx hb dX5_visit_42 rfl (lv_at hl 0 rfl) ?_
        refine gX5_7 hx hb hB hown hK hw dX5_visit_43 ?_
        refine lv_bipush (v := 53) hx hb dX5_visit_46 (by decide) ?_
        refine lM hx hb hK hw (by decide) (by decide) (ib_ok (by decide)) dX5_visit_48 ?_
        refine lv_imul hx hb dX5_visit_49 ?_
        refine lv_iadd hx hb dX5_visit_50 ?_
        refine lv_istore_n (lv' := [(3, .int (54 + (2 * (r6 1 (53 : Int32).toNatClampNeg)))), (0, .ref (am 0)), (1, .int a1), (2, .int a2)]) hx hb dX5_visit_51 rfl hl (by decide) rfl (fun ls hl => ?_)
        refine lv_aload_n hx hb dX5_visit_52 rfl (lv_at hl 1 rfl) ?_
        refine gX5_7 hx hb hB hown hK hw dX5_visit_53 ?_
        refine lv_iload_n hx hb dX5_visit_56 rfl (lv_at hl 0 rfl) ?_
        refine lv_iload_n hx hb dX5_visit_57 rfl (lv_at hl 2 rfl) ?_
        obtain ⟨g8, h⟩ := gB_ok h
        refine sM hx hb hK hw hS (fun _ z => z) (by decide) (by decide) (ib_ok g8) dX5_visit_58 (fun H9 L9 hw hS => ?_)
        refine lv_aload_n hx hb dX5_visit_59 rfl (lv_at hl 1 rfl) ?_
        refine gX5_7 hx hb hB hown hK hw dX5_visit_60 ?_
        refine lv_iload_n hx hb dX5_visit_63 rfl (lv_at hl 0 rfl) ?_
        refine lv_iconst (v := 1) hx hb dX5_visit_64 (by decide) ?_
        refine lv_iadd hx hb dX5_visit_65 ?_
        refine lv_iload_n hx hb dX5_visit_66 rfl (lv_at hl 3 rfl) ?_
        obtain ⟨g10, h⟩ := gB_ok h
        refine sM hx hb hK hw hS (fun _ z => z) (by decide) (by decide) (ib_ok g10) dX5_visit_67 (fun H11 L11 hw hS => ?_)
        refine lv_aload_n hx hb dX5_visit_68 rfl (lv_at hl 1 rfl) ?_
        refine gX5_7 hx hb hB hown hK hw dX5_visit_69 ?_
        refine lv_bipush (v := 53) hx hb dX5_visit_72 (by decide) ?_
        refine lv_dup2_11 hx hb dX5_visit_74 rfl rfl ?_
        refine lM hx hb hK hw (by decide) (by decide) (ib_ok (by decide)) dX5_visit_75 ?_
        refine lv_iconst (v := 1) hx hb dX5_visit_76 (by decide) ?_
        refine lv_iadd hx hb dX5_visit_77 ?_
        refine sM hx hb hK hw hS (fun _ z => z) (by decide) (by decide) (ib_ok (by decide)) dX5_visit_78 (fun H12 L12 hw hS => ?_)
        refine lv_aload_n hx hb dX5_visit_79 rfl (lv_at hl 1 rfl) ?_
        refine gX5_7 hx hb hB hown hK hw dX5_visit_80 ?_
        refine lv_bipush (v := 53) hx hb dX5_visit_83 (by decide) ?_
        refine lM hx hb hK hw (by decide) (by decide) (ib_ok (by decide)) dX5_visit_85 ?_
        cases h
        exact e_zW hx hb hr hlk rfl rfl hw hS dX5_visit_86
      · rw [if_pos g5] at h
        refine lv_bipush (v := (-3)) hx hb dX5_visit_32 (by decide) ?_
        cases h
        exact e_zW hx hb hr hlk rfl rfl hw hS dX5_visit_34
    · rw [if_pos g4] at h
      refine lv_iconst (v := (-1)) hx hb dX5_visit_18 (by decide) ?_
      cases h
      exact e_zW hx hb hr hlk rfl rfl hw hS dX5_visit_19
def fX5_undo_L22 : Nat → Int32 → OS → Option (Int32 × OS)
  | 0, _, _ => none
  | n_22 + 1, v1_22, S_22 => if 66 ≤ v1_22 then some ((S_22 0 3), S_22) else gB (ib ((66 * (S_22 0 3)) + v1_22) 528) (gB (ib v1_22 66) (fX5_undo_L22 n_22 (v1_22 + 1) (u2 S_22 1 v1_22.toNatClampNeg (S_22 2 ((66 * (S_22 0 3)) + v1_22).toNatClampNeg))))
def fX5_undo (S : OS) : Option (Int32 × OS) := if (S 0 3) = 0 then some ((-2), S) else fX5_undo_L22 FU 0 (u2 S 0 3 ((S 0 3) - 1))
abbrev rmX5_undo : Room := { frames := 0, cells := 0, slots := 0, locals := 0 }
set_option maxHeartbeats 4000000 in
set_option maxRecDepth 100000 in
theorem c_X5_undo (l : Launch) (E : En) (am : Nat → Nat) (S : OS) (r : Int32 × OS) (h : fX5_undo S = some r) : Met l yX5_undo (kX5_undo :: BIG) rmX5_undo (Pk E [.ref (am 0)] (MW E am S)) (QW (some (.int r.1)) (AM am) (MW E am r.2)) 0 0 (AM am) := by
  refine Mb (by decide) (Nat.le_of_ble_eq_true rfl) ?_
  intro p e s m below meth c ls hx hb hr hlk hB hown hml _ hK hw hl
  have hS : va_S (AM am) s.heap s.heap [] := va_S.rf
  have hl : lv_has ls 2 [(0, .ref (am 0))] := hl
  rw [fX5_undo] at h
  have hL22 : ∀ (n_22 : Nat) (v1_22 : Int32) (S_22 : OS) (H_22 : Heap) (L_22 : List Loc) (ls_22 : Array Slot), lv_has ls_22 2 [(0, .ref (am 0)), (1, .int v1_22)] → MW E am S_22 H_22 → va_S (AM am) s.heap H_22 L_22 → fX5_undo_L22 n_22 v1_22 S_22 = some r → W p l e rmX5_undo s m ([.ref (am 0)] : List Value).toArray below meth c H_22 L_22 0 0 (MQ below (QW (some (.int r.1)) (AM am) (MW E am r.2)) ([.ref (am 0)] : List Value).toArray s 0 0 (AM am)) (F0 m 22 ls_22 []) := by
    intro n_22
    induction n_22 with
    | zero =>
      intro v1_22 S_22 H_22 L_22 ls_22 hl hw hS h
      exact nn h
    | succ n_22 ih_22 =>
      intro v1_22 S_22 H_22 L_22 ls_22 hl hw hS h
      rw [fX5_undo_L22] at h
      refine lv_iload_n hx hb dX5_undo_22 rfl (lv_at hl 1 rfl) ?_
      refine lv_bipush (v := 66) hx hb dX5_undo_23 (by decide) ?_
      refine lv_icmp_ge (tgt := 54) hx hb dX5_undo_25 (by decide) (fun g1 => ?_) (fun g1 => ?_)
      · rw [if_pos g1] at h
        refine lv_aload_n hx hb dX5_undo_54 rfl (lv_at hl 0 rfl) ?_
        refine gX5_128 hx hb hB hown hK hw dX5_undo_55 ?_
        cases h
        exact e_zW hx hb hr hlk rfl rfl hw hS dX5_undo_58
      · rw [if_neg g1] at h
        refine lv_aload_n hx hb dX5_undo_28 rfl (lv_at hl 0 rfl) ?_
        refine gX5_7 hx hb hB hown hK hw dX5_undo_29 ?_
        refine lv_iload_n hx hb dX5_undo_32 rfl (lv_at hl 1 rfl) ?_
        refine lv_aload_n hx hb dX5_undo_33 rfl (lv_at hl 0 rfl) ?_
        refine gX5_13 hx hb hB hown hK hw dX5_undo_34 ?_
        refine lv_bipush (v := 66) hx hb dX5_undo_37 (by decide) ?_
        refine lv_aload_n hx hb dX5_undo_39 rfl (lv_at hl 0 rfl) ?_
        refine gX5_128 hx hb hB hown hK hw dX5_undo_40 ?_
        refine lv_imul hx hb dX5_undo_43 ?_
        refine lv_iload_n hx hb dX5_undo_44 rfl (lv_at hl 1 rfl) ?_
        refine lv_iadd hx hb dX5_undo_45 ?_
        obtain ⟨g2, h⟩ := gB_ok h
        refine lM hx hb hK hw (by decide) (by decide) (ib_ok g2) dX5_undo_46 ?_
        obtain ⟨g3, h⟩ := gB_ok h
        refine sM hx hb hK hw hS (fun _ z => z) (by decide) (by decide) (ib_ok g3) dX5_undo_47 (fun H4 L4 hw hS => ?_)
        refine lv_iinc (v := (v1_22 + 1)) (lv' := [(1, .int (v1_22 + 1)), (0, .ref (am 0))]) hx hb dX5_undo_48 hl (k := 1) rfl rfl (by decide) rfl (fun ls hl => ?_)
        refine lv_goto (tgt := 22) hx hb dX5_undo_51 (by decide) ?_
        exact ih_22 (v1_22 + 1) (u2 S_22 1 v1_22.toNatClampNeg (S_22 2 ((66 * (S_22 0 3)) + v1_22).toNatClampNeg)) _ _ _ (lv_sub hl [1, 0] rfl) hw hS h
  refine lv_aload_n hx hb dX5_undo_0 rfl (lv_at hl 0 rfl) ?_
  refine gX5_128 hx hb hB hown hK hw dX5_undo_1 ?_
  refine lv_if_ne (tgt := 10) hx hb dX5_undo_4 (by decide) (fun g5 => ?_) (fun g5 => ?_)
  · rw [if_neg g5] at h
    refine lv_aload_n hx hb dX5_undo_10 rfl (lv_at hl 0 rfl) ?_
    refine lv_dup hx hb dX5_undo_11 rfl ?_
    refine gX5_128 hx hb hB hown hK hw dX5_undo_12 ?_
    refine lv_iconst (v := 1) hx hb dX5_undo_15 (by decide) ?_
    refine lv_isub hx hb dX5_undo_16 ?_
    refine pX5_128 hx hb hB hown hK hw hS (fun _ z => z) dX5_undo_17 (fun H6 L6 hw hS => ?_)
    refine lv_iconst (v := 0) hx hb dX5_undo_20 (by decide) ?_
    refine lv_istore_n (lv' := [(1, .int 0), (0, .ref (am 0))]) hx hb dX5_undo_21 rfl hl (by decide) rfl (fun ls hl => ?_)
    exact hL22 FU 0 (u2 S 0 3 ((S 0 3) - 1)) _ _ _ (lv_sub hl [1, 0] rfl) hw hS h
  · rw [if_pos g5] at h
    refine lv_bipush (v := (-2)) hx hb dX5_undo_7 (by decide) ?_
    cases h
    exact e_zW hx hb hr hlk rfl rfl hw hS dX5_undo_9
def fX5_byRight (S : OS) (c1 : Nat) : Option (OS) := (fX5_put S 9 0 c1 66).bind (fun r1 => ((fX5_from r1 c1).bind (fun r3 => ((fX5_anew r3).bind (fun r5 => (some (r5)))))))
abbrev rmX5_byRight : Room := { frames := 4, cells := 0, slots := 0, locals := 96 }
set_option maxHeartbeats 4000000 in
set_option maxRecDepth 100000 in
theorem c_X5_byRight (l : Launch) (E : En) (am : Nat → Nat) (S : OS) (c1 : Nat) (h01 : 0 < c1) (hc1 : c1 < 13) (r : OS) (h : fX5_byRight S c1 = some r) : Met l yX5_byRight (kX5_byRight :: BIG) rmX5_byRight (Pk E [.ref (am 0), .ref (am c1)] (MW E am S)) (QW none (AM am) (MW E am r)) 0 0 (AM am) := by
  refine Mb (by decide) (Nat.le_of_ble_eq_true rfl) ?_
  intro p e s m below meth c ls hx hb hr hlk hB hown hml _ hK hw hl
  have hS : va_S (AM am) s.heap s.heap [] := va_S.rf
  have hl : lv_has ls 2 [(0, .ref (am 0)), (1, .ref (am c1))] := hl
  rw [fX5_byRight] at h
  refine lv_aload_n hx hb dX5_byRight_0 rfl (lv_at hl 0 rfl) ?_
  refine gX5_34 hx hb hB hown hK hw dX5_byRight_1 ?_
  refine lv_iconst (v := 0) hx hb dX5_byRight_4 (by decide) ?_
  refine lv_aload_n hx hb dX5_byRight_5 rfl (lv_at hl 1 rfl) ?_
  refine lv_bipush (v := 66) hx hb dX5_byRight_6 (by decide) ?_
  obtain ⟨r1, e1, h⟩ := ob h
  refine k_SWv ⟨hx, hb, hml, hown, hB⟩ (c_X5_put l E am S 9 0 c1 66 (by decide) (by decide) h01 hc1 r1 e1) (clX5_121 hB rfl rfl ⟨Nat.le_of_ble_eq_true rfl, Nat.le_of_ble_eq_true rfl⟩) hK hw rfl hl.1 rfl (Nat.le_of_ble_eq_true rfl) dX5_byRight_8 ⟨Nat.zero_le _, Nat.zero_le _⟩ hS (fun _ z => z) (fun H2 L2 hw _ _ hS => ?_)
  refine lv_aload_n hx hb dX5_byRight_11 rfl (lv_at hl 0 rfl) ?_
  refine lv_aload_n hx hb dX5_byRight_12 rfl (lv_at hl 1 rfl) ?_
  obtain ⟨r3, e3, h⟩ := ob h
  refine k_VWv ⟨hx, hb, hml, hown, hB⟩ (c_X5_from l E am r1 c1 h01 hc1 r3 e3) (clX5_170 hB rfl rfl ⟨Nat.le_of_ble_eq_true rfl, Nat.le_of_ble_eq_true rfl⟩) hK hw (rvM hK hw) rfl hl.1 rfl (Nat.le_of_ble_eq_true rfl) dX5_byRight_13 ⟨Nat.zero_le _, Nat.zero_le _⟩ hS (fun _ z => z) (fun H4 L4 hw _ _ hS => ?_)
  refine lv_aload_n hx hb dX5_byRight_16 rfl (lv_at hl 0 rfl) ?_
  obtain ⟨r5, e5, h⟩ := ob h
  refine k_VWv ⟨hx, hb, hml, hown, hB⟩ (c_X5_anew l E am r3 r5 e5) (clX5_125 hB rfl rfl ⟨Nat.le_of_ble_eq_true rfl, Nat.le_of_ble_eq_true rfl⟩) hK hw (rvM hK hw) rfl hl.1 rfl (Nat.le_of_ble_eq_true rfl) dX5_byRight_17 ⟨Nat.zero_le _, Nat.zero_le _⟩ hS (fun _ z => z) (fun H6 L6 hw _ _ hS => ?_)
  cases h
  exact e_vW hx hb hr hlk hw hS dX5_byRight_20
def fX5_right (S : OS) (a1 : Int32) : Option (Int32 × OS) := (fX5_isDead S a1).bind (fun r1 => (if r1 = 0 then some ((-1), S) else (fX5_byRight S 1).bind (fun r3 => ((fX5_plotOf r3 8 a1).bind (fun r5 => (some (r5, r3)))))))
abbrev rmX5_right : Room := { frames := 5, cells := 0, slots := 0, locals := 117 }
set_option maxHeartbeats 4000000 in
set_option maxRecDepth 100000 in
theorem c_X5_right (l : Launch) (E : En) (am : Nat → Nat) (S : OS) (a1 : Int32) (r : Int32 × OS) (h : fX5_right S a1 = some r) : Met l yX5_right (kX5_right :: BIG) rmX5_right (Pk E [.ref (am 0), .int a1] (MW E am S)) (QW (some (.int r.1)) (AM am) (MW E am r.2)) 0 0 (AM am) := by
  refine Mb (by decide) (Nat.le_of_ble_eq_true rfl) ?_
  intro p e s m below meth c ls hx hb hr hlk hB hown hml _ hK hw hl
  have hS : va_S (AM am) s.heap s.heap [] := va_S.rf
  have hl : lv_has ls 2 [(0, .ref (am 0)), (1, .int a1)] := hl
  rw [fX5_right] at h
  refine lv_aload_n hx hb dX5_right_0 rfl (lv_at hl 0 rfl) ?_
  refine lv_iload_n hx hb dX5_right_1 rfl (lv_at hl 1 rfl) ?_
  obtain ⟨r1, e1, h⟩ := ob h
  refine k_VR ⟨hx, hb, hml, hown, hB⟩ (c_X5_isDead l E am S a1 r1 e1) (clX5_151 hB rfl rfl ⟨Nat.le_of_ble_eq_true rfl, Nat.le_of_ble_eq_true rfl⟩) hK hw (rvM hK hw) rfl hl.1 rfl (Nat.le_of_ble_eq_true rfl) dX5_right_2 ⟨Nat.zero_le _, Nat.zero_le _⟩ ?_
  refine lv_if_ne (tgt := 10) hx hb dX5_right_5 (by decide) (fun g2 => ?_) (fun g2 => ?_)
  · rw [if_neg g2] at h
    refine lv_aload_n hx hb dX5_right_10 rfl (lv_at hl 0 rfl) ?_
    refine lv_aload_n hx hb dX5_right_11 rfl (lv_at hl 0 rfl) ?_
    refine gX5_7 hx hb hB hown hK hw dX5_right_12 ?_
    obtain ⟨r3, e3, h⟩ := ob h
    refine k_VWv ⟨hx, hb, hml, hown, hB⟩ (c_X5_byRight l E am S 1 (by decide) (by decide) r3 e3) (clX5_185 hB rfl rfl ⟨Nat.le_of_ble_eq_true rfl, Nat.le_of_ble_eq_true rfl⟩) hK hw (rvM hK hw) rfl hl.1 rfl (Nat.le_of_ble_eq_true rfl) dX5_right_15 ⟨Nat.zero_le _, Nat.zero_le _⟩ hS (fun _ z => z) (fun H4 L4 hw _ _ hS => ?_)
    refine lv_aload_n hx hb dX5_right_18 rfl (lv_at hl 0 rfl) ?_
    refine gX5_31 hx hb hB hown hK hw dX5_right_19 ?_
    refine lv_iload_n hx hb dX5_right_22 rfl (lv_at hl 1 rfl) ?_
    obtain ⟨r5, e5, h⟩ := ob h
    refine k_SR ⟨hx, hb, hml, hown, hB⟩ (c_X5_plotOf l E am r3 8 a1 (by decide) (by decide) r5 e5) (clX5_154 hB rfl rfl ⟨Nat.le_of_ble_eq_true rfl, Nat.le_of_ble_eq_true rfl⟩) hK hw rfl hl.1 rfl (Nat.le_of_ble_eq_true rfl) dX5_right_23 ⟨Nat.zero_le _, Nat.zero_le _⟩ ?_
    cases h
    exact e_zW hx hb hr hlk rfl rfl hw hS dX5_right_26
  · rw [if_pos g2] at h
    refine lv_iconst (v := (-1)) hx hb dX5_right_8 (by decide) ?_
    cases h
    exact e_zW hx hb hr hlk rfl rfl hw hS dX5_right_9
def fX5_movedBits_L4 (S : OS) : Nat → Int32 → Int32 → Option (Int32)
  | 0, _, _ => none
  | n_4 + 1, v1_4, v2_4 => if (S 8 (0 : Int32).toNatClampNeg) ≤ v2_4 then some v1_4 else (fX5_plotOf S 8 v2_4).bind (fun r2 => ((fX5_plotOf S 9 v2_4).bind (fun r3 => (if r2 = r3 then fX5_movedBits_L4 S n_4 (v1_4 ||| 0) (v2_4 + 1) else fX5_movedBits_L4 S n_4 (v1_4 ||| (1 <<< (v2_4 &&& 31))) (v2_4 + 1)))))
def fX5_movedBits (S : OS) : Option (Int32) := fX5_movedBits_L4 S FU 0 0
abbrev rmX5_movedBits : Room := { frames := 2, cells := 0, slots := 0, locals := 44 }
set_option maxHeartbeats 4000000 in
set_option maxRecDepth 100000 in
theorem c_X5_movedBits (l : Launch) (E : En) (am : Nat → Nat) (S : OS) (r : Int32) (h : fX5_movedBits S = some r) : Met l yX5_movedBits (kX5_movedBits :: BIG) rmX5_movedBits (Pk E [.ref (am 0)] (MW E am S)) (QcRead r) 0 0 (fun _ => False) := by
  refine Mb (by decide) (Nat.le_of_ble_eq_true rfl) ?_
  intro p e s m below meth c ls hx hb hr hlk hB hown hml _ hK hw hl
  have hl : lv_has ls 3 [(0, .ref (am 0))] := hl
  rw [fX5_movedBits] at h
  have hL4 : ∀ (n_4 : Nat) (v1_4 : Int32) (v2_4 : Int32) (ls_4 : Array Slot), lv_has ls_4 3 [(0, .ref (am 0)), (1, .int v1_4), (2, .int v2_4)] → fX5_movedBits_L4 S n_4 v1_4 v2_4 = some r → W p l e rmX5_movedBits s m ([.ref (am 0)] : List Value).toArray below meth c s.heap [] 0 0 (MQ below (QcRead r) ([.ref (am 0)] : List Value).toArray s 0 0 (fun _ => False)) (F0 m 4 ls_4 []) := by
    intro n_4
    induction n_4 with
    | zero =>
      intro v1_4 v2_4 ls_4 hl h
      exact nn h
    | succ n_4 ih_4 =>
      intro v1_4 v2_4 ls_4 hl h
      rw [fX5_movedBits_L4] at h
      refine lv_iload_n hx hb dX5_movedBits_4 rfl (lv_at hl 2 rfl) ?_
      refine lv_aload_n hx hb dX5_movedBits_5 rfl (lv_at hl 0 rfl) ?_
      refine gX5_31 hx hb hB hown hK hw dX5_movedBits_6 ?_
      refine lv_iconst (v := 0) hx hb dX5_movedBits_9 (by decide) ?_
      refine lM hx hb hK hw (by decide) (by decide) (ib_ok (by decide)) dX5_movedBits_10 ?_
      refine lv_icmp_ge (tgt := 49) hx hb dX5_movedBits_11 (by decide) (fun g1 => ?_) (fun g1 => ?_)
      · rw [if_pos g1] at h
        refine lv_iload_n hx hb dX5_movedBits_49 rfl (lv_at hl 1 rfl) ?_
        exact e_zR hx hb hr hlk rfl h dX5_movedBits_50
      · rw [if_neg g1] at h
        refine lv_iload_n hx hb dX5_movedBits_14 rfl (lv_at hl 1 rfl) ?_
        refine lv_aload_n hx hb dX5_movedBits_15 rfl (lv_at hl 0 rfl) ?_
        refine gX5_31 hx hb hB hown hK hw dX5_movedBits_16 ?_
        refine lv_iload_n hx hb dX5_movedBits_19 rfl (lv_at hl 2 rfl) ?_
        obtain ⟨r2, e2, h⟩ := ob h
        refine k_SR ⟨hx, hb, hml, hown, hB⟩ (c_X5_plotOf l E am S 8 v2_4 (by decide) (by decide) r2 e2) (clX5_154 hB rfl rfl ⟨Nat.le_of_ble_eq_true rfl, Nat.le_of_ble_eq_true rfl⟩) hK hw rfl hl.1 rfl (Nat.le_of_ble_eq_true rfl) dX5_movedBits_20 ⟨Nat.zero_le _, Nat.zero_le _⟩ ?_
        refine lv_aload_n hx hb dX5_movedBits_23 rfl (lv_at hl 0 rfl) ?_
        refine gX5_34 hx hb hB hown hK hw dX5_movedBits_24 ?_
        refine lv_iload_n hx hb dX5_movedBits_27 rfl (lv_at hl 2 rfl) ?_
        obtain ⟨r3, e3, h⟩ := ob h
        refine k_SR ⟨hx, hb, hml, hown, hB⟩ (c_X5_plotOf l E am S 9 v2_4 (by decide) (by decide) r3 e3) (clX5_154 hB rfl rfl ⟨Nat.le_of_ble_eq_true rfl, Nat.le_of_ble_eq_true rfl⟩) hK hw rfl hl.1 rfl (Nat.le_of_ble_eq_true rfl) dX5_movedBits_28 ⟨Nat.zero_le _, Nat.zero_le _⟩ ?_
        refine lv_icmp_eq (tgt := 40) hx hb dX5_movedBits_31 (by decide) (fun g4 => ?_) (fun g4 => ?_)
        · rw [if_pos g4] at h
          refine lv_iconst (v := 0) hx hb dX5_movedBits_40 (by decide) ?_
          refine lv_ior hx hb dX5_movedBits_41 ?_
          refine lv_istore_n (lv' := [(1, .int (v1_4 ||| 0)), (0, .ref (am 0)), (2, .int v2_4)]) hx hb dX5_movedBits_42 rfl hl (by decide) rfl (fun ls hl => ?_)
          refine lv_iinc (v := (v2_4 + 1)) (lv' := [(2, .int (v2_4 + 1)), (1, .int (v1_4 ||| 0)), (0, .ref (am 0))]) hx hb dX5_movedBits_43 hl (k := 2) rfl rfl (by decide) rfl (fun ls hl => ?_)
          refine lv_goto (tgt := 4) hx hb dX5_movedBits_46 (by decide) ?_
          exact ih_4 (v1_4 ||| 0) (v2_4 + 1) _ (lv_sub hl [2, 1, 0] rfl) h
        · rw [if_neg g4] at h
          refine lv_iconst (v := 1) hx hb dX5_movedBits_34 (by decide) ?_
          refine lv_iload_n hx hb dX5_movedBits_35 rfl (lv_at hl 2 rfl) ?_
          refine lv_ishl hx hb dX5_movedBits_36 ?_
          refine lv_goto (tgt := 41) hx hb dX5_movedBits_37 (by decide) ?_
          refine lv_ior hx hb dX5_movedBits_41 ?_
          refine lv_istore_n (lv' := [(1, .int (v1_4 ||| (1 <<< (v2_4 &&& 31)))), (0, .ref (am 0)), (2, .int v2_4)]) hx hb dX5_movedBits_42 rfl hl (by decide) rfl (fun ls hl => ?_)
          refine lv_iinc (v := (v2_4 + 1)) (lv' := [(2, .int (v2_4 + 1)), (1, .int (v1_4 ||| (1 <<< (v2_4 &&& 31)))), (0, .ref (am 0))]) hx hb dX5_movedBits_43 hl (k := 2) rfl rfl (by decide) rfl (fun ls hl => ?_)
          refine lv_goto (tgt := 4) hx hb dX5_movedBits_46 (by decide) ?_
          exact ih_4 (v1_4 ||| (1 <<< (v2_4 &&& 31))) (v2_4 + 1) _ (lv_sub hl [2, 1, 0] rfl) h
  refine lv_iconst (v := 0) hx hb dX5_movedBits_0 (by decide) ?_
  refine lv_istore_n (lv' := [(1, .int 0), (0, .ref (am 0))]) hx hb dX5_movedBits_1 rfl hl (by decide) rfl (fun ls hl => ?_)
  refine lv_iconst (v := 0) hx hb dX5_movedBits_2 (by decide) ?_
  refine lv_istore_n (lv' := [(2, .int 0), (1, .int 0), (0, .ref (am 0))]) hx hb dX5_movedBits_3 rfl hl (by decide) rfl (fun ls hl => ?_)
  exact hL4 FU 0 0 _ (lv_sub hl [2, 1, 0] rfl) h
def fX5_moved (S : OS) : Option (Int32 × OS) := (fX5_byRight S 1).bind (fun r1 => ((fX5_movedBits r1).bind (fun r3 => (some (r3, r1)))))
abbrev rmX5_moved : Room := { frames := 5, cells := 0, slots := 0, locals := 117 }
set_option maxHeartbeats 4000000 in
set_option maxRecDepth 100000 in
theorem c_X5_moved (l : Launch) (E : En) (am : Nat → Nat) (S : OS) (r : Int32 × OS) (h : fX5_moved S = some r) : Met l yX5_moved (kX5_moved :: BIG) rmX5_moved (Pk E [.ref (am 0)] (MW E am S)) (QW (some (.int r.1)) (AM am) (MW E am r.2)) 0 0 (AM am) := by
  refine Mb (by decide) (Nat.le_of_ble_eq_true rfl) ?_
  intro p e s m below meth c ls hx hb hr hlk hB hown hml _ hK hw hl
  have hS : va_S (AM am) s.heap s.heap [] := va_S.rf
  have hl : lv_has ls 1 [(0, .ref (am 0))] := hl
  rw [fX5_moved] at h
  refine lv_aload_n hx hb dX5_moved_0 rfl (lv_at hl 0 rfl) ?_
  refine lv_aload_n hx hb dX5_moved_1 rfl (lv_at hl 0 rfl) ?_
  refine gX5_7 hx hb hB hown hK hw dX5_moved_2 ?_
  obtain ⟨r1, e1, h⟩ := ob h
  refine k_VWv ⟨hx, hb, hml, hown, hB⟩ (c_X5_byRight l E am S 1 (by decide) (by decide) r1 e1) (clX5_185 hB rfl rfl ⟨Nat.le_of_ble_eq_true rfl, Nat.le_of_ble_eq_true rfl⟩) hK hw (rvM hK hw) rfl hl.1 rfl (Nat.le_of_ble_eq_true rfl) dX5_moved_5 ⟨Nat.zero_le _, Nat.zero_le _⟩ hS (fun _ z => z) (fun H2 L2 hw _ _ hS => ?_)
  refine lv_aload_n hx hb dX5_moved_8 rfl (lv_at hl 0 rfl) ?_
  obtain ⟨r3, e3, h⟩ := ob h
  refine k_VR ⟨hx, hb, hml, hown, hB⟩ (c_X5_movedBits l E am r1 r3 e3) (clX5_188 hB rfl rfl ⟨Nat.le_of_ble_eq_true rfl, Nat.le_of_ble_eq_true rfl⟩) hK hw (rvM hK hw) rfl hl.1 rfl (Nat.le_of_ble_eq_true rfl) dX5_moved_9 ⟨Nat.zero_le _, Nat.zero_le _⟩ ?_
  cases h
  exact e_zW hx hb hr hlk rfl rfl hw hS dX5_moved_12
def fX5_mend_L135 (K : Int32 → Int32 → OS → Option (Int32 × OS)) (v1_111 : Int32) (v3_135 : Int32) : Nat → Int32 → Int32 → OS → Option (Int32 × OS)
  | 0, _, _, _ => none
  | n_135 + 1, v2_135, v4_135, S_135 => if v4_135 = 0 then K v2_135 (v3_135 + 1) S_135 else gB (ib ((37 + (8 * v1_111)) + v3_135) 66) (if v4_135 = (S_135 8 ((37 + (8 * v1_111)) + v3_135).toNatClampNeg) then K v2_135 (v3_135 + 1) S_135 else (fX5_plotIn S_135 8 v1_111 (v4_135 - 1)).bind (fun r6 => ((fX5_changes S_135 9 v1_111 v3_135 r6).bind (fun r7 => (gB (ib ((37 + (8 * v1_111)) + v3_135) 66) (fX5_mend_L135 K v1_111 v3_135 n_135 (v2_135 + 1) (r7 9 ((37 + (8 * v1_111)) + v3_135).toNatClampNeg) r7))))))
def fX5_mend_L111 (v1_111 : Int32) : Nat → Int32 → Int32 → OS → Option (Int32 × OS)
  | 0, _, _, _ => none
  | n_111 + 1, v2_111, v3_111, S_111 => if (S_111 0 0) ≤ v3_111 then some (v2_111, S_111) else gB (ib ((37 + (8 * v1_111)) + v3_111) 66) (fX5_mend_L135 (fun kv2_111 kv3_111 kS_111 => fX5_mend_L111 v1_111 n_111 kv2_111 kv3_111 kS_111) v1_111 v3_111 FU v2_111 (S_111 9 ((37 + (8 * v1_111)) + v3_111).toNatClampNeg) S_111)
def fX5_mend_L21 (S_21 : OS) (v1_21 : Int32) : Nat → Int32 → Option (Int32 × OS)
  | 0, _ => none
  | n_21 + 1, v2_21 => if (S_21 0 0) ≤ v2_21 then fX5_mend_L111 v1_21 FU 0 0 S_21 else gB (ib ((37 + (8 * v1_21)) + v2_21) 66) (gB (ib ((37 + (8 * v1_21)) + v2_21) 66) (if (S_21 9 ((37 + (8 * v1_21)) + v2_21).toNatClampNeg) = 0 then if (S_21 8 ((37 + (8 * v1_21)) + v2_21).toNatClampNeg) = 0 then fX5_mend_L21 S_21 v1_21 n_21 (v2_21 + 1) else (fX5_plotIn S_21 9 v1_21 ((S_21 8 ((37 + (8 * v1_21)) + v2_21).toNatClampNeg) - 1)).bind (fun r15 => (if 0 ≤ r15 then fX5_mend_L21 S_21 v1_21 n_21 (v2_21 + 1) else some ((-4), S_21))) else (fX5_plotIn S_21 8 v1_21 ((S_21 9 ((37 + (8 * v1_21)) + v2_21).toNatClampNeg) - 1)).bind (fun r17 => (if r17 < 0 then some ((-4), S_21) else if (S_21 8 ((37 + (8 * v1_21)) + v2_21).toNatClampNeg) = 0 then fX5_mend_L21 S_21 v1_21 n_21 (v2_21 + 1) else (fX5_plotIn S_21 9 v1_21 ((S_21 8 ((37 + (8 * v1_21)) + v2_21).toNatClampNeg) - 1)).bind (fun r20 => (if 0 ≤ r20 then fX5_mend_L21 S_21 v1_21 n_21 (v2_21 + 1) else some ((-4), S_21)))))))
def fX5_mend (S : OS) (a1 : Int32) : Option (Int32 × OS) := (fX5_in a1 0 1).bind (fun r22 => (if r22 = 0 then some ((-1), S) else (fX5_byRight S 1).bind (fun r24 => (fX5_mend_L21 r24 a1 FU 0))))
abbrev rmX5_mend : Room := { frames := 5, cells := 0, slots := 0, locals := 117 }
set_option maxHeartbeats 4000000 in
set_option maxRecDepth 100000 in
theorem c_X5_mend (l : Launch) (E : En) (am : Nat → Nat) (S : OS) (a1 : Int32) (r : Int32 × OS) (h : fX5_mend S a1 = some r) : Met l yX5_mend (kX5_mend :: BIG) rmX5_mend (Pk E [.ref (am 0), .int a1] (MW E am S)) (QW (some (.int r.1)) (AM am) (MW E am r.2)) 0 0 (AM am) := by
  refine Mb (by decide) (Nat.le_of_ble_eq_true rfl) ?_
  intro p e s m below meth c ls hx hb hr hlk hB hown hml _ hK hw hl
  have hS : va_S (AM am) s.heap s.heap [] := va_S.rf
  have hl : lv_has ls 5 [(0, .ref (am 0)), (1, .int a1)] := hl
  rw [fX5_mend] at h
  have hL111 : ∀ (n_111 : Nat) (v1_111 : Int32) (v2_111 : Int32) (v3_111 : Int32) (S_111 : OS) (H_111 : Heap) (L_111 : List Loc) (ls_111 : Array Slot), lv_has ls_111 5 [(0, .ref (am 0)), (1, .int v1_111), (2, .int v2_111), (3, .int v3_111)] → MW E am S_111 H_111 → va_S (AM am) s.heap H_111 L_111 → fX5_mend_L111 v1_111 n_111 v2_111 v3_111 S_111 = some r → W p l e rmX5_mend s m ([.ref (am 0), .int a1] : List Value).toArray below meth c H_111 L_111 0 0 (MQ below (QW (some (.int r.1)) (AM am) (MW E am r.2)) ([.ref (am 0), .int a1] : List Value).toArray s 0 0 (AM am)) (F0 m 111 ls_111 []) := by
    intro n_111
    induction n_111 with
    | zero =>
      intro v1_111 v2_111 v3_111 S_111 H_111 L_111 ls_111 hl hw hS h
      exact nn h
    | succ n_111 ih_111 =>
      intro v1_111 v2_111 v3_111 S_111 H_111 L_111 ls_111 hl hw hS h
      rw [fX5_mend_L111] at h
      refine lv_iload_n hx hb dX5_mend_111 rfl (lv_at hl 3 rfl) ?_
      refine lv_aload_n hx hb dX5_mend_112 rfl (lv_at hl 0 rfl) ?_
      refine gX5_71 hx hb hB hown hK hw dX5_mend_113 ?_
      refine lv_icmp_ge (tgt := 208) hx hb dX5_mend_116 (by decide) (fun g1 => ?_) (fun g1 => ?_)
      · rw [if_pos g1] at h
        refine lv_iload_n hx hb dX5_mend_208 rfl (lv_at hl 2 rfl) ?_
        cases h
        exact e_zW hx hb hr hlk rfl rfl hw hS dX5_mend_209
      · rw [if_neg g1] at h
        refine lv_aload_n hx hb dX5_mend_119 rfl (lv_at hl 0 rfl) ?_
        refine gX5_34 hx hb hB hown hK hw dX5_mend_120 ?_
        refine lv_bipush (v := 37) hx hb dX5_mend_123 (by decide) ?_
        refine lv_bipush (v := 8) hx hb dX5_mend_125 (by decide) ?_
        refine lv_iload_n hx hb dX5_mend_127 rfl (lv_at hl 1 rfl) ?_
        refine lv_imul hx hb dX5_mend_128 ?_
        refine lv_iadd hx hb dX5_mend_129 ?_
        refine lv_iload_n hx hb dX5_mend_130 rfl (lv_at hl 3 rfl) ?_
        refine lv_iadd hx hb dX5_mend_131 ?_
        obtain ⟨g2, h⟩ := gB_ok h
        refine lM hx hb hK hw (by decide) (by decide) (ib_ok g2) dX5_mend_132 ?_
        refine lv_istore (lv' := [(4, .int (S_111 9 ((37 + (8 * v1_111)) + v3_111).toNatClampNeg)), (0, .ref (am 0)), (1, .int v1_111), (2, .int v2_111), (3, .int v3_111)]) hx hb dX5_mend_133 hl (by decide) rfl (fun ls hl => ?_)
        have hL135 : ∀ (n_135 : Nat) (v2_135 : Int32) (v3_135 : Int32) (v4_135 : Int32) (S_135 : OS) (H_135 : Heap) (L_135 : List Loc) (ls_135 : Array Slot), lv_has ls_135 5 [(0, .ref (am 0)), (1, .int v1_111), (2, .int v2_135), (3, .int v3_135), (4, .int v4_135)] → MW E am S_135 H_135 → va_S (AM am) s.heap H_135 L_135 → fX5_mend_L135 (fun kv2_111 kv3_111 kS_111 => fX5_mend_L111 v1_111 n_111 kv2_111 kv3_111 kS_111) v1_111 v3_135 n_135 v2_135 v4_135 S_135 = some r → W p l e rmX5_mend s m ([.ref (am 0), .int a1] : List Value).toArray below meth c H_135 L_135 0 0 (MQ below (QW (some (.int r.1)) (AM am) (MW E am r.2)) ([.ref (am 0), .int a1] : List Value).toArray s 0 0 (AM am)) (F0 m 135 ls_135 []) := by
          intro n_135
          induction n_135 with
          | zero =>
            intro v2_135 v3_135 v4_135 S_135 H_135 L_135 ls_135 hl hw hS h
            exact nn h
          | succ n_135 ih_135 =>
            intro v2_135 v3_135 v4_135 S_135 H_135 L_135 ls_135 hl hw hS h
            rw [fX5_mend_L135] at h
            refine lv_iload hx hb dX5_mend_135 (lv_at hl 4 rfl) ?_
            refine lv_if_eq (tgt := 202) hx hb dX5_mend_137 (by decide) (fun g3 => ?_) (fun g3 => ?_)
            · rw [if_pos g3] at h
              refine lv_iinc (v := (v3_135 + 1)) (lv' := [(3, .int (v3_135 + 1)), (0, .ref (am 0)), (1, .int v1_111), (2, .int v2_135), (4, .int v4_135)]) hx hb dX5_mend_202 hl (k := 3) rfl rfl (by decide) rfl (fun ls hl => ?_)
              refine lv_goto (tgt := 111) hx hb dX5_mend_205 (by decide) ?_
              exact ih_111 v1_111 v2_135 (v3_135 + 1) S_135 _ _ _ (lv_sub hl [1, 2, 3, 0] rfl) hw hS h
            · rw [if_neg g3] at h
              refine lv_iload hx hb dX5_mend_140 (lv_at hl 4 rfl) ?_
              refine lv_aload_n hx hb dX5_mend_142 rfl (lv_at hl 0 rfl) ?_
              refine gX5_31 hx hb hB hown hK hw dX5_mend_143 ?_
              refine lv_bipush (v := 37) hx hb dX5_mend_146 (by decide) ?_
              refine lv_bipush (v := 8) hx hb dX5_mend_148 (by decide) ?_
              refine lv_iload_n hx hb dX5_mend_150 rfl (lv_at hl 1 rfl) ?_
              refine lv_imul hx hb dX5_mend_151 ?_
              refine lv_iadd hx hb dX5_mend_152 ?_
              refine lv_iload_n hx hb dX5_mend_153 rfl (lv_at hl 3 rfl) ?_
              refine lv_iadd hx hb dX5_mend_154 ?_
              obtain ⟨g4, h⟩ := gB_ok h
              refine lM hx hb hK hw (by decide) (by decide) (ib_ok g4) dX5_mend_155 ?_
              refine lv_icmp_eq (tgt := 202) hx hb dX5_mend_156 (by decide) (fun g5 => ?_) (fun g5 => ?_)
              · rw [if_pos g5] at h
                refine lv_iinc (v := (v3_135 + 1)) (lv' := [(3, .int (v3_135 + 1)), (0, .ref (am 0)), (1, .int v1_111), (2, .int v2_135), (4, .int v4_135)]) hx hb dX5_mend_202 hl (k := 3) rfl rfl (by decide) rfl (fun ls hl => ?_)
                refine lv_goto (tgt := 111) hx hb dX5_mend_205 (by decide) ?_
                exact ih_111 v1_111 v2_135 (v3_135 + 1) S_135 _ _ _ (lv_sub hl [1, 2, 3, 0] rfl) hw hS h
              · rw [if_neg g5] at h
                refine lv_aload_n hx hb dX5_mend_159 rfl (lv_at hl 0 rfl) ?_
                refine gX5_34 hx hb hB hown hK hw dX5_mend_160 ?_
                refine lv_iload_n hx hb dX5_mend_163 rfl (lv_at hl 1 rfl) ?_
                refine lv_iload_n hx hb dX5_mend_164 rfl (lv_at hl 3 rfl) ?_
                refine lv_aload_n hx hb dX5_mend_165 rfl (lv_at hl 0 rfl) ?_
                refine gX5_31 hx hb hB hown hK hw dX5_mend_166 ?_
                refine lv_iload_n hx hb dX5_mend_169 rfl (lv_at hl 1 rfl) ?_
                refine lv_iload hx hb dX5_mend_170 (lv_at hl 4 rfl) ?_
                refine lv_iconst (v := 1) hx hb dX5_mend_172 (by decide) ?_
                refine lv_isub hx hb dX5_mend_173 ?_
                obtain ⟨r6, e6, h⟩ := ob h
                refine k_SR ⟨hx, hb, hml, hown, hB⟩ (c_X5_plotIn l E am S_135 8 v1_111 (v4_135 - 1) (by decide) (by decide) r6 e6) (clX5_147 hB rfl rfl ⟨Nat.le_of_ble_eq_true rfl, Nat.le_of_ble_eq_true rfl⟩) hK hw rfl hl.1 rfl (Nat.le_of_ble_eq_true rfl) dX5_mend_174 ⟨Nat.zero_le _, Nat.zero_le _⟩ ?_
                obtain ⟨r7, e7, h⟩ := ob h
                refine k_SWv ⟨hx, hb, hml, hown, hB⟩ (c_X5_changes l E am S_135 9 v1_111 v3_135 r6 (by decide) (by decide) r7 e7) (clX5_177 hB rfl rfl ⟨Nat.le_of_ble_eq_true rfl, Nat.le_of_ble_eq_true rfl⟩) hK hw rfl hl.1 rfl (Nat.le_of_ble_eq_true rfl) dX5_mend_177 ⟨Nat.zero_le _, Nat.zero_le _⟩ hS (fun _ z => z) (fun H8 L8 hw _ _ hS => ?_)
                refine lv_aload_n hx hb dX5_mend_180 rfl (lv_at hl 0 rfl) ?_
                refine gX5_34 hx hb hB hown hK hw dX5_mend_181 ?_
                refine lv_bipush (v := 37) hx hb dX5_mend_184 (by decide) ?_
                refine lv_bipush (v := 8) hx hb dX5_mend_186 (by decide) ?_
                refine lv_iload_n hx hb dX5_mend_188 rfl (lv_at hl 1 rfl) ?_
                refine lv_imul hx hb dX5_mend_189 ?_
                refine lv_iadd hx hb dX5_mend_190 ?_
                refine lv_iload_n hx hb dX5_mend_191 rfl (lv_at hl 3 rfl) ?_
                refine lv_iadd hx hb dX5_mend_192 ?_
                obtain ⟨g9, h⟩ := gB_ok h
                refine lM hx hb hK hw (by decide) (by decide) (ib_ok g9) dX5_mend_193 ?_
                refine lv_istore (lv' := [(4, .int (r7 9 ((37 + (8 * v1_111)) + v3_135).toNatClampNeg)), (0, .ref (am 0)), (1, .int v1_111), (2, .int v2_135), (3, .int v3_135)]) hx hb dX5_mend_194 hl (by decide) rfl (fun ls hl => ?_)
                refine lv_iinc (v := (v2_135 + 1)) (lv' := [(2, .int (v2_135 + 1)), (4, .int (r7 9 ((37 + (8 * v1_111)) + v3_135).toNatClampNeg)), (0, .ref (am 0)), (1, .int v1_111), (3, .int v3_135)]) hx hb dX5_mend_196 hl (k := 3) rfl rfl (by decide) rfl (fun ls hl => ?_)
                refine lv_goto (tgt := 135) hx hb dX5_mend_199 (by decide) ?_
                exact ih_135 (v2_135 + 1) v3_135 (r7 9 ((37 + (8 * v1_111)) + v3_135).toNatClampNeg) r7 _ _ _ (lv_sub hl [2, 3, 0, 4, 1] rfl) hw hS h
        exact hL135 FU v2_111 v3_111 (S_111 9 ((37 + (8 * v1_111)) + v3_111).toNatClampNeg) S_111 _ _ _ (lv_sub hl [1, 2, 3, 4, 0] rfl) hw hS h
  have hL21 : ∀ (n_21 : Nat) (v1_21 : Int32) (v2_21 : Int32) (S_21 : OS) (H_21 : Heap) (L_21 : List Loc) (ls_21 : Array Slot), lv_has ls_21 5 [(0, .ref (am 0)), (1, .int v1_21), (2, .int v2_21)] → MW E am S_21 H_21 → va_S (AM am) s.heap H_21 L_21 → fX5_mend_L21 S_21 v1_21 n_21 v2_21 = some r → W p l e rmX5_mend s m ([.ref (am 0), .int a1] : List Value).toArray below meth c H_21 L_21 0 0 (MQ below (QW (some (.int r.1)) (AM am) (MW E am r.2)) ([.ref (am 0), .int a1] : List Value).toArray s 0 0 (AM am)) (F0 m 21 ls_21 []) := by
    intro n_21
    induction n_21 with
    | zero =>
      intro v1_21 v2_21 S_21 H_21 L_21 ls_21 hl hw hS h
      exact nn h
    | succ n_21 ih_21 =>
      intro v1_21 v2_21 S_21 H_21 L_21 ls_21 hl hw hS h
      rw [fX5_mend_L21] at h
      refine lv_iload_n hx hb dX5_mend_21 rfl (lv_at hl 2 rfl) ?_
      refine lv_aload_n hx hb dX5_mend_22 rfl (lv_at hl 0 rfl) ?_
      refine gX5_71 hx hb hB hown hK hw dX5_mend_23 ?_
      refine lv_icmp_ge (tgt := 107) hx hb dX5_mend_26 (by decide) (fun g10 => ?_) (fun g10 => ?_)
      · rw [if_pos g10] at h
        refine lv_iconst (v := 0) hx hb dX5_mend_107 (by decide) ?_
        refine lv_istore_n (lv' := [(2, .int 0), (0, .ref (am 0)), (1, .int v1_21)]) hx hb dX5_mend_108 rfl hl (by decide) rfl (fun ls hl => ?_)
        refine lv_iconst (v := 0) hx hb dX5_mend_109 (by decide) ?_
        refine lv_istore_n (lv' := [(3, .int 0), (2, .int 0), (0, .ref (am 0)), (1, .int v1_21)]) hx hb dX5_mend_110 rfl hl (by decide) rfl (fun ls hl => ?_)
        exact hL111 FU v1_21 0 0 S_21 _ _ _ (lv_sub hl [2, 3, 1, 0] rfl) hw hS h
      · rw [if_neg g10] at h
        refine lv_aload_n hx hb dX5_mend_29 rfl (lv_at hl 0 rfl) ?_
        refine gX5_34 hx hb hB hown hK hw dX5_mend_30 ?_
        refine lv_bipush (v := 37) hx hb dX5_mend_33 (by decide) ?_
        refine lv_bipush (v := 8) hx hb dX5_mend_35 (by decide) ?_
        refine lv_iload_n hx hb dX5_mend_37 rfl (lv_at hl 1 rfl) ?_
        refine lv_imul hx hb dX5_mend_38 ?_
        refine lv_iadd hx hb dX5_mend_39 ?_
        refine lv_iload_n hx hb dX5_mend_40 rfl (lv_at hl 2 rfl) ?_
        refine lv_iadd hx hb dX5_mend_41 ?_
        obtain ⟨g11, h⟩ := gB_ok h
        refine lM hx hb hK hw (by decide) (by decide) (ib_ok g11) dX5_mend_42 ?_
        refine lv_istore_n (lv' := [(3, .int (S_21 9 ((37 + (8 * v1_21)) + v2_21).toNatClampNeg)), (0, .ref (am 0)), (1, .int v1_21), (2, .int v2_21)]) hx hb dX5_mend_43 rfl hl (by decide) rfl (fun ls hl => ?_)
        refine lv_aload_n hx hb dX5_mend_44 rfl (lv_at hl 1 rfl) ?_
        refine gX5_31 hx hb hB hown hK hw dX5_mend_45 ?_
        refine lv_bipush (v := 37) hx hb dX5_mend_48 (by decide) ?_
        refine lv_bipush (v := 8) hx hb dX5_mend_50 (by decide) ?_
        refine lv_iload_n hx hb dX5_mend_52 rfl (lv_at hl 2 rfl) ?_
        refine lv_imul hx hb dX5_mend_53 ?_
        refine lv_iadd hx hb dX5_mend_54 ?_
        refine lv_iload_n hx hb dX5_mend_55 rfl (lv_at hl 3 rfl) ?_
        refine lv_iadd hx hb dX5_mend_56 ?_
        obtain ⟨g12, h⟩ := gB_ok h
        refine lM hx hb hK hw (by decide) (by decide) (ib_ok g12) dX5_mend_57 ?_
        refine lv_istore (lv' := [(4, .int (S_21 8 ((37 + (8 * v1_21)) + v2_21).toNatClampNeg)), (3, .int (S_21 9 ((37 + (8 * v1_21)) + v2_21).toNatClampNeg)), (0, .ref (am 0)), (1, .int v1_21), (2, .int v2_21)]) hx hb dX5_mend_58 hl (by decide) rfl (fun ls hl => ?_)
        refine lv_iload_n hx hb dX5_mend_60 rfl (lv_at hl 1 rfl) ?_
        refine lv_if_eq (tgt := 78) hx hb dX5_mend_61 (by decide) (fun g13 => ?_) (fun g13 => ?_)
        · rw [if_pos g13] at h
          refine lv_iload hx hb dX5_mend_78 (lv_at hl 0 rfl) ?_
          refine lv_if_eq (tgt := 101) hx hb dX5_mend_80 (by decide) (fun g14 => ?_) (fun g14 => ?_)
          · rw [if_pos g14] at h
            refine lv_iinc (v := (v2_21 + 1)) (lv' := [(2, .int (v2_21 + 1)), (4, .int (S_21 8 ((37 + (8 * v1_21)) + v2_21).toNatClampNeg)), (3, .int (S_21 9 ((37 + (8 * v1_21)) + v2_21).toNatClampNeg)), (0, .ref (am 0)), (1, .int v1_21)]) hx hb dX5_mend_101 hl (k := 4) rfl rfl (by decide) rfl (fun ls hl => ?_)
            refine lv_goto (tgt := 21) hx hb dX5_mend_104 (by decide) ?_
            exact ih_21 v1_21 (v2_21 + 1) S_21 _ _ _ (lv_sub hl [3, 4, 0] rfl) hw hS h
          · rw [if_neg g14] at h
            refine lv_aload_n hx hb dX5_mend_83 rfl (lv_at hl 2 rfl) ?_
            refine gX5_34 hx hb hB hown hK hw dX5_mend_84 ?_
            refine lv_iload_n hx hb dX5_mend_87 rfl (lv_at hl 3 rfl) ?_
            refine lv_iload hx hb dX5_mend_88 (lv_at hl 0 rfl) ?_
            refine lv_iconst (v := 1) hx hb dX5_mend_90 (by decide) ?_
            refine lv_isub hx hb dX5_mend_91 ?_
            obtain ⟨r15, e15, h⟩ := ob h
            refine k_SR ⟨hx, hb, hml, hown, hB⟩ (c_X5_plotIn l E am S_21 9 v1_21 ((S_21 8 ((37 + (8 * v1_21)) + v2_21).toNatClampNeg) - 1) (by decide) (by decide) r15 e15) (clX5_147 hB rfl rfl ⟨Nat.le_of_ble_eq_true rfl, Nat.le_of_ble_eq_true rfl⟩) hK hw rfl hl.1 rfl (Nat.le_of_ble_eq_true rfl) dX5_mend_92 ⟨Nat.zero_le _, Nat.zero_le _⟩ ?_
            refine lv_if_ge (tgt := 101) hx hb dX5_mend_95 (by decide) (fun g16 => ?_) (fun g16 => ?_)
            · rw [if_pos g16] at h
              refine lv_iinc (v := (v2_21 + 1)) (lv' := [(2, .int (v2_21 + 1)), (4, .int (S_21 8 ((37 + (8 * v1_21)) + v2_21).toNatClampNeg)), (3, .int (S_21 9 ((37 + (8 * v1_21)) + v2_21).toNatClampNeg)), (0, .ref (am 0)), (1, .int v1_21)]) hx hb dX5_mend_101 hl (k := 4) rfl rfl (by decide) rfl (fun ls hl => ?_)
              refine lv_goto (tgt := 21) hx hb dX5_mend_104 (by decide) ?_
              exact ih_21 v1_21 (v2_21 + 1) S_21 _ _ _ (lv_sub hl [3, 4, 0] rfl) hw hS h
            · rw [if_neg g16] at h
              refine lv_bipush (v := (-4)) hx hb dX5_mend_98 (by decide) ?_
              cases h
              exact e_zW hx hb hr hlk rfl rfl hw hS dX5_mend_100
        · rw [if_neg g13] at h
          refine lv_aload_n hx hb dX5_mend_64 rfl (lv_at hl 2 rfl) ?_
          refine gX5_31 hx hb hB hown hK hw dX5_mend_65 ?_
          refine lv_iload_n hx hb dX5_mend_68 rfl (lv_at hl 3 rfl) ?_
          refine lv_iload_n hx hb dX5_mend_69 rfl (lv_at hl 1 rfl) ?_
          refine lv_iconst (v := 1) hx hb dX5_mend_70 (by decide) ?_
          refine lv_isub hx hb dX5_mend_71 ?_
          obtain ⟨r17, e17, h⟩ := ob h
          refine k_SR ⟨hx, hb, hml, hown, hB⟩ (c_X5_plotIn l E am S_21 8 v1_21 ((S_21 9 ((37 + (8 * v1_21)) + v2_21).toNatClampNeg) - 1) (by decide) (by decide) r17 e17) (clX5_147 hB rfl rfl ⟨Nat.le_of_ble_eq_true rfl, Nat.le_of_ble_eq_true rfl⟩) hK hw rfl hl.1 rfl (Nat.le_of_ble_eq_true rfl) dX5_mend_72 ⟨Nat.zero_le _, Nat.zero_le _⟩ ?_
          refine lv_if_lt (tgt := 98) hx hb dX5_mend_75 (by decide) (fun g18 => ?_) (fun g18 => ?_)
          · rw [if_pos g18] at h
            refine lv_bipush (v := (-4)) hx hb dX5_mend_98 (by decide) ?_
            cases h
            exact e_zW hx hb hr hlk rfl rfl hw hS dX5_mend_100
          · rw [if_neg g18] at h
            refine lv_iload hx hb dX5_mend_78 (lv_at hl 0 rfl) ?_
            refine lv_if_eq (tgt := 101) hx hb dX5_mend_80 (by decide) (fun g19 => ?_) (fun g19 => ?_)
            · rw [if_pos g19] at h
              refine lv_iinc (v := (v2_21 + 1)) (lv' := [(2, .int (v2_21 + 1)), (4, .int (S_21 8 ((37 + (8 * v1_21)) + v2_21).toNatClampNeg)), (3, .int (S_21 9 ((37 + (8 * v1_21)) + v2_21).toNatClampNeg)), (0, .ref (am 0)), (1, .int v1_21)]) hx hb dX5_mend_101 hl (k := 4) rfl rfl (by decide) rfl (fun ls hl => ?_)
              refine lv_goto (tgt := 21) hx hb dX5_mend_104 (by decide) ?_
              exact ih_21 v1_21 (v2_21 + 1) S_21 _ _ _ (lv_sub hl [3, 4, 0] rfl) hw hS h
            · rw [if_neg g19] at h
              refine lv_aload_n hx hb dX5_mend_83 rfl (lv_at hl 2 rfl) ?_
              refine gX5_34 hx hb hB hown hK hw dX5_mend_84 ?_
              refine lv_iload_n hx hb dX5_mend_87 rfl (lv_at hl 3 rfl) ?_
              refine lv_iload hx hb dX5_mend_88 (lv_at hl 0 rfl) ?_
              refine lv_iconst (v := 1) hx hb dX5_mend_90 (by decide) ?_
              refine lv_isub hx hb dX5_mend_91 ?_
              obtain ⟨r20, e20, h⟩ := ob h
              refine k_SR ⟨hx, hb, hml, hown, hB⟩ (c_X5_plotIn l E am S_21 9 v1_21 ((S_21 8 ((37 + (8 * v1_21)) + v2_21).toNatClampNeg) - 1) (by decide) (by decide) r20 e20) (clX5_147 hB rfl rfl ⟨Nat.le_of_ble_eq_true rfl, Nat.le_of_ble_eq_true rfl⟩) hK hw rfl hl.1 rfl (Nat.le_of_ble_eq_true rfl) dX5_mend_92 ⟨Nat.zero_le _, Nat.zero_le _⟩ ?_
              refine lv_if_ge (tgt := 101) hx hb dX5_mend_95 (by decide) (fun g21 => ?_) (fun g21 => ?_)
              · rw [if_pos g21] at h
                refine lv_iinc (v := (v2_21 + 1)) (lv' := [(2, .int (v2_21 + 1)), (4, .int (S_21 8 ((37 + (8 * v1_21)) + v2_21).toNatClampNeg)), (3, .int (S_21 9 ((37 + (8 * v1_21)) + v2_21).toNatClampNeg)), (0, .ref (am 0)), (1, .int v1_21)]) hx hb dX5_mend_101 hl (k := 4) rfl rfl (by decide) rfl (fun ls hl => ?_)
                refine lv_goto (tgt := 21) hx hb dX5_mend_104 (by decide) ?_
                exact ih_21 v1_21 (v2_21 + 1) S_21 _ _ _ (lv_sub hl [3, 4, 0] rfl) hw hS h
              · rw [if_neg g21] at h
                refine lv_bipush (v := (-4)) hx hb dX5_mend_98 (by decide) ?_
                cases h
                exact e_zW hx hb hr hlk rfl rfl hw hS dX5_mend_100
  refine lv_iload_n hx hb dX5_mend_0 rfl (lv_at hl 1 rfl) ?_
  refine lv_iconst (v := 0) hx hb dX5_mend_1 (by decide) ?_
  refine lv_iconst (v := 1) hx hb dX5_mend_2 (by decide) ?_
  obtain ⟨r22, e22, h⟩ := ob h
  refine k_SR ⟨hx, hb, hml, hown, hB⟩ (c_X5_in l E a1 0 1 r22 e22) (clX5_67 hB rfl rfl ⟨Nat.le_of_ble_eq_true rfl, Nat.le_of_ble_eq_true rfl⟩) hK trivial rfl hl.1 rfl (Nat.le_of_ble_eq_true rfl) dX5_mend_3 ⟨Nat.zero_le _, Nat.zero_le _⟩ ?_
  refine lv_if_ne (tgt := 11) hx hb dX5_mend_6 (by decide) (fun g23 => ?_) (fun g23 => ?_)
  · rw [if_neg g23] at h
    refine lv_aload_n hx hb dX5_mend_11 rfl (lv_at hl 0 rfl) ?_
    refine lv_aload_n hx hb dX5_mend_12 rfl (lv_at hl 0 rfl) ?_
    refine gX5_7 hx hb hB hown hK hw dX5_mend_13 ?_
    obtain ⟨r24, e24, h⟩ := ob h
    refine k_VWv ⟨hx, hb, hml, hown, hB⟩ (c_X5_byRight l E am S 1 (by decide) (by decide) r24 e24) (clX5_185 hB rfl rfl ⟨Nat.le_of_ble_eq_true rfl, Nat.le_of_ble_eq_true rfl⟩) hK hw (rvM hK hw) rfl hl.1 rfl (Nat.le_of_ble_eq_true rfl) dX5_mend_16 ⟨Nat.zero_le _, Nat.zero_le _⟩ hS (fun _ z => z) (fun H25 L25 hw _ _ hS => ?_)
    refine lv_iconst (v := 0) hx hb dX5_mend_19 (by decide) ?_
    refine lv_istore_n (lv' := [(2, .int 0), (0, .ref (am 0)), (1, .int a1)]) hx hb dX5_mend_20 rfl hl (by decide) rfl (fun ls hl => ?_)
    exact hL21 FU a1 0 r24 _ _ _ (lv_sub hl [1, 2, 0] rfl) hw hS h
  · rw [if_pos g23] at h
    refine lv_iconst (v := (-1)) hx hb dX5_mend_9 (by decide) ?_
    cases h
    exact e_zW hx hb hr hlk rfl rfl hw hS dX5_mend_10
def fX5_grudge_L12 (S_12 : OS) : Nat → Int32 → Int32 → Option (Int32 × OS)
  | 0, _, _ => none
  | n_12 + 1, v1_12, v2_12 => if (S_12 1 (0 : Int32).toNatClampNeg) ≤ v2_12 then some (v1_12, S_12) else (fX5_plotOf S_12 9 v2_12).bind (fun r2 => ((fX5_plotOf S_12 8 v2_12).bind (fun r3 => (if r2 < 0 then fX5_grudge_L12 S_12 n_12 (v1_12 + 0) (v2_12 + 1) else if r3 < 0 then fX5_grudge_L12 S_12 n_12 (v1_12 + 0) (v2_12 + 1) else if r2 ≤ r3 then fX5_grudge_L12 S_12 n_12 (v1_12 + 0) (v2_12 + 1) else fX5_grudge_L12 S_12 n_12 (v1_12 + (r2 - r3)) (v2_12 + 1)))))
def fX5_grudge (S : OS) : Option (Int32 × OS) := (fX5_byRight S 1).bind (fun r7 => (fX5_grudge_L12 r7 FU 0 0))
abbrev rmX5_grudge : Room := { frames := 5, cells := 0, slots := 0, locals := 117 }
set_option maxHeartbeats 4000000 in
set_option maxRecDepth 100000 in
theorem c_X5_grudge (l : Launch) (E : En) (am : Nat → Nat) (S : OS) (r : Int32 × OS) (h : fX5_grudge S = some r) : Met l yX5_grudge (kX5_grudge :: BIG) rmX5_grudge (Pk E [.ref (am 0)] (MW E am S)) (QW (some (.int r.1)) (AM am) (MW E am r.2)) 0 0 (AM am) := by
  refine Mb (by decide) (Nat.le_of_ble_eq_true rfl) ?_
  intro p e s m below meth c ls hx hb hr hlk hB hown hml _ hK hw hl
  have hS : va_S (AM am) s.heap s.heap [] := va_S.rf
  have hl : lv_has ls 5 [(0, .ref (am 0))] := hl
  rw [fX5_grudge] at h
  have hL12 : ∀ (n_12 : Nat) (v1_12 : Int32) (v2_12 : Int32) (S_12 : OS) (H_12 : Heap) (L_12 : List Loc) (ls_12 : Array Slot), lv_has ls_12 5 [(0, .ref (am 0)), (1, .int v1_12), (2, .int v2_12)] → MW E am S_12 H_12 → va_S (AM am) s.heap H_12 L_12 → fX5_grudge_L12 S_12 n_12 v1_12 v2_12 = some r → W p l e rmX5_grudge s m ([.ref (am 0)] : List Value).toArray below meth c H_12 L_12 0 0 (MQ below (QW (some (.int r.1)) (AM am) (MW E am r.2)) ([.ref (am 0)] : List Value).toArray s 0 0 (AM am)) (F0 m 12 ls_12 []) := by
    intro n_12
    induction n_12 with
    | zero =>
      intro v1_12 v2_12 S_12 H_12 L_12 ls_12 hl hw hS h
      exact nn h
    | succ n_12 ih_12 =>
      intro v1_12 v2_12 S_12 H_12 L_12 ls_12 hl hw hS h
      rw [fX5_grudge_L12] at h
      refine lv_iload_n hx hb dX5_grudge_12 rfl (lv_at hl 2 rfl) ?_
      refine lv_aload_n hx hb dX5_grudge_13 rfl (lv_at hl 0 rfl) ?_
      refine gX5_7 hx hb hB hown hK hw dX5_grudge_14 ?_
      refine lv_iconst (v := 0) hx hb dX5_grudge_17 (by decide) ?_
      refine lM hx hb hK hw (by decide) (by decide) (ib_ok (by decide)) dX5_grudge_18 ?_
      refine lv_icmp_ge (tgt := 73) hx hb dX5_grudge_19 (by decide) (fun g1 => ?_) (fun g1 => ?_)
      · rw [if_pos g1] at h
        refine lv_iload_n hx hb dX5_grudge_73 rfl (lv_at hl 1 rfl) ?_
        cases h
        exact e_zW hx hb hr hlk rfl rfl hw hS dX5_grudge_74
      · rw [if_neg g1] at h
        refine lv_aload_n hx hb dX5_grudge_22 rfl (lv_at hl 0 rfl) ?_
        refine gX5_34 hx hb hB hown hK hw dX5_grudge_23 ?_
        refine lv_iload_n hx hb dX5_grudge_26 rfl (lv_at hl 2 rfl) ?_
        obtain ⟨r2, e2, h⟩ := ob h
        refine k_SR ⟨hx, hb, hml, hown, hB⟩ (c_X5_plotOf l E am S_12 9 v2_12 (by decide) (by decide) r2 e2) (clX5_154 hB rfl rfl ⟨Nat.le_of_ble_eq_true rfl, Nat.le_of_ble_eq_true rfl⟩) hK hw rfl hl.1 rfl (Nat.le_of_ble_eq_true rfl) dX5_grudge_27 ⟨Nat.zero_le _, Nat.zero_le _⟩ ?_
        refine lv_istore_n (lv' := [(3, .int r2), (0, .ref (am 0)), (1, .int v1_12), (2, .int v2_12)]) hx hb dX5_grudge_30 rfl hl (by decide) rfl (fun ls hl => ?_)
        refine lv_aload_n hx hb dX5_grudge_31 rfl (lv_at hl 1 rfl) ?_
        refine gX5_31 hx hb hB hown hK hw dX5_grudge_32 ?_
        refine lv_iload_n hx hb dX5_grudge_35 rfl (lv_at hl 3 rfl) ?_
        obtain ⟨r3, e3, h⟩ := ob h
        refine k_SR ⟨hx, hb, hml, hown, hB⟩ (c_X5_plotOf l E am S_12 8 v2_12 (by decide) (by decide) r3 e3) (clX5_154 hB rfl rfl ⟨Nat.le_of_ble_eq_true rfl, Nat.le_of_ble_eq_true rfl⟩) hK hw rfl hl.1 rfl (Nat.le_of_ble_eq_true rfl) dX5_grudge_36 ⟨Nat.zero_le _, Nat.zero_le _⟩ ?_
        refine lv_istore (lv' := [(4, .int r3), (3, .int r2), (0, .ref (am 0)), (1, .int v1_12), (2, .int v2_12)]) hx hb dX5_grudge_39 hl (by decide) rfl (fun ls hl => ?_)
        refine lv_iload_n hx hb dX5_grudge_41 rfl (lv_at hl 3 rfl) ?_
        refine lv_iload_n hx hb dX5_grudge_42 rfl (lv_at hl 1 rfl) ?_
        refine lv_if_lt (tgt := 64) hx hb dX5_grudge_43 (by decide) (fun g4 => ?_) (fun g4 => ?_)
        · rw [if_pos g4] at h
          refine lv_iconst (v := 0) hx hb dX5_grudge_64 (by decide) ?_
          refine lv_iadd hx hb dX5_grudge_65 ?_
          refine lv_istore_n (lv' := [(1, .int (v1_12 + 0)), (4, .int r3), (3, .int r2), (0, .ref (am 0)), (2, .int v2_12)]) hx hb dX5_grudge_66 rfl hl (by decide) rfl (fun ls hl => ?_)
          refine lv_iinc (v := (v2_12 + 1)) (lv' := [(2, .int (v2_12 + 1)), (1, .int (v1_12 + 0)), (4, .int r3), (3, .int r2), (0, .ref (am 0))]) hx hb dX5_grudge_67 hl (k := 4) rfl rfl (by decide) rfl (fun ls hl => ?_)
          refine lv_goto (tgt := 12) hx hb dX5_grudge_70 (by decide) ?_
          exact ih_12 (v1_12 + 0) (v2_12 + 1) S_12 _ _ _ (lv_sub hl [4, 1, 0] rfl) hw hS h
        · rw [if_neg g4] at h
          refine lv_iload hx hb dX5_grudge_46 (lv_at hl 0 rfl) ?_
          refine lv_if_lt (tgt := 64) hx hb dX5_grudge_48 (by decide) (fun g5 => ?_) (fun g5 => ?_)
          · rw [if_pos g5] at h
            refine lv_iconst (v := 0) hx hb dX5_grudge_64 (by decide) ?_
            refine lv_iadd hx hb dX5_grudge_65 ?_
            refine lv_istore_n (lv' := [(1, .int (v1_12 + 0)), (4, .int r3), (3, .int r2), (0, .ref (am 0)), (2, .int v2_12)]) hx hb dX5_grudge_66 rfl hl (by decide) rfl (fun ls hl => ?_)
            refine lv_iinc (v := (v2_12 + 1)) (lv' := [(2, .int (v2_12 + 1)), (1, .int (v1_12 + 0)), (4, .int r3), (3, .int r2), (0, .ref (am 0))]) hx hb dX5_grudge_67 hl (k := 4) rfl rfl (by decide) rfl (fun ls hl => ?_)
            refine lv_goto (tgt := 12) hx hb dX5_grudge_70 (by decide) ?_
            exact ih_12 (v1_12 + 0) (v2_12 + 1) S_12 _ _ _ (lv_sub hl [4, 1, 0] rfl) hw hS h
          · rw [if_neg g5] at h
            refine lv_iload hx hb dX5_grudge_51 (lv_at hl 0 rfl) ?_
            refine lv_iload_n hx hb dX5_grudge_53 rfl (lv_at hl 1 rfl) ?_
            refine lv_icmp_ge (tgt := 64) hx hb dX5_grudge_54 (by decide) (fun g6 => ?_) (fun g6 => ?_)
            · rw [if_pos g6] at h
              refine lv_iconst (v := 0) hx hb dX5_grudge_64 (by decide) ?_
              refine lv_iadd hx hb dX5_grudge_65 ?_
              refine lv_istore_n (lv' := [(1, .int (v1_12 + 0)), (4, .int r3), (3, .int r2), (0, .ref (am 0)), (2, .int v2_12)]) hx hb dX5_grudge_66 rfl hl (by decide) rfl (fun ls hl => ?_)
              refine lv_iinc (v := (v2_12 + 1)) (lv' := [(2, .int (v2_12 + 1)), (1, .int (v1_12 + 0)), (4, .int r3), (3, .int r2), (0, .ref (am 0))]) hx hb dX5_grudge_67 hl (k := 4) rfl rfl (by decide) rfl (fun ls hl => ?_)
              refine lv_goto (tgt := 12) hx hb dX5_grudge_70 (by decide) ?_
              exact ih_12 (v1_12 + 0) (v2_12 + 1) S_12 _ _ _ (lv_sub hl [4, 1, 0] rfl) hw hS h
            · rw [if_neg g6] at h
              refine lv_iload_n hx hb dX5_grudge_57 rfl (lv_at hl 1 rfl) ?_
              refine lv_iload hx hb dX5_grudge_58 (lv_at hl 0 rfl) ?_
              refine lv_isub hx hb dX5_grudge_60 ?_
              refine lv_goto (tgt := 65) hx hb dX5_grudge_61 (by decide) ?_
              refine lv_iadd hx hb dX5_grudge_65 ?_
              refine lv_istore_n (lv' := [(1, .int (v1_12 + (r2 - r3))), (4, .int r3), (3, .int r2), (0, .ref (am 0)), (2, .int v2_12)]) hx hb dX5_grudge_66 rfl hl (by decide) rfl (fun ls hl => ?_)
              refine lv_iinc (v := (v2_12 + 1)) (lv' := [(2, .int (v2_12 + 1)), (1, .int (v1_12 + (r2 - r3))), (4, .int r3), (3, .int r2), (0, .ref (am 0))]) hx hb dX5_grudge_67 hl (k := 4) rfl rfl (by decide) rfl (fun ls hl => ?_)
              refine lv_goto (tgt := 12) hx hb dX5_grudge_70 (by decide) ?_
              exact ih_12 (v1_12 + (r2 - r3)) (v2_12 + 1) S_12 _ _ _ (lv_sub hl [4, 1, 0] rfl) hw hS h
  refine lv_aload_n hx hb dX5_grudge_0 rfl (lv_at hl 0 rfl) ?_
  refine lv_aload_n hx hb dX5_grudge_1 rfl (lv_at hl 0 rfl) ?_
  refine gX5_7 hx hb hB hown hK hw dX5_grudge_2 ?_
  obtain ⟨r7, e7, h⟩ := ob h
  refine k_VWv ⟨hx, hb, hml, hown, hB⟩ (c_X5_byRight l E am S 1 (by decide) (by decide) r7 e7) (clX5_185 hB rfl rfl ⟨Nat.le_of_ble_eq_true rfl, Nat.le_of_ble_eq_true rfl⟩) hK hw (rvM hK hw) rfl hl.1 rfl (Nat.le_of_ble_eq_true rfl) dX5_grudge_5 ⟨Nat.zero_le _, Nat.zero_le _⟩ hS (fun _ z => z) (fun H8 L8 hw _ _ hS => ?_)
  refine lv_iconst (v := 0) hx hb dX5_grudge_8 (by decide) ?_
  refine lv_istore_n (lv' := [(1, .int 0), (0, .ref (am 0))]) hx hb dX5_grudge_9 rfl hl (by decide) rfl (fun ls hl => ?_)
  refine lv_iconst (v := 0) hx hb dX5_grudge_10 (by decide) ?_
  refine lv_istore_n (lv' := [(2, .int 0), (1, .int 0), (0, .ref (am 0))]) hx hb dX5_grudge_11 rfl hl (by decide) rfl (fun ls hl => ?_)
  exact hL12 FU 0 0 r7 _ _ _ (lv_sub hl [2, 1, 0] rfl) hw hS h
def fX5_findGuests_L7 (v1_7 : Int32) : Nat → Int32 → OS → Option (OS)
  | 0, _, _ => none
  | n_7 + 1, v2_7, S_7 => if (S_7 1 (53 : Int32).toNatClampNeg) ≤ v2_7 then some (S_7) else (fX5_has v1_7 v2_7).bind (fun r2 => (if r2 = 0 then fX5_findGuests_L7 v1_7 n_7 (v2_7 + 1) S_7 else gB (ib (54 + (2 * v2_7)) 66) ((fX5_plotOf S_7 1 (S_7 1 (54 + (2 * v2_7)).toNatClampNeg)).bind (fun r5 => (if r5 < 0 then fX5_findGuests_L7 v1_7 n_7 (v2_7 + 1) S_7 else gB (ib (S_7 0 20) 6) (fX5_findGuests_L7 v1_7 n_7 (v2_7 + 1) (u2 (u2 S_7 10 (S_7 0 20).toNatClampNeg v2_7) 0 20 (((u2 S_7 10 (S_7 0 20).toNatClampNeg v2_7) 0 20) + 1))))))))
def fX5_findGuests (S : OS) (a1 : Int32) : Option (OS) := fX5_findGuests_L7 a1 FU 0 (u2 S 0 20 0)
abbrev rmX5_findGuests : Room := { frames := 2, cells := 0, slots := 0, locals := 44 }
set_option maxHeartbeats 4000000 in
set_option maxRecDepth 100000 in
theorem c_X5_findGuests (l : Launch) (E : En) (am : Nat → Nat) (S : OS) (a1 : Int32) (r : OS) (h : fX5_findGuests S a1 = some r) : Met l yX5_findGuests (kX5_findGuests :: BIG) rmX5_findGuests (Pk E [.ref (am 0), .int a1] (MW E am S)) (QW none (AM am) (MW E am r)) 0 0 (AM am) := by
  refine Mb (by decide) (Nat.le_of_ble_eq_true rfl) ?_
  intro p e s m below meth c ls hx hb hr hlk hB hown hml _ hK hw hl
  have hS : va_S (AM am) s.heap s.heap [] := va_S.rf
  have hl : lv_has ls 3 [(0, .ref (am 0)), (1, .int a1)] := hl
  rw [fX5_findGuests] at h
  have hL7 : ∀ (n_7 : Nat) (v1_7 : Int32) (v2_7 : Int32) (S_7 : OS) (H_7 : Heap) (L_7 : List Loc) (ls_7 : Array Slot), lv_has ls_7 3 [(0, .ref (am 0)), (1, .int v1_7), (2, .int v2_7)] → MW E am S_7 H_7 → va_S (AM am) s.heap H_7 L_7 → fX5_findGuests_L7 v1_7 n_7 v2_7 S_7 = some r → W p l e rmX5_findGuests s m ([.ref (am 0), .int a1] : List Value).toArray below meth c H_7 L_7 0 0 (MQ below (QW none (AM am) (MW E am r)) ([.ref (am 0), .int a1] : List Value).toArray s 0 0 (AM am)) (F0 m 7 ls_7 []) := by
    intro n_7
    induction n_7 with
    | zero =>
      intro v1_7 v2_7 S_7 H_7 L_7 ls_7 hl hw hS h
      exact nn h
    | succ n_7 ih_7 =>
      intro v1_7 v2_7 S_7 H_7 L_7 ls_7 hl hw hS h
      rw [fX5_findGuests_L7] at h
      refine lv_iload_n hx hb dX5_findGuests_7 rfl (lv_at hl 2 rfl) ?_
      refine lv_aload_n hx hb dX5_findGuests_8 rfl (lv_at hl 0 rfl) ?_
      refine gX5_7 hx hb hB hown hK hw dX5_findGuests_9 ?_
      refine lv_bipush (v := 53) hx hb dX5_findGuests_12 (by decide) ?_
      refine lM hx hb hK hw (by decide) (by decide) (ib_ok (by decide)) dX5_findGuests_14 ?_
      refine lv_icmp_ge (tgt := 73) hx hb dX5_findGuests_15 (by decide) (fun g1 => ?_) (fun g1 => ?_)
      · rw [if_pos g1] at h
        cases h
        exact e_vW hx hb hr hlk hw hS dX5_findGuests_73
      · rw [if_neg g1] at h
        refine lv_iload_n hx hb dX5_findGuests_18 rfl (lv_at hl 1 rfl) ?_
        refine lv_iload_n hx hb dX5_findGuests_19 rfl (lv_at hl 2 rfl) ?_
        obtain ⟨r2, e2, h⟩ := ob h
        refine k_SR ⟨hx, hb, hml, hown, hB⟩ (c_X5_has l E v1_7 v2_7 r2 e2) (clX5_194 hB rfl rfl ⟨Nat.le_of_ble_eq_true rfl, Nat.le_of_ble_eq_true rfl⟩) hK trivial rfl hl.1 rfl (Nat.le_of_ble_eq_true rfl) dX5_findGuests_20 ⟨Nat.zero_le _, Nat.zero_le _⟩ ?_
        refine lv_if_eq (tgt := 67) hx hb dX5_findGuests_23 (by decide) (fun g3 => ?_) (fun g3 => ?_)
        · rw [if_pos g3] at h
          refine lv_iinc (v := (v2_7 + 1)) (lv' := [(2, .int (v2_7 + 1)), (0, .ref (am 0)), (1, .int v1_7)]) hx hb dX5_findGuests_67 hl (k := 2) rfl rfl (by decide) rfl (fun ls hl => ?_)
          refine lv_goto (tgt := 7) hx hb dX5_findGuests_70 (by decide) ?_
          exact ih_7 v1_7 (v2_7 + 1) S_7 _ _ _ (lv_sub hl [1, 2, 0] rfl) hw hS h
        · rw [if_neg g3] at h
          refine lv_aload_n hx hb dX5_findGuests_26 rfl (lv_at hl 0 rfl) ?_
          refine gX5_7 hx hb hB hown hK hw dX5_findGuests_27 ?_
          refine lv_aload_n hx hb dX5_findGuests_30 rfl (lv_at hl 0 rfl) ?_
          refine gX5_7 hx hb hB hown hK hw dX5_findGuests_31 ?_
          refine lv_bipush (v := 54) hx hb dX5_findGuests_34 (by decide) ?_
          refine lv_iconst (v := 2) hx hb dX5_findGuests_36 (by decide) ?_
          refine lv_iload_n hx hb dX5_findGuests_37 rfl (lv_at hl 2 rfl) ?_
          refine lv_imul hx hb dX5_findGuests_38 ?_
          refine lv_iadd hx hb dX5_findGuests_39 ?_
          obtain ⟨g4, h⟩ := gB_ok h
          refine lM hx hb hK hw (by decide) (by decide) (ib_ok g4) dX5_findGuests_40 ?_
          obtain ⟨r5, e5, h⟩ := ob h
          refine k_SR ⟨hx, hb, hml, hown, hB⟩ (c_X5_plotOf l E am S_7 1 (S_7 1 (54 + (2 * v2_7)).toNatClampNeg) (by decide) (by decide) r5 e5) (clX5_154 hB rfl rfl ⟨Nat.le_of_ble_eq_true rfl, Nat.le_of_ble_eq_true rfl⟩) hK hw rfl hl.1 rfl (Nat.le_of_ble_eq_true rfl) dX5_findGuests_41 ⟨Nat.zero_le _, Nat.zero_le _⟩ ?_
          refine lv_if_lt (tgt := 67) hx hb dX5_findGuests_44 (by decide) (fun g6 => ?_) (fun g6 => ?_)
          · rw [if_pos g6] at h
            refine lv_iinc (v := (v2_7 + 1)) (lv' := [(2, .int (v2_7 + 1)), (0, .ref (am 0)), (1, .int v1_7)]) hx hb dX5_findGuests_67 hl (k := 2) rfl rfl (by decide) rfl (fun ls hl => ?_)
            refine lv_goto (tgt := 7) hx hb dX5_findGuests_70 (by decide) ?_
            exact ih_7 v1_7 (v2_7 + 1) S_7 _ _ _ (lv_sub hl [1, 2, 0] rfl) hw hS h
          · rw [if_neg g6] at h
            refine lv_aload_n hx hb dX5_findGuests_47 rfl (lv_at hl 0 rfl) ?_
            refine gX5_37 hx hb hB hown hK hw dX5_findGuests_48 ?_
            refine lv_aload_n hx hb dX5_findGuests_51 rfl (lv_at hl 0 rfl) ?_
            refine gX5_191 hx hb hB hown hK hw dX5_findGuests_52 ?_
            refine lv_iload_n hx hb dX5_findGuests_55 rfl (lv_at hl 2 rfl) ?_
            obtain ⟨g7, h⟩ := gB_ok h
            refine sM hx hb hK hw hS (fun _ z => z) (by decide) (by decide) (ib_ok g7) dX5_findGuests_56 (fun H8 L8 hw hS => ?_)
            refine lv_aload_n hx hb dX5_findGuests_57 rfl (lv_at hl 0 rfl) ?_
            refine lv_dup hx hb dX5_findGuests_58 rfl ?_
            refine gX5_191 hx hb hB hown hK hw dX5_findGuests_59 ?_
            refine lv_iconst (v := 1) hx hb dX5_findGuests_62 (by decide) ?_
            refine lv_iadd hx hb dX5_findGuests_63 ?_
            refine pX5_191 hx hb hB hown hK hw hS (fun _ z => z) dX5_findGuests_64 (fun H9 L9 hw hS => ?_)
            refine lv_iinc (v := (v2_7 + 1)) (lv' := [(2, .int (v2_7 + 1)), (0, .ref (am 0)), (1, .int v1_7)]) hx hb dX5_findGuests_67 hl (k := 2) rfl rfl (by decide) rfl (fun ls hl => ?_)
            refine lv_goto (tgt := 7) hx hb dX5_findGuests_70 (by decide) ?_
            exact ih_7 v1_7 (v2_7 + 1) (u2 (u2 S_7 10 (S_7 0 20).toNatClampNeg v2_7) 0 20 (((u2 S_7 10 (S_7 0 20).toNatClampNeg v2_7) 0 20) + 1)) _ _ _ (lv_sub hl [1, 2, 0] rfl) hw hS h
  refine lv_aload_n hx hb dX5_findGuests_0 rfl (lv_at hl 0 rfl) ?_
  refine lv_iconst (v := 0) hx hb dX5_findGuests_1 (by decide) ?_
  refine pX5_191 hx hb hB hown hK hw hS (fun _ z => z) dX5_findGuests_2 (fun H10 L10 hw hS => ?_)
  refine lv_iconst (v := 0) hx hb dX5_findGuests_5 (by decide) ?_
  refine lv_istore_n (lv' := [(2, .int 0), (0, .ref (am 0)), (1, .int a1)]) hx hb dX5_findGuests_6 rfl hl (by decide) rfl (fun ls hl => ?_)
  exact hL7 FU a1 0 (u2 S 0 20 0) _ _ _ (lv_sub hl [1, 2, 0] rfl) hw hS h
def fX5_comesBack (S : OS) : Option (OS) := gB (ib (54 + (2 * (S 0 22))) 66) ((fX5_plotOf S 1 (S 1 (54 + (2 * (S 0 22))).toNatClampNeg)).bind (fun r2 => (if (((S 0 23) + r2) + 1) ≤ (S 0 21) then gB (ib ((54 + (2 * (S 0 22))) + 1) 66) (some ((u2 S 0 21 ((S 0 21) + (S 1 ((54 + (2 * (S 0 22))) + 1).toNatClampNeg))))) else gB (ib ((54 + (2 * (S 0 22))) + 1) 66) (some ((u2 S 0 21 ((((S 0 23) + r2) + 1) + (S 1 ((54 + (2 * (S 0 22))) + 1).toNatClampNeg))))))))
abbrev rmX5_comesBack : Room := { frames := 2, cells := 0, slots := 0, locals := 44 }
set_option maxHeartbeats 4000000 in
set_option maxRecDepth 100000 in
theorem c_X5_comesBack (l : Launch) (E : En) (am : Nat → Nat) (S : OS) (r : OS) (h : fX5_comesBack S = some r) : Met l yX5_comesBack (kX5_comesBack :: BIG) rmX5_comesBack (Pk E [.ref (am 0)] (MW E am S)) (QW none (AM am) (MW E am r)) 0 0 (AM am) := by
  refine Mb (by decide) (Nat.le_of_ble_eq_true rfl) ?_
  intro p e s m below meth c ls hx hb hr hlk hB hown hml _ hK hw hl
  have hS : va_S (AM am) s.heap s.heap [] := va_S.rf
  have hl : lv_has ls 2 [(0, .ref (am 0))] := hl
  rw [fX5_comesBack] at h
  refine lv_aload_n hx hb dX5_comesBack_0 rfl (lv_at hl 0 rfl) ?_
  refine gX5_198 hx hb hB hown hK hw dX5_comesBack_1 ?_
  refine lv_aload_n hx hb dX5_comesBack_4 rfl (lv_at hl 0 rfl) ?_
  refine gX5_7 hx hb hB hown hK hw dX5_comesBack_5 ?_
  refine lv_aload_n hx hb dX5_comesBack_8 rfl (lv_at hl 0 rfl) ?_
  refine gX5_7 hx hb hB hown hK hw dX5_comesBack_9 ?_
  refine lv_bipush (v := 54) hx hb dX5_comesBack_12 (by decide) ?_
  refine lv_iconst (v := 2) hx hb dX5_comesBack_14 (by decide) ?_
  refine lv_aload_n hx hb dX5_comesBack_15 rfl (lv_at hl 0 rfl) ?_
  refine gX5_201 hx hb hB hown hK hw dX5_comesBack_16 ?_
  refine lv_imul hx hb dX5_comesBack_19 ?_
  refine lv_iadd hx hb dX5_comesBack_20 ?_
  obtain ⟨g1, h⟩ := gB_ok h
  refine lM hx hb hK hw (by decide) (by decide) (ib_ok g1) dX5_comesBack_21 ?_
  obtain ⟨r2, e2, h⟩ := ob h
  refine k_SR ⟨hx, hb, hml, hown, hB⟩ (c_X5_plotOf l E am S 1 (S 1 (54 + (2 * (S 0 22))).toNatClampNeg) (by decide) (by decide) r2 e2) (clX5_154 hB rfl rfl ⟨Nat.le_of_ble_eq_true rfl, Nat.le_of_ble_eq_true rfl⟩) hK hw rfl hl.1 rfl (Nat.le_of_ble_eq_true rfl) dX5_comesBack_22 ⟨Nat.zero_le _, Nat.zero_le _⟩ ?_
  refine lv_iadd hx hb dX5_comesBack_25 ?_
  refine lv_iconst (v := 1) hx hb dX5_comesBack_26 (by decide) ?_
  refine lv_iadd hx hb dX5_comesBack_27 ?_
  refine lv_istore_n (lv' := [(1, .int (((S 0 23) + r2) + 1)), (0, .ref (am 0))]) hx hb dX5_comesBack_28 rfl hl (by decide) rfl (fun ls hl => ?_)
  refine lv_aload_n hx hb dX5_comesBack_29 rfl (lv_at hl 1 rfl) ?_
  refine lv_iload_n hx hb dX5_comesBack_30 rfl (lv_at hl 0 rfl) ?_
  refine lv_aload_n hx hb dX5_comesBack_31 rfl (lv_at hl 1 rfl) ?_
  refine gX5_204 hx hb hB hown hK hw dX5_comesBack_32 ?_
  refine lv_icmp_le (tgt := 42) hx hb dX5_comesBack_35 (by decide) (fun g3 => ?_) (fun g3 => ?_)
  · rw [if_pos g3] at h
    refine lv_aload_n hx hb dX5_comesBack_42 rfl (lv_at hl 1 rfl) ?_
    refine gX5_204 hx hb hB hown hK hw dX5_comesBack_43 ?_
    refine lv_aload_n hx hb dX5_comesBack_46 rfl (lv_at hl 1 rfl) ?_
    refine gX5_7 hx hb hB hown hK hw dX5_comesBack_47 ?_
    refine lv_bipush (v := 54) hx hb dX5_comesBack_50 (by decide) ?_
    refine lv_iconst (v := 2) hx hb dX5_comesBack_52 (by decide) ?_
    refine lv_aload_n hx hb dX5_comesBack_53 rfl (lv_at hl 1 rfl) ?_
    refine gX5_201 hx hb hB hown hK hw dX5_comesBack_54 ?_
    refine lv_imul hx hb dX5_comesBack_57 ?_
    refine lv_iadd hx hb dX5_comesBack_58 ?_
    refine lv_iconst (v := 1) hx hb dX5_comesBack_59 (by decide) ?_
    refine lv_iadd hx hb dX5_comesBack_60 ?_
    obtain ⟨g4, h⟩ := gB_ok h
    refine lM hx hb hK hw (by decide) (by decide) (ib_ok g4) dX5_comesBack_61 ?_
    refine lv_iadd hx hb dX5_comesBack_62 ?_
    refine pX5_204 hx hb hB hown hK hw hS (fun _ z => z) dX5_comesBack_63 (fun H5 L5 hw hS => ?_)
    cases h
    exact e_vW hx hb hr hlk hw hS dX5_comesBack_66
  · rw [if_neg g3] at h
    refine lv_iload_n hx hb dX5_comesBack_38 rfl (lv_at hl 0 rfl) ?_
    refine lv_goto (tgt := 46) hx hb dX5_comesBack_39 (by decide) ?_
    refine lv_aload_n hx hb dX5_comesBack_46 rfl (lv_at hl 1 rfl) ?_
    refine gX5_7 hx hb hB hown hK hw dX5_comesBack_47 ?_
    refine lv_bipush (v := 54) hx hb dX5_comesBack_50 (by decide) ?_
    refine lv_iconst (v := 2) hx hb dX5_comesBack_52 (by decide) ?_
    refine lv_aload_n hx hb dX5_comesBack_53 rfl (lv_at hl 1 rfl) ?_
    refine gX5_201 hx hb hB hown hK hw dX5_comesBack_54 ?_
    refine lv_imul hx hb dX5_comesBack_57 ?_
    refine lv_iadd hx hb dX5_comesBack_58 ?_
    refine lv_iconst (v := 1) hx hb dX5_comesBack_59 (by decide) ?_
    refine lv_iadd hx hb dX5_comesBack_60 ?_
    obtain ⟨g6, h⟩ := gB_ok h
    refine lM hx hb hK hw (by decide) (by decide) (ib_ok g6) dX5_comesBack_61 ?_
    refine lv_iadd hx hb dX5_comesBack_62 ?_
    refine pX5_204 hx hb hB hown hK hw hS (fun _ z => z) dX5_comesBack_63 (fun H7 L7 hw hS => ?_)
    cases h
    exact e_vW hx hb hr hlk hw hS dX5_comesBack_66
def fX5_villageOf (S : OS) (a1 : Int32) : Option (Int32) := gB (ib (54 + (2 * a1)) 66) (gB (ib (1 + (3 * (S 1 (54 + (2 * a1)).toNatClampNeg))) 66) (some (S 1 (1 + (3 * (S 1 (54 + (2 * a1)).toNatClampNeg))).toNatClampNeg)))
abbrev rmX5_villageOf : Room := { frames := 0, cells := 0, slots := 0, locals := 0 }
set_option maxHeartbeats 4000000 in
set_option maxRecDepth 100000 in
theorem c_X5_villageOf (l : Launch) (E : En) (am : Nat → Nat) (S : OS) (a1 : Int32) (r : Int32) (h : fX5_villageOf S a1 = some r) : Met l yX5_villageOf (kX5_villageOf :: BIG) rmX5_villageOf (Pk E [.ref (am 0), .int a1] (MW E am S)) (QcRead r) 0 0 (fun _ => False) := by
  refine Mb (by decide) (Nat.le_of_ble_eq_true rfl) ?_
  intro p e s m below meth c ls hx hb hr hlk hB hown hml _ hK hw hl
  have hl : lv_has ls 2 [(0, .ref (am 0)), (1, .int a1)] := hl
  rw [fX5_villageOf] at h
  refine lv_aload_n hx hb dX5_villageOf_0 rfl (lv_at hl 0 rfl) ?_
  refine gX5_7 hx hb hB hown hK hw dX5_villageOf_1 ?_
  refine lv_iconst (v := 1) hx hb dX5_villageOf_4 (by decide) ?_
  refine lv_iconst (v := 3) hx hb dX5_villageOf_5 (by decide) ?_
  refine lv_aload_n hx hb dX5_villageOf_6 rfl (lv_at hl 0 rfl) ?_
  refine gX5_7 hx hb hB hown hK hw dX5_villageOf_7 ?_
  refine lv_bipush (v := 54) hx hb dX5_villageOf_10 (by decide) ?_
  refine lv_iconst (v := 2) hx hb dX5_villageOf_12 (by decide) ?_
  refine lv_iload_n hx hb dX5_villageOf_13 rfl (lv_at hl 1 rfl) ?_
  refine lv_imul hx hb dX5_villageOf_14 ?_
  refine lv_iadd hx hb dX5_villageOf_15 ?_
  obtain ⟨g1, h⟩ := gB_ok h
  refine lM hx hb hK hw (by decide) (by decide) (ib_ok g1) dX5_villageOf_16 ?_
  refine lv_imul hx hb dX5_villageOf_17 ?_
  refine lv_iadd hx hb dX5_villageOf_18 ?_
  obtain ⟨g2, h⟩ := gB_ok h
  refine lM hx hb hK hw (by decide) (by decide) (ib_ok g2) dX5_villageOf_19 ?_
  exact e_zR hx hb hr hlk rfl h dX5_villageOf_20
def fX5_takesSo_L13 : Nat → Int32 → OS → Option (Int32 × OS)
  | 0, _, _ => none
  | n_13 + 1, v1_13, S_13 => if (S_13 0 20) ≤ v1_13 then if (S_13 0 22) < 0 then some ((S_13 0 21), S_13) else (fX5_comesBack S_13).bind (fun r3 => (some ((r3 0 21), r3))) else gB (ib v1_13 6) (if (S_13 0 22) < 0 then if (S_13 0 22) < 0 then gB (ib ((54 + (2 * (S_13 11 v1_13.toNatClampNeg))) + 1) 66) (fX5_takesSo_L13 n_13 (v1_13 + 1) (u2 (u2 (u2 S_13 0 21 ((S_13 0 21) + (S_13 1 ((54 + (2 * (S_13 11 v1_13.toNatClampNeg))) + 1).toNatClampNeg))) 0 22 (S_13 11 v1_13.toNatClampNeg)) 0 23 ((u2 S_13 0 21 ((S_13 0 21) + (S_13 1 ((54 + (2 * (S_13 11 v1_13.toNatClampNeg))) + 1).toNatClampNeg))) 0 21))) else (fX5_comesBack S_13).bind (fun r12 => (gB (ib ((54 + (2 * (S_13 11 v1_13.toNatClampNeg))) + 1) 66) (fX5_takesSo_L13 n_13 (v1_13 + 1) (u2 (u2 (u2 r12 0 21 ((r12 0 21) + (r12 1 ((54 + (2 * (S_13 11 v1_13.toNatClampNeg))) + 1).toNatClampNeg))) 0 22 (S_13 11 v1_13.toNatClampNeg)) 0 23 ((u2 r12 0 21 ((r12 0 21) + (r12 1 ((54 + (2 * (S_13 11 v1_13.toNatClampNeg))) + 1).toNatClampNeg))) 0 21))))) else (fX5_villageOf S_13 (S_13 0 22)).bind (fun r18 => ((fX5_villageOf S_13 (S_13 11 v1_13.toNatClampNeg)).bind (fun r19 => (if r18 = r19 then if (S_13 0 22) < 0 then gB (ib ((54 + (2 * (S_13 11 v1_13.toNatClampNeg))) + 1) 66) (fX5_takesSo_L13 n_13 (v1_13 + 1) (u2 (u2 (u2 S_13 0 21 ((S_13 0 21) + (S_13 1 ((54 + (2 * (S_13 11 v1_13.toNatClampNeg))) + 1).toNatClampNeg))) 0 22 (S_13 11 v1_13.toNatClampNeg)) 0 23 ((u2 S_13 0 21 ((S_13 0 21) + (S_13 1 ((54 + (2 * (S_13 11 v1_13.toNatClampNeg))) + 1).toNatClampNeg))) 0 21))) else (fX5_comesBack S_13).bind (fun r26 => (gB (ib ((54 + (2 * (S_13 11 v1_13.toNatClampNeg))) + 1) 66) (fX5_takesSo_L13 n_13 (v1_13 + 1) (u2 (u2 (u2 r26 0 21 ((r26 0 21) + (r26 1 ((54 + (2 * (S_13 11 v1_13.toNatClampNeg))) + 1).toNatClampNeg))) 0 22 (S_13 11 v1_13.toNatClampNeg)) 0 23 ((u2 r26 0 21 ((r26 0 21) + (r26 1 ((54 + (2 * (S_13 11 v1_13.toNatClampNeg))) + 1).toNatClampNeg))) 0 21))))) else if (S_13 0 22) < 0 then gB (ib ((54 + (2 * (S_13 11 v1_13.toNatClampNeg))) + 1) 66) ((fX5_comesBack (u2 S_13 0 21 ((S_13 0 21) + (S_13 1 ((54 + (2 * (S_13 11 v1_13.toNatClampNeg))) + 1).toNatClampNeg)))).bind (fun r35 => (fX5_takesSo_L13 n_13 (v1_13 + 1) (u2 (u2 r35 0 22 (S_13 11 v1_13.toNatClampNeg)) 0 23 ((u2 S_13 0 21 ((S_13 0 21) + (S_13 1 ((54 + (2 * (S_13 11 v1_13.toNatClampNeg))) + 1).toNatClampNeg))) 0 21))))) else gB (ib ((54 + (2 * (S_13 11 v1_13.toNatClampNeg))) + 1) 66) ((fX5_comesBack (u2 S_13 0 21 ((S_13 0 21) + (S_13 1 ((54 + (2 * (S_13 11 v1_13.toNatClampNeg))) + 1).toNatClampNeg)))).bind (fun r41 => (fX5_takesSo_L13 n_13 (v1_13 + 1) (u2 (u2 r41 0 22 (S_13 11 v1_13.toNatClampNeg)) 0 23 ((u2 S_13 0 21 ((S_13 0 21) + (S_13 1 ((54 + (2 * (S_13 11 v1_13.toNatClampNeg))) + 1).toNatClampNeg))) 0 21))))))))))
def fX5_takesSo (S : OS) : Option (Int32 × OS) := fX5_takesSo_L13 FU 0 (u2 (u2 S 0 21 0) 0 22 (-4))
abbrev rmX5_takesSo : Room := { frames := 3, cells := 0, slots := 0, locals := 65 }
set_option maxHeartbeats 4000000 in
set_option maxRecDepth 100000 in
theorem c_X5_takesSo (l : Launch) (E : En) (am : Nat → Nat) (S : OS) (r : Int32 × OS) (h : fX5_takesSo S = some r) : Met l yX5_takesSo (kX5_takesSo :: BIG) rmX5_takesSo (Pk E [.ref (am 0)] (MW E am S)) (QW (some (.int r.1)) (AM am) (MW E am r.2)) 0 0 (AM am) := by
  refine Mb (by decide) (Nat.le_of_ble_eq_true rfl) ?_
  intro p e s m below meth c ls hx hb hr hlk hB hown hml _ hK hw hl
  have hS : va_S (AM am) s.heap s.heap [] := va_S.rf
  have hl : lv_has ls 5 [(0, .ref (am 0))] := hl
  rw [fX5_takesSo] at h
  have hL13 : ∀ (n_13 : Nat) (v1_13 : Int32) (S_13 : OS) (H_13 : Heap) (L_13 : List Loc) (ls_13 : Array Slot), lv_has ls_13 5 [(0, .ref (am 0)), (1, .int v1_13)] → MW E am S_13 H_13 → va_S (AM am) s.heap H_13 L_13 → fX5_takesSo_L13 n_13 v1_13 S_13 = some r → W p l e rmX5_takesSo s m ([.ref (am 0)] : List Value).toArray below meth c H_13 L_13 0 0 (MQ below (QW (some (.int r.1)) (AM am) (MW E am r.2)) ([.ref (am 0)] : List Value).toArray s 0 0 (AM am)) (F0 m 13 ls_13 []) := by
    intro n_13
    induction n_13 with
    | zero =>
      intro v1_13 S_13 H_13 L_13 ls_13 hl hw hS h
      exact nn h
    | succ n_13 ih_13 =>
      intro v1_13 S_13 H_13 L_13 ls_13 hl hw hS h
      rw [fX5_takesSo_L13] at h
      refine lv_iload_n hx hb dX5_takesSo_13 rfl (lv_at hl 1 rfl) ?_
      refine lv_aload_n hx hb dX5_takesSo_14 rfl (lv_at hl 0 rfl) ?_
      refine gX5_191 hx hb hB hown hK hw dX5_takesSo_15 ?_
      refine lv_icmp_ge (tgt := 125) hx hb dX5_takesSo_18 (by decide) (fun g1 => ?_) (fun g1 => ?_)
      · rw [if_pos g1] at h
        refine lv_aload_n hx hb dX5_takesSo_125 rfl (lv_at hl 0 rfl) ?_
        refine gX5_201 hx hb hB hown hK hw dX5_takesSo_126 ?_
        refine lv_if_lt (tgt := 136) hx hb dX5_takesSo_129 (by decide) (fun g2 => ?_) (fun g2 => ?_)
        · rw [if_pos g2] at h
          refine lv_aload_n hx hb dX5_takesSo_136 rfl (lv_at hl 0 rfl) ?_
          refine gX5_204 hx hb hB hown hK hw dX5_takesSo_137 ?_
          cases h
          exact e_zW hx hb hr hlk rfl rfl hw hS dX5_takesSo_140
        · rw [if_neg g2] at h
          refine lv_aload_n hx hb dX5_takesSo_132 rfl (lv_at hl 0 rfl) ?_
          obtain ⟨r3, e3, h⟩ := ob h
          refine k_VWv ⟨hx, hb, hml, hown, hB⟩ (c_X5_comesBack l E am S_13 r3 e3) (clX5_210 hB rfl rfl ⟨Nat.le_of_ble_eq_true rfl, Nat.le_of_ble_eq_true rfl⟩) hK hw (rvM hK hw) rfl hl.1 rfl (Nat.le_of_ble_eq_true rfl) dX5_takesSo_133 ⟨Nat.zero_le _, Nat.zero_le _⟩ hS (fun _ z => z) (fun H4 L4 hw _ _ hS => ?_)
          refine lv_aload_n hx hb dX5_takesSo_136 rfl (lv_at hl 0 rfl) ?_
          refine gX5_204 hx hb hB hown hK hw dX5_takesSo_137 ?_
          cases h
          exact e_zW hx hb hr hlk rfl rfl hw hS dX5_takesSo_140
      · rw [if_neg g1] at h
        refine lv_aload_n hx hb dX5_takesSo_21 rfl (lv_at hl 0 rfl) ?_
        refine gX5_40 hx hb hB hown hK hw dX5_takesSo_22 ?_
        refine lv_iload_n hx hb dX5_takesSo_25 rfl (lv_at hl 1 rfl) ?_
        obtain ⟨g5, h⟩ := gB_ok h
        refine lM hx hb hK hw (by decide) (by decide) (ib_ok g5) dX5_takesSo_26 ?_
        refine lv_istore_n (lv' := [(2, .int (S_13 11 v1_13.toNatClampNeg)), (0, .ref (am 0)), (1, .int v1_13)]) hx hb dX5_takesSo_27 rfl hl (by decide) rfl (fun ls hl => ?_)
        refine lv_aload_n hx hb dX5_takesSo_28 rfl (lv_at hl 1 rfl) ?_
        refine gX5_201 hx hb hB hown hK hw dX5_takesSo_29 ?_
        refine lv_if_lt (tgt := 55) hx hb dX5_takesSo_32 (by decide) (fun g6 => ?_) (fun g6 => ?_)
        · rw [if_pos g6] at h
          refine lv_iconst (v := 0) hx hb dX5_takesSo_55 (by decide) ?_
          refine lv_istore_n (lv' := [(3, .int 0), (2, .int (S_13 11 v1_13.toNatClampNeg)), (0, .ref (am 0)), (1, .int v1_13)]) hx hb dX5_takesSo_56 rfl hl (by decide) rfl (fun ls hl => ?_)
          refine lv_aload_n hx hb dX5_takesSo_57 rfl (lv_at hl 2 rfl) ?_
          refine gX5_201 hx hb hB hown hK hw dX5_takesSo_58 ?_
          refine lv_if_lt (tgt := 72) hx hb dX5_takesSo_61 (by decide) (fun g7 => ?_) (fun g7 => ?_)
          · rw [if_pos g7] at h
            refine lv_aload_n hx hb dX5_takesSo_72 rfl (lv_at hl 2 rfl) ?_
            refine lv_dup hx hb dX5_takesSo_73 rfl ?_
            refine gX5_204 hx hb hB hown hK hw dX5_takesSo_74 ?_
            refine lv_aload_n hx hb dX5_takesSo_77 rfl (lv_at hl 2 rfl) ?_
            refine gX5_7 hx hb hB hown hK hw dX5_takesSo_78 ?_
            refine lv_bipush (v := 54) hx hb dX5_takesSo_81 (by decide) ?_
            refine lv_iconst (v := 2) hx hb dX5_takesSo_83 (by decide) ?_
            refine lv_iload_n hx hb dX5_takesSo_84 rfl (lv_at hl 1 rfl) ?_
            refine lv_imul hx hb dX5_takesSo_85 ?_
            refine lv_iadd hx hb dX5_takesSo_86 ?_
            refine lv_iconst (v := 1) hx hb dX5_takesSo_87 (by decide) ?_
            refine lv_iadd hx hb dX5_takesSo_88 ?_
            obtain ⟨g8, h⟩ := gB_ok h
            refine lM hx hb hK hw (by decide) (by decide) (ib_ok g8) dX5_takesSo_89 ?_
            refine lv_iadd hx hb dX5_takesSo_90 ?_
            refine pX5_204 hx hb hB hown hK hw hS (fun _ z => z) dX5_takesSo_91 (fun H9 L9 hw hS => ?_)
            refine lv_aload_n hx hb dX5_takesSo_94 rfl (lv_at hl 2 rfl) ?_
            refine gX5_204 hx hb hB hown hK hw dX5_takesSo_95 ?_
            refine lv_istore (lv' := [(4, .int ((u2 S_13 0 21 ((S_13 0 21) + (S_13 1 ((54 + (2 * (S_13 11 v1_13.toNatClampNeg))) + 1).toNatClampNeg))) 0 21)), (3, .int 0), (2, .int (S_13 11 v1_13.toNatClampNeg)), (0, .ref (am 0)), (1, .int v1_13)]) hx hb dX5_takesSo_98 hl (by decide) rfl (fun ls hl => ?_)
            refine lv_iload_n hx hb dX5_takesSo_100 rfl (lv_at hl 1 rfl) ?_
            refine lv_if_eq (tgt := 108) hx hb dX5_takesSo_101 (by decide) (fun _ => ?_) (fun g => absurd (by decide) g)
            refine lv_aload_n hx hb dX5_takesSo_108 rfl (lv_at hl 3 rfl) ?_
            refine lv_iload_n hx hb dX5_takesSo_109 rfl (lv_at hl 2 rfl) ?_
            refine pX5_201 hx hb hB hown hK hw hS (fun _ z => z) dX5_takesSo_110 (fun H10 L10 hw hS => ?_)
            refine lv_aload_n hx hb dX5_takesSo_113 rfl (lv_at hl 3 rfl) ?_
            refine lv_iload hx hb dX5_takesSo_114 (lv_at hl 0 rfl) ?_
            refine pX5_198 hx hb hB hown hK hw hS (fun _ z => z) dX5_takesSo_116 (fun H11 L11 hw hS => ?_)
            refine lv_iinc (v := (v1_13 + 1)) (lv' := [(1, .int (v1_13 + 1)), (4, .int ((u2 S_13 0 21 ((S_13 0 21) + (S_13 1 ((54 + (2 * (S_13 11 v1_13.toNatClampNeg))) + 1).toNatClampNeg))) 0 21)), (3, .int 0), (2, .int (S_13 11 v1_13.toNatClampNeg)), (0, .ref (am 0))]) hx hb dX5_takesSo_119 hl (k := 4) rfl rfl (by decide) rfl (fun ls hl => ?_)
            refine lv_goto (tgt := 13) hx hb dX5_takesSo_122 (by decide) ?_
            exact ih_13 (v1_13 + 1) (u2 (u2 (u2 S_13 0 21 ((S_13 0 21) + (S_13 1 ((54 + (2 * (S_13 11 v1_13.toNatClampNeg))) + 1).toNatClampNeg))) 0 22 (S_13 11 v1_13.toNatClampNeg)) 0 23 ((u2 S_13 0 21 ((S_13 0 21) + (S_13 1 ((54 + (2 * (S_13 11 v1_13.toNatClampNeg))) + 1).toNatClampNeg))) 0 21)) _ _ _ (lv_sub hl [4, 0] rfl) hw hS h
          · rw [if_neg g7] at h
            refine lv_iload_n hx hb dX5_takesSo_64 rfl (lv_at hl 0 rfl) ?_
            refine lv_if_ne (tgt := 72) hx hb dX5_takesSo_65 (by decide) (fun g => absurd (by decide) g) (fun _ => ?_)
            refine lv_aload_n hx hb dX5_takesSo_68 rfl (lv_at hl 2 rfl) ?_
            obtain ⟨r12, e12, h⟩ := ob h
            refine k_VWv ⟨hx, hb, hml, hown, hB⟩ (c_X5_comesBack l E am S_13 r12 e12) (clX5_210 hB rfl rfl ⟨Nat.le_of_ble_eq_true rfl, Nat.le_of_ble_eq_true rfl⟩) hK hw (rvM hK hw) rfl hl.1 rfl (Nat.le_of_ble_eq_true rfl) dX5_takesSo_69 ⟨Nat.zero_le _, Nat.zero_le _⟩ hS (fun _ z => z) (fun H13 L13 hw _ _ hS => ?_)
            refine lv_aload_n hx hb dX5_takesSo_72 rfl (lv_at hl 2 rfl) ?_
            refine lv_dup hx hb dX5_takesSo_73 rfl ?_
            refine gX5_204 hx hb hB hown hK hw dX5_takesSo_74 ?_
            refine lv_aload_n hx hb dX5_takesSo_77 rfl (lv_at hl 2 rfl) ?_
            refine gX5_7 hx hb hB hown hK hw dX5_takesSo_78 ?_
            refine lv_bipush (v := 54) hx hb dX5_takesSo_81 (by decide) ?_
            refine lv_iconst (v := 2) hx hb dX5_takesSo_83 (by decide) ?_
            refine lv_iload_n hx hb dX5_takesSo_84 rfl (lv_at hl 1 rfl) ?_
            refine lv_imul hx hb dX5_takesSo_85 ?_
            refine lv_iadd hx hb dX5_takesSo_86 ?_
            refine lv_iconst (v := 1) hx hb dX5_takesSo_87 (by decide) ?_
            refine lv_iadd hx hb dX5_takesSo_88 ?_
            obtain ⟨g14, h⟩ := gB_ok h
            refine lM hx hb hK hw (by decide) (by decide) (ib_ok g14) dX5_takesSo_89 ?_
            refine lv_iadd hx hb dX5_takesSo_90 ?_
            refine pX5_204 hx hb hB hown hK hw hS (fun _ z => z) dX5_takesSo_91 (fun H15 L15 hw hS => ?_)
            refine lv_aload_n hx hb dX5_takesSo_94 rfl (lv_at hl 2 rfl) ?_
            refine gX5_204 hx hb hB hown hK hw dX5_takesSo_95 ?_
            refine lv_istore (lv' := [(4, .int ((u2 r12 0 21 ((r12 0 21) + (r12 1 ((54 + (2 * (S_13 11 v1_13.toNatClampNeg))) + 1).toNatClampNeg))) 0 21)), (3, .int 0), (2, .int (S_13 11 v1_13.toNatClampNeg)), (0, .ref (am 0)), (1, .int v1_13)]) hx hb dX5_takesSo_98 hl (by decide) rfl (fun ls hl => ?_)
            refine lv_iload_n hx hb dX5_takesSo_100 rfl (lv_at hl 1 rfl) ?_
            refine lv_if_eq (tgt := 108) hx hb dX5_takesSo_101 (by decide) (fun _ => ?_) (fun g => absurd (by decide) g)
            refine lv_aload_n hx hb dX5_takesSo_108 rfl (lv_at hl 3 rfl) ?_
            refine lv_iload_n hx hb dX5_takesSo_109 rfl (lv_at hl 2 rfl) ?_
            refine pX5_201 hx hb hB hown hK hw hS (fun _ z => z) dX5_takesSo_110 (fun H16 L16 hw hS => ?_)
            refine lv_aload_n hx hb dX5_takesSo_113 rfl (lv_at hl 3 rfl) ?_
            refine lv_iload hx hb dX5_takesSo_114 (lv_at hl 0 rfl) ?_
            refine pX5_198 hx hb hB hown hK hw hS (fun _ z => z) dX5_takesSo_116 (fun H17 L17 hw hS => ?_)
            refine lv_iinc (v := (v1_13 + 1)) (lv' := [(1, .int (v1_13 + 1)), (4, .int ((u2 r12 0 21 ((r12 0 21) + (r12 1 ((54 + (2 * (S_13 11 v1_13.toNatClampNeg))) + 1).toNatClampNeg))) 0 21)), (3, .int 0), (2, .int (S_13 11 v1_13.toNatClampNeg)), (0, .ref (am 0))]) hx hb dX5_takesSo_119 hl (k := 4) rfl rfl (by decide) rfl (fun ls hl => ?_)
            refine lv_goto (tgt := 13) hx hb dX5_takesSo_122 (by decide) ?_
            exact ih_13 (v1_13 + 1) (u2 (u2 (u2 r12 0 21 ((r12 0 21) + (r12 1 ((54 + (2 * (S_13 11 v1_13.toNatClampNeg))) + 1).toNatClampNeg))) 0 22 (S_13 11 v1_13.toNatClampNeg)) 0 23 ((u2 r12 0 21 ((r12 0 21) + (r12 1 ((54 + (2 * (S_13 11 v1_13.toNatClampNeg))) + 1).toNatClampNeg))) 0 21)) _ _ _ (lv_sub hl [4, 0] rfl) hw hS h
        · rw [if_neg g6] at h
          refine lv_aload_n hx hb dX5_takesSo_35 rfl (lv_at hl 1 rfl) ?_
          refine lv_aload_n hx hb dX5_takesSo_36 rfl (lv_at hl 1 rfl) ?_
          refine gX5_201 hx hb hB hown hK hw dX5_takesSo_37 ?_
          obtain ⟨r18, e18, h⟩ := ob h
          refine k_VR ⟨hx, hb, hml, hown, hB⟩ (c_X5_villageOf l E am S_13 (S_13 0 22) r18 e18) (clX5_207 hB rfl rfl ⟨Nat.le_of_ble_eq_true rfl, Nat.le_of_ble_eq_true rfl⟩) hK hw (rvM hK hw) rfl hl.1 rfl (Nat.le_of_ble_eq_true rfl) dX5_takesSo_40 ⟨Nat.zero_le _, Nat.zero_le _⟩ ?_
          refine lv_aload_n hx hb dX5_takesSo_43 rfl (lv_at hl 1 rfl) ?_
          refine lv_iload_n hx hb dX5_takesSo_44 rfl (lv_at hl 0 rfl) ?_
          obtain ⟨r19, e19, h⟩ := ob h
          refine k_VR ⟨hx, hb, hml, hown, hB⟩ (c_X5_villageOf l E am S_13 (S_13 11 v1_13.toNatClampNeg) r19 e19) (clX5_207 hB rfl rfl ⟨Nat.le_of_ble_eq_true rfl, Nat.le_of_ble_eq_true rfl⟩) hK hw (rvM hK hw) rfl hl.1 rfl (Nat.le_of_ble_eq_true rfl) dX5_takesSo_45 ⟨Nat.zero_le _, Nat.zero_le _⟩ ?_
          refine lv_icmp_eq (tgt := 55) hx hb dX5_takesSo_48 (by decide) (fun g20 => ?_) (fun g20 => ?_)
          · rw [if_pos g20] at h
            refine lv_iconst (v := 0) hx hb dX5_takesSo_55 (by decide) ?_
            refine lv_istore_n (lv' := [(3, .int 0), (2, .int (S_13 11 v1_13.toNatClampNeg)), (0, .ref (am 0)), (1, .int v1_13)]) hx hb dX5_takesSo_56 rfl hl (by decide) rfl (fun ls hl => ?_)
            refine lv_aload_n hx hb dX5_takesSo_57 rfl (lv_at hl 2 rfl) ?_
            refine gX5_201 hx hb hB hown hK hw dX5_takesSo_58 ?_
            refine lv_if_lt (tgt := 72) hx hb dX5_takesSo_61 (by decide) (fun g21 => ?_) (fun g21 => ?_)
            · rw [if_pos g21] at h
              refine lv_aload_n hx hb dX5_takesSo_72 rfl (lv_at hl 2 rfl) ?_
              refine lv_dup hx hb dX5_takesSo_73 rfl ?_
              refine gX5_204 hx hb hB hown hK hw dX5_takesSo_74 ?_
              refine lv_aload_n hx hb dX5_takesSo_77 rfl (lv_at hl 2 rfl) ?_
              refine gX5_7 hx hb hB hown hK hw dX5_takesSo_78 ?_
              refine lv_bipush (v := 54) hx hb dX5_takesSo_81 (by decide) ?_
              refine lv_iconst (v := 2) hx hb dX5_takesSo_83 (by decide) ?_
              refine lv_iload_n hx hb dX5_takesSo_84 rfl (lv_at hl 1 rfl) ?_
              refine lv_imul hx hb dX5_takesSo_85 ?_
              refine lv_iadd hx hb dX5_takesSo_86 ?_
              refine lv_iconst (v := 1) hx hb dX5_takesSo_87 (by decide) ?_
              refine lv_iadd hx hb dX5_takesSo_88 ?_
              obtain ⟨g22, h⟩ := gB_ok h
              refine lM hx hb hK hw (by decide) (by decide) (ib_ok g22) dX5_takesSo_89 ?_
              refine lv_iadd hx hb dX5_takesSo_90 ?_
              refine pX5_204 hx hb hB hown hK hw hS (fun _ z => z) dX5_takesSo_91 (fun H23 L23 hw hS => ?_)
              refine lv_aload_n hx hb dX5_takesSo_94 rfl (lv_at hl 2 rfl) ?_
              refine gX5_204 hx hb hB hown hK hw dX5_takesSo_95 ?_
              refine lv_istore (lv' := [(4, .int ((u2 S_13 0 21 ((S_13 0 21) + (S_13 1 ((54 + (2 * (S_13 11 v1_13.toNatClampNeg))) + 1).toNatClampNeg))) 0 21)), (3, .int 0), (2, .int (S_13 11 v1_13.toNatClampNeg)), (0, .ref (am 0)), (1, .int v1_13)]) hx hb dX5_takesSo_98 hl (by decide) rfl (fun ls hl => ?_)
              refine lv_iload_n hx hb dX5_takesSo_100 rfl (lv_at hl 1 rfl) ?_
              refine lv_if_eq (tgt := 108) hx hb dX5_takesSo_101 (by decide) (fun _ => ?_) (fun g => absurd (by decide) g)
              refine lv_aload_n hx hb dX5_takesSo_108 rfl (lv_at hl 3 rfl) ?_
              refine lv_iload_n hx hb dX5_takesSo_109 rfl (lv_at hl 2 rfl) ?_
              refine pX5_201 hx hb hB hown hK hw hS (fun _ z => z) dX5_takesSo_110 (fun H24 L24 hw hS => ?_)
              refine lv_aload_n hx hb dX5_takesSo_113 rfl (lv_at hl 3 rfl) ?_
              refine lv_iload hx hb dX5_takesSo_114 (lv_at hl 0 rfl) ?_
              refine pX5_198 hx hb hB hown hK hw hS (fun _ z => z) dX5_takesSo_116 (fun H25 L25 hw hS => ?_)
              refine lv_iinc (v := (v1_13 + 1)) (lv' := [(1, .int (v1_13 + 1)), (4, .int ((u2 S_13 0 21 ((S_13 0 21) + (S_13 1 ((54 + (2 * (S_13 11 v1_13.toNatClampNeg))) + 1).toNatClampNeg))) 0 21)), (3, .int 0), (2, .int (S_13 11 v1_13.toNatClampNeg)), (0, .ref (am 0))]) hx hb dX5_takesSo_119 hl (k := 4) rfl rfl (by decide) rfl (fun ls hl => ?_)
              refine lv_goto (tgt := 13) hx hb dX5_takesSo_122 (by decide) ?_
              exact ih_13 (v1_13 + 1) (u2 (u2 (u2 S_13 0 21 ((S_13 0 21) + (S_13 1 ((54 + (2 * (S_13 11 v1_13.toNatClampNeg))) + 1).toNatClampNeg))) 0 22 (S_13 11 v1_13.toNatClampNeg)) 0 23 ((u2 S_13 0 21 ((S_13 0 21) + (S_13 1 ((54 + (2 * (S_13 11 v1_13.toNatClampNeg))) + 1).toNatClampNeg))) 0 21)) _ _ _ (lv_sub hl [4, 0] rfl) hw hS h
            · rw [if_neg g21] at h
              refine lv_iload_n hx hb dX5_takesSo_64 rfl (lv_at hl 0 rfl) ?_
              refine lv_if_ne (tgt := 72) hx hb dX5_takesSo_65 (by decide) (fun g => absurd (by decide) g) (fun _ => ?_)
              refine lv_aload_n hx hb dX5_takesSo_68 rfl (lv_at hl 2 rfl) ?_
              obtain ⟨r26, e26, h⟩ := ob h
              refine k_VWv ⟨hx, hb, hml, hown, hB⟩ (c_X5_comesBack l E am S_13 r26 e26) (clX5_210 hB rfl rfl ⟨Nat.le_of_ble_eq_true rfl, Nat.le_of_ble_eq_true rfl⟩) hK hw (rvM hK hw) rfl hl.1 rfl (Nat.le_of_ble_eq_true rfl) dX5_takesSo_69 ⟨Nat.zero_le _, Nat.zero_le _⟩ hS (fun _ z => z) (fun H27 L27 hw _ _ hS => ?_)
              refine lv_aload_n hx hb dX5_takesSo_72 rfl (lv_at hl 2 rfl) ?_
              refine lv_dup hx hb dX5_takesSo_73 rfl ?_
              refine gX5_204 hx hb hB hown hK hw dX5_takesSo_74 ?_
              refine lv_aload_n hx hb dX5_takesSo_77 rfl (lv_at hl 2 rfl) ?_
              refine gX5_7 hx hb hB hown hK hw dX5_takesSo_78 ?_
              refine lv_bipush (v := 54) hx hb dX5_takesSo_81 (by decide) ?_
              refine lv_iconst (v := 2) hx hb dX5_takesSo_83 (by decide) ?_
              refine lv_iload_n hx hb dX5_takesSo_84 rfl (lv_at hl 1 rfl) ?_
              refine lv_imul hx hb dX5_takesSo_85 ?_
              refine lv_iadd hx hb dX5_takesSo_86 ?_
              refine lv_iconst (v := 1) hx hb dX5_takesSo_87 (by decide) ?_
              refine lv_iadd hx hb dX5_takesSo_88 ?_
              obtain ⟨g28, h⟩ := gB_ok h
              refine lM hx hb hK hw (by decide) (by decide) (ib_ok g28) dX5_takesSo_89 ?_
              refine lv_iadd hx hb dX5_takesSo_90 ?_
              refine pX5_204 hx hb hB hown hK hw hS (fun _ z => z) dX5_takesSo_91 (fun H29 L29 hw hS => ?_)
              refine lv_aload_n hx hb dX5_takesSo_94 rfl (lv_at hl 2 rfl) ?_
              refine gX5_204 hx hb hB hown hK hw dX5_takesSo_95 ?_
              refine lv_istore (lv' := [(4, .int ((u2 r26 0 21 ((r26 0 21) + (r26 1 ((54 + (2 * (S_13 11 v1_13.toNatClampNeg))) + 1).toNatClampNeg))) 0 21)), (3, .int 0), (2, .int (S_13 11 v1_13.toNatClampNeg)), (0, .ref (am 0)), (1, .int v1_13)]) hx hb dX5_takesSo_98 hl (by decide) rfl (fun ls hl => ?_)
              refine lv_iload_n hx hb dX5_takesSo_100 rfl (lv_at hl 1 rfl) ?_
              refine lv_if_eq (tgt := 108) hx hb dX5_takesSo_101 (by decide) (fun _ => ?_) (fun g => absurd (by decide) g)
              refine lv_aload_n hx hb dX5_takesSo_108 rfl (lv_at hl 3 rfl) ?_
              refine lv_iload_n hx hb dX5_takesSo_109 rfl (lv_at hl 2 rfl) ?_
              refine pX5_201 hx hb hB hown hK hw hS (fun _ z => z) dX5_takesSo_110 (fun H30 L30 hw hS => ?_)
              refine lv_aload_n hx hb dX5_takesSo_113 rfl (lv_at hl 3 rfl) ?_
              refine lv_iload hx hb dX5_takesSo_114 (lv_at hl 0 rfl) ?_
              refine pX5_198 hx hb hB hown hK hw hS (fun _ z => z) dX5_takesSo_116 (fun H31 L31 hw hS => ?_)
              refine lv_iinc (v := (v1_13 + 1)) (lv' := [(1, .int (v1_13 + 1)), (4, .int ((u2 r26 0 21 ((r26 0 21) + (r26 1 ((54 + (2 * (S_13 11 v1_13.toNatClampNeg))) + 1).toNatClampNeg))) 0 21)), (3, .int 0), (2, .int (S_13 11 v1_13.toNatClampNeg)), (0, .ref (am 0))]) hx hb dX5_takesSo_119 hl (k := 4) rfl rfl (by decide) rfl (fun ls hl => ?_)
              refine lv_goto (tgt := 13) hx hb dX5_takesSo_122 (by decide) ?_
              exact ih_13 (v1_13 + 1) (u2 (u2 (u2 r26 0 21 ((r26 0 21) + (r26 1 ((54 + (2 * (S_13 11 v1_13.toNatClampNeg))) + 1).toNatClampNeg))) 0 22 (S_13 11 v1_13.toNatClampNeg)) 0 23 ((u2 r26 0 21 ((r26 0 21) + (r26 1 ((54 + (2 * (S_13 11 v1_13.toNatClampNeg))) + 1).toNatClampNeg))) 0 21)) _ _ _ (lv_sub hl [4, 0] rfl) hw hS h
          · rw [if_neg g20] at h
            refine lv_iconst (v := 1) hx hb dX5_takesSo_51 (by decide) ?_
            refine lv_goto (tgt := 56) hx hb dX5_takesSo_52 (by decide) ?_
            refine lv_istore_n (lv' := [(3, .int 1), (2, .int (S_13 11 v1_13.toNatClampNeg)), (0, .ref (am 0)), (1, .int v1_13)]) hx hb dX5_takesSo_56 rfl hl (by decide) rfl (fun ls hl => ?_)
            refine lv_aload_n hx hb dX5_takesSo_57 rfl (lv_at hl 2 rfl) ?_
            refine gX5_201 hx hb hB hown hK hw dX5_takesSo_58 ?_
            refine lv_if_lt (tgt := 72) hx hb dX5_takesSo_61 (by decide) (fun g32 => ?_) (fun g32 => ?_)
            · rw [if_pos g32] at h
              refine lv_aload_n hx hb dX5_takesSo_72 rfl (lv_at hl 2 rfl) ?_
              refine lv_dup hx hb dX5_takesSo_73 rfl ?_
              refine gX5_204 hx hb hB hown hK hw dX5_takesSo_74 ?_
              refine lv_aload_n hx hb dX5_takesSo_77 rfl (lv_at hl 2 rfl) ?_
              refine gX5_7 hx hb hB hown hK hw dX5_takesSo_78 ?_
              refine lv_bipush (v := 54) hx hb dX5_takesSo_81 (by decide) ?_
              refine lv_iconst (v := 2) hx hb dX5_takesSo_83 (by decide) ?_
              refine lv_iload_n hx hb dX5_takesSo_84 rfl (lv_at hl 1 rfl) ?_
              refine lv_imul hx hb dX5_takesSo_85 ?_
              refine lv_iadd hx hb dX5_takesSo_86 ?_
              refine lv_iconst (v := 1) hx hb dX5_takesSo_87 (by decide) ?_
              refine lv_iadd hx hb dX5_takesSo_88 ?_
              obtain ⟨g33, h⟩ := gB_ok h
              refine lM hx hb hK hw (by decide) (by decide) (ib_ok g33) dX5_takesSo_89 ?_
              refine lv_iadd hx hb dX5_takesSo_90 ?_
              refine pX5_204 hx hb hB hown hK hw hS (fun _ z => z) dX5_takesSo_91 (fun H34 L34 hw hS => ?_)
              refine lv_aload_n hx hb dX5_takesSo_94 rfl (lv_at hl 2 rfl) ?_
              refine gX5_204 hx hb hB hown hK hw dX5_takesSo_95 ?_
              refine lv_istore (lv' := [(4, .int ((u2 S_13 0 21 ((S_13 0 21) + (S_13 1 ((54 + (2 * (S_13 11 v1_13.toNatClampNeg))) + 1).toNatClampNeg))) 0 21)), (3, .int 1), (2, .int (S_13 11 v1_13.toNatClampNeg)), (0, .ref (am 0)), (1, .int v1_13)]) hx hb dX5_takesSo_98 hl (by decide) rfl (fun ls hl => ?_)
              refine lv_iload_n hx hb dX5_takesSo_100 rfl (lv_at hl 1 rfl) ?_
              refine lv_if_eq (tgt := 108) hx hb dX5_takesSo_101 (by decide) (fun g => absurd g (by decide)) (fun _ => ?_)
              refine lv_aload_n hx hb dX5_takesSo_104 rfl (lv_at hl 3 rfl) ?_
              obtain ⟨r35, e35, h⟩ := ob h
              refine k_VWv ⟨hx, hb, hml, hown, hB⟩ (c_X5_comesBack l E am (u2 S_13 0 21 ((S_13 0 21) + (S_13 1 ((54 + (2 * (S_13 11 v1_13.toNatClampNeg))) + 1).toNatClampNeg))) r35 e35) (clX5_210 hB rfl rfl ⟨Nat.le_of_ble_eq_true rfl, Nat.le_of_ble_eq_true rfl⟩) hK hw (rvM hK hw) rfl hl.1 rfl (Nat.le_of_ble_eq_true rfl) dX5_takesSo_105 ⟨Nat.zero_le _, Nat.zero_le _⟩ hS (fun _ z => z) (fun H36 L36 hw _ _ hS => ?_)
              refine lv_aload_n hx hb dX5_takesSo_108 rfl (lv_at hl 3 rfl) ?_
              refine lv_iload_n hx hb dX5_takesSo_109 rfl (lv_at hl 2 rfl) ?_
              refine pX5_201 hx hb hB hown hK hw hS (fun _ z => z) dX5_takesSo_110 (fun H37 L37 hw hS => ?_)
              refine lv_aload_n hx hb dX5_takesSo_113 rfl (lv_at hl 3 rfl) ?_
              refine lv_iload hx hb dX5_takesSo_114 (lv_at hl 0 rfl) ?_
              refine pX5_198 hx hb hB hown hK hw hS (fun _ z => z) dX5_takesSo_116 (fun H38 L38 hw hS => ?_)
              refine lv_iinc (v := (v1_13 + 1)) (lv' := [(1, .int (v1_13 + 1)), (4, .int ((u2 S_13 0 21 ((S_13 0 21) + (S_13 1 ((54 + (2 * (S_13 11 v1_13.toNatClampNeg))) + 1).toNatClampNeg))) 0 21)), (3, .int 1), (2, .int (S_13 11 v1_13.toNatClampNeg)), (0, .ref (am 0))]) hx hb dX5_takesSo_119 hl (k := 4) rfl rfl (by decide) rfl (fun ls hl => ?_)
              refine lv_goto (tgt := 13) hx hb dX5_takesSo_122 (by decide) ?_
              exact ih_13 (v1_13 + 1) (u2 (u2 r35 0 22 (S_13 11 v1_13.toNatClampNeg)) 0 23 ((u2 S_13 0 21 ((S_13 0 21) + (S_13 1 ((54 + (2 * (S_13 11 v1_13.toNatClampNeg))) + 1).toNatClampNeg))) 0 21)) _ _ _ (lv_sub hl [4, 0] rfl) hw hS h
            · rw [if_neg g32] at h
              refine lv_iload_n hx hb dX5_takesSo_64 rfl (lv_at hl 0 rfl) ?_
              refine lv_if_ne (tgt := 72) hx hb dX5_takesSo_65 (by decide) (fun _ => ?_) (fun g => absurd g (by decide))
              refine lv_aload_n hx hb dX5_takesSo_72 rfl (lv_at hl 2 rfl) ?_
              refine lv_dup hx hb dX5_takesSo_73 rfl ?_
              refine gX5_204 hx hb hB hown hK hw dX5_takesSo_74 ?_
              refine lv_aload_n hx hb dX5_takesSo_77 rfl (lv_at hl 2 rfl) ?_
              refine gX5_7 hx hb hB hown hK hw dX5_takesSo_78 ?_
              refine lv_bipush (v := 54) hx hb dX5_takesSo_81 (by decide) ?_
              refine lv_iconst (v := 2) hx hb dX5_takesSo_83 (by decide) ?_
              refine lv_iload_n hx hb dX5_takesSo_84 rfl (lv_at hl 1 rfl) ?_
              refine lv_imul hx hb dX5_takesSo_85 ?_
              refine lv_iadd hx hb dX5_takesSo_86 ?_
              refine lv_iconst (v := 1) hx hb dX5_takesSo_87 (by decide) ?_
              refine lv_iadd hx hb dX5_takesSo_88 ?_
              obtain ⟨g39, h⟩ := gB_ok h
              refine lM hx hb hK hw (by decide) (by decide) (ib_ok g39) dX5_takesSo_89 ?_
              refine lv_iadd hx hb dX5_takesSo_90 ?_
              refine pX5_204 hx hb hB hown hK hw hS (fun _ z => z) dX5_takesSo_91 (fun H40 L40 hw hS => ?_)
              refine lv_aload_n hx hb dX5_takesSo_94 rfl (lv_at hl 2 rfl) ?_
              refine gX5_204 hx hb hB hown hK hw dX5_takesSo_95 ?_
              refine lv_istore (lv' := [(4, .int ((u2 S_13 0 21 ((S_13 0 21) + (S_13 1 ((54 + (2 * (S_13 11 v1_13.toNatClampNeg))) + 1).toNatClampNeg))) 0 21)), (3, .int 1), (2, .int (S_13 11 v1_13.toNatClampNeg)), (0, .ref (am 0)), (1, .int v1_13)]) hx hb dX5_takesSo_98 hl (by decide) rfl (fun ls hl => ?_)
              refine lv_iload_n hx hb dX5_takesSo_100 rfl (lv_at hl 1 rfl) ?_
              refine lv_if_eq (tgt := 108) hx hb dX5_takesSo_101 (by decide) (fun g => absurd g (by decide)) (fun _ => ?_)
              refine lv_aload_n hx hb dX5_takesSo_104 rfl (lv_at hl 3 rfl) ?_
              obtain ⟨r41, e41, h⟩ := ob h
              refine k_VWv ⟨hx, hb, hml, hown, hB⟩ (c_X5_comesBack l E am (u2 S_13 0 21 ((S_13 0 21) + (S_13 1 ((54 + (2 * (S_13 11 v1_13.toNatClampNeg))) + 1).toNatClampNeg))) r41 e41) (clX5_210 hB rfl rfl ⟨Nat.le_of_ble_eq_true rfl, Nat.le_of_ble_eq_true rfl⟩) hK hw (rvM hK hw) rfl hl.1 rfl (Nat.le_of_ble_eq_true rfl) dX5_takesSo_105 ⟨Nat.zero_le _, Nat.zero_le _⟩ hS (fun _ z => z) (fun H42 L42 hw _ _ hS => ?_)
              refine lv_aload_n hx hb dX5_takesSo_108 rfl (lv_at hl 3 rfl) ?_
              refine lv_iload_n hx hb dX5_takesSo_109 rfl (lv_at hl 2 rfl) ?_
              refine pX5_201 hx hb hB hown hK hw hS (fun _ z => z) dX5_takesSo_110 (fun H43 L43 hw hS => ?_)
              refine lv_aload_n hx hb dX5_takesSo_113 rfl (lv_at hl 3 rfl) ?_
              refine lv_iload hx hb dX5_takesSo_114 (lv_at hl 0 rfl) ?_
              refine pX5_198 hx hb hB hown hK hw hS (fun _ z => z) dX5_takesSo_116 (fun H44 L44 hw hS => ?_)
              refine lv_iinc (v := (v1_13 + 1)) (lv' := [(1, .int (v1_13 + 1)), (4, .int ((u2 S_13 0 21 ((S_13 0 21) + (S_13 1 ((54 + (2 * (S_13 11 v1_13.toNatClampNeg))) + 1).toNatClampNeg))) 0 21)), (3, .int 1), (2, .int (S_13 11 v1_13.toNatClampNeg)), (0, .ref (am 0))]) hx hb dX5_takesSo_119 hl (k := 4) rfl rfl (by decide) rfl (fun ls hl => ?_)
              refine lv_goto (tgt := 13) hx hb dX5_takesSo_122 (by decide) ?_
              exact ih_13 (v1_13 + 1) (u2 (u2 r41 0 22 (S_13 11 v1_13.toNatClampNeg)) 0 23 ((u2 S_13 0 21 ((S_13 0 21) + (S_13 1 ((54 + (2 * (S_13 11 v1_13.toNatClampNeg))) + 1).toNatClampNeg))) 0 21)) _ _ _ (lv_sub hl [4, 0] rfl) hw hS h
  refine lv_aload_n hx hb dX5_takesSo_0 rfl (lv_at hl 0 rfl) ?_
  refine lv_iconst (v := 0) hx hb dX5_takesSo_1 (by decide) ?_
  refine pX5_204 hx hb hB hown hK hw hS (fun _ z => z) dX5_takesSo_2 (fun H45 L45 hw hS => ?_)
  refine lv_aload_n hx hb dX5_takesSo_5 rfl (lv_at hl 0 rfl) ?_
  refine lv_bipush (v := (-4)) hx hb dX5_takesSo_6 (by decide) ?_
  refine pX5_201 hx hb hB hown hK hw hS (fun _ z => z) dX5_takesSo_8 (fun H46 L46 hw hS => ?_)
  refine lv_iconst (v := 0) hx hb dX5_takesSo_11 (by decide) ?_
  refine lv_istore_n (lv' := [(1, .int 0), (0, .ref (am 0))]) hx hb dX5_takesSo_12 rfl hl (by decide) rfl (fun ls hl => ?_)
  exact hL13 FU 0 (u2 (u2 S 0 21 0) 0 22 (-4)) _ _ _ (lv_sub hl [1, 0] rfl) hw hS h
def fX5_takes_L19 (v1_19 : Int32) : Nat → Int32 → OS → Option (Int32 × OS)
  | 0, _, _ => none
  | n_19 + 1, v2_19, S_19 => if (S_19 0 20) ≤ v2_19 then (fX5_takesSo S_19).bind (fun r2 => (some (r2.1, r2.2))) else if v1_19 = 0 then gB (ib v2_19 6) (gB (ib v2_19 6) (fX5_takes_L19 v1_19 n_19 (v2_19 + 1) (u2 S_19 11 v2_19.toNatClampNeg (S_19 10 v2_19.toNatClampNeg)))) else gB (ib (((S_19 0 20) - 1) - v2_19) 6) (gB (ib v2_19 6) (fX5_takes_L19 v1_19 n_19 (v2_19 + 1) (u2 S_19 11 v2_19.toNatClampNeg (S_19 10 (((S_19 0 20) - 1) - v2_19).toNatClampNeg))))
def fX5_takes (S : OS) (a1 : Int32) : Option (Int32 × OS) := (fX5_in a1 0 1).bind (fun r11 => (if r11 = 0 then some ((-1), S) else (fX5_findGuests S 63).bind (fun r13 => (fX5_takes_L19 a1 FU 0 r13))))
abbrev rmX5_takes : Room := { frames := 4, cells := 0, slots := 0, locals := 89 }
set_option maxHeartbeats 4000000 in
set_option maxRecDepth 100000 in
theorem c_X5_takes (l : Launch) (E : En) (am : Nat → Nat) (S : OS) (a1 : Int32) (r : Int32 × OS) (h : fX5_takes S a1 = some r) : Met l yX5_takes (kX5_takes :: BIG) rmX5_takes (Pk E [.ref (am 0), .int a1] (MW E am S)) (QW (some (.int r.1)) (AM am) (MW E am r.2)) 0 0 (AM am) := by
  refine Mb (by decide) (Nat.le_of_ble_eq_true rfl) ?_
  intro p e s m below meth c ls hx hb hr hlk hB hown hml _ hK hw hl
  have hS : va_S (AM am) s.heap s.heap [] := va_S.rf
  have hl : lv_has ls 3 [(0, .ref (am 0)), (1, .int a1)] := hl
  rw [fX5_takes] at h
  have hL19 : ∀ (n_19 : Nat) (v1_19 : Int32) (v2_19 : Int32) (S_19 : OS) (H_19 : Heap) (L_19 : List Loc) (ls_19 : Array Slot), lv_has ls_19 3 [(0, .ref (am 0)), (1, .int v1_19), (2, .int v2_19)] → MW E am S_19 H_19 → va_S (AM am) s.heap H_19 L_19 → fX5_takes_L19 v1_19 n_19 v2_19 S_19 = some r → W p l e rmX5_takes s m ([.ref (am 0), .int a1] : List Value).toArray below meth c H_19 L_19 0 0 (MQ below (QW (some (.int r.1)) (AM am) (MW E am r.2)) ([.ref (am 0), .int a1] : List Value).toArray s 0 0 (AM am)) (F0 m 19 ls_19 []) := by
    intro n_19
    induction n_19 with
    | zero =>
      intro v1_19 v2_19 S_19 H_19 L_19 ls_19 hl hw hS h
      exact nn h
    | succ n_19 ih_19 =>
      intro v1_19 v2_19 S_19 H_19 L_19 ls_19 hl hw hS h
      rw [fX5_takes_L19] at h
      refine lv_iload_n hx hb dX5_takes_19 rfl (lv_at hl 2 rfl) ?_
      refine lv_aload_n hx hb dX5_takes_20 rfl (lv_at hl 0 rfl) ?_
      refine gX5_191 hx hb hB hown hK hw dX5_takes_21 ?_
      refine lv_icmp_ge (tgt := 60) hx hb dX5_takes_24 (by decide) (fun g1 => ?_) (fun g1 => ?_)
      · rw [if_pos g1] at h
        refine lv_aload_n hx hb dX5_takes_60 rfl (lv_at hl 0 rfl) ?_
        obtain ⟨r2, e2, h⟩ := ob h
        refine k_VWi ⟨hx, hb, hml, hown, hB⟩ (c_X5_takesSo l E am S_19 r2 e2) (clX5_217 hB rfl rfl ⟨Nat.le_of_ble_eq_true rfl, Nat.le_of_ble_eq_true rfl⟩) hK hw (rvM hK hw) rfl hl.1 rfl (Nat.le_of_ble_eq_true rfl) dX5_takes_61 ⟨Nat.zero_le _, Nat.zero_le _⟩ hS (fun _ z => z) (fun H3 L3 hw _ _ hS => ?_)
        cases h
        exact e_zW hx hb hr hlk rfl rfl hw hS dX5_takes_64
      · rw [if_neg g1] at h
        refine lv_aload_n hx hb dX5_takes_27 rfl (lv_at hl 0 rfl) ?_
        refine gX5_40 hx hb hB hown hK hw dX5_takes_28 ?_
        refine lv_iload_n hx hb dX5_takes_31 rfl (lv_at hl 2 rfl) ?_
        refine lv_aload_n hx hb dX5_takes_32 rfl (lv_at hl 0 rfl) ?_
        refine gX5_37 hx hb hB hown hK hw dX5_takes_33 ?_
        refine lv_iload_n hx hb dX5_takes_36 rfl (lv_at hl 1 rfl) ?_
        refine lv_if_ne (tgt := 44) hx hb dX5_takes_37 (by decide) (fun g4 => ?_) (fun g4 => ?_)
        · rw [if_neg g4] at h
          refine lv_aload_n hx hb dX5_takes_44 rfl (lv_at hl 0 rfl) ?_
          refine gX5_191 hx hb hB hown hK hw dX5_takes_45 ?_
          refine lv_iconst (v := 1) hx hb dX5_takes_48 (by decide) ?_
          refine lv_isub hx hb dX5_takes_49 ?_
          refine lv_iload_n hx hb dX5_takes_50 rfl (lv_at hl 2 rfl) ?_
          refine lv_isub hx hb dX5_takes_51 ?_
          obtain ⟨g5, h⟩ := gB_ok h
          refine lM hx hb hK hw (by decide) (by decide) (ib_ok g5) dX5_takes_52 ?_
          obtain ⟨g6, h⟩ := gB_ok h
          refine sM hx hb hK hw hS (fun _ z => z) (by decide) (by decide) (ib_ok g6) dX5_takes_53 (fun H7 L7 hw hS => ?_)
          refine lv_iinc (v := (v2_19 + 1)) (lv' := [(2, .int (v2_19 + 1)), (0, .ref (am 0)), (1, .int v1_19)]) hx hb dX5_takes_54 hl (k := 2) rfl rfl (by decide) rfl (fun ls hl => ?_)
          refine lv_goto (tgt := 19) hx hb dX5_takes_57 (by decide) ?_
          exact ih_19 v1_19 (v2_19 + 1) (u2 S_19 11 v2_19.toNatClampNeg (S_19 10 (((S_19 0 20) - 1) - v2_19).toNatClampNeg)) _ _ _ (lv_sub hl [1, 2, 0] rfl) hw hS h
        · rw [if_pos g4] at h
          refine lv_iload_n hx hb dX5_takes_40 rfl (lv_at hl 2 rfl) ?_
          refine lv_goto (tgt := 52) hx hb dX5_takes_41 (by decide) ?_
          obtain ⟨g8, h⟩ := gB_ok h
          refine lM hx hb hK hw (by decide) (by decide) (ib_ok g8) dX5_takes_52 ?_
          obtain ⟨g9, h⟩ := gB_ok h
          refine sM hx hb hK hw hS (fun _ z => z) (by decide) (by decide) (ib_ok g9) dX5_takes_53 (fun H10 L10 hw hS => ?_)
          refine lv_iinc (v := (v2_19 + 1)) (lv' := [(2, .int (v2_19 + 1)), (0, .ref (am 0)), (1, .int v1_19)]) hx hb dX5_takes_54 hl (k := 2) rfl rfl (by decide) rfl (fun ls hl => ?_)
          refine lv_goto (tgt := 19) hx hb dX5_takes_57 (by decide) ?_
          exact ih_19 v1_19 (v2_19 + 1) (u2 S_19 11 v2_19.toNatClampNeg (S_19 10 v2_19.toNatClampNeg)) _ _ _ (lv_sub hl [1, 2, 0] rfl) hw hS h
  refine lv_iload_n hx hb dX5_takes_0 rfl (lv_at hl 1 rfl) ?_
  refine lv_iconst (v := 0) hx hb dX5_takes_1 (by decide) ?_
  refine lv_iconst (v := 1) hx hb dX5_takes_2 (by decide) ?_
  obtain ⟨r11, e11, h⟩ := ob h
  refine k_SR ⟨hx, hb, hml, hown, hB⟩ (c_X5_in l E a1 0 1 r11 e11) (clX5_67 hB rfl rfl ⟨Nat.le_of_ble_eq_true rfl, Nat.le_of_ble_eq_true rfl⟩) hK trivial rfl hl.1 rfl (Nat.le_of_ble_eq_true rfl) dX5_takes_3 ⟨Nat.zero_le _, Nat.zero_le _⟩ ?_
  refine lv_if_ne (tgt := 11) hx hb dX5_takes_6 (by decide) (fun g12 => ?_) (fun g12 => ?_)
  · rw [if_neg g12] at h
    refine lv_aload_n hx hb dX5_takes_11 rfl (lv_at hl 0 rfl) ?_
    refine lv_bipush (v := 63) hx hb dX5_takes_12 (by decide) ?_
    obtain ⟨r13, e13, h⟩ := ob h
    refine k_VWv ⟨hx, hb, hml, hown, hB⟩ (c_X5_findGuests l E am S 63 r13 e13) (clX5_213 hB rfl rfl ⟨Nat.le_of_ble_eq_true rfl, Nat.le_of_ble_eq_true rfl⟩) hK hw (rvM hK hw) rfl hl.1 rfl (Nat.le_of_ble_eq_true rfl) dX5_takes_14 ⟨Nat.zero_le _, Nat.zero_le _⟩ hS (fun _ z => z) (fun H14 L14 hw _ _ hS => ?_)
    refine lv_iconst (v := 0) hx hb dX5_takes_17 (by decide) ?_
    refine lv_istore_n (lv' := [(2, .int 0), (0, .ref (am 0)), (1, .int a1)]) hx hb dX5_takes_18 rfl hl (by decide) rfl (fun ls hl => ?_)
    exact hL19 FU a1 0 r13 _ _ _ (lv_sub hl [1, 2, 0] rfl) hw hS h
  · rw [if_pos g12] at h
    refine lv_iconst (v := (-1)) hx hb dX5_takes_9 (by decide) ?_
    cases h
    exact e_zW hx hb hr hlk rfl rfl hw hS dX5_takes_10
def fX5_isOrder_L12 : Nat → Int32 → Int32 → Int32 → OS → Option (Int32 × OS)
  | 0, _, _, _, _ => none
  | n_12 + 1, v2_12, v3_12, v4_12, S_12 => if v4_12 < 0 then if v3_12 = ((1 <<< ((S_12 0 20) &&& 31)) - 1) then some (1, S_12) else some (0, S_12) else gB (nz (S_12 0 20)) (gB (ib (v2_12 - v2_12 / (S_12 0 20) * (S_12 0 20)) 6) (gB (ib v4_12 6) (gB (nz ((u2 S_12 11 v4_12.toNatClampNeg (S_12 10 (v2_12 - v2_12 / (S_12 0 20) * (S_12 0 20)).toNatClampNeg)) 0 20)) (gB (nz ((u2 S_12 11 v4_12.toNatClampNeg (S_12 10 (v2_12 - v2_12 / (S_12 0 20) * (S_12 0 20)).toNatClampNeg)) 0 20)) (fX5_isOrder_L12 n_12 (v2_12 / ((u2 S_12 11 v4_12.toNatClampNeg (S_12 10 (v2_12 - v2_12 / (S_12 0 20) * (S_12 0 20)).toNatClampNeg)) 0 20)) (v3_12 ||| (1 <<< ((v2_12 - v2_12 / ((u2 S_12 11 v4_12.toNatClampNeg (S_12 10 (v2_12 - v2_12 / (S_12 0 20) * (S_12 0 20)).toNatClampNeg)) 0 20) * ((u2 S_12 11 v4_12.toNatClampNeg (S_12 10 (v2_12 - v2_12 / (S_12 0 20) * (S_12 0 20)).toNatClampNeg)) 0 20)) &&& 31))) (v4_12 + (-1)) (u2 S_12 11 v4_12.toNatClampNeg (S_12 10 (v2_12 - v2_12 / (S_12 0 20) * (S_12 0 20)).toNatClampNeg)))))))
def fX5_isOrder (S : OS) (a1 : Int32) : Option (Int32 × OS) := fX5_isOrder_L12 FU a1 0 ((S 0 20) - 1) S
abbrev rmX5_isOrder : Room := { frames := 0, cells := 0, slots := 0, locals := 0 }
set_option maxHeartbeats 4000000 in
set_option maxRecDepth 100000 in
theorem c_X5_isOrder (l : Launch) (E : En) (am : Nat → Nat) (S : OS) (a1 : Int32) (r : Int32 × OS) (h : fX5_isOrder S a1 = some r) : Met l yX5_isOrder (kX5_isOrder :: BIG) rmX5_isOrder (Pk E [.ref (am 0), .int a1] (MW E am S)) (QW (some (.int r.1)) (AM am) (MW E am r.2)) 0 0 (AM am) := by
  refine Mb (by decide) (Nat.le_of_ble_eq_true rfl) ?_
  intro p e s m below meth c ls hx hb hr hlk hB hown hml _ hK hw hl
  have hS : va_S (AM am) s.heap s.heap [] := va_S.rf
  have hl : lv_has ls 5 [(0, .ref (am 0)), (1, .int a1)] := hl
  rw [fX5_isOrder] at h
  have hL12 : ∀ (n_12 : Nat) (v2_12 : Int32) (v3_12 : Int32) (v4_12 : Int32) (S_12 : OS) (H_12 : Heap) (L_12 : List Loc) (ls_12 : Array Slot), lv_has ls_12 5 [(0, .ref (am 0)), (2, .int v2_12), (3, .int v3_12), (4, .int v4_12)] → MW E am S_12 H_12 → va_S (AM am) s.heap H_12 L_12 → fX5_isOrder_L12 n_12 v2_12 v3_12 v4_12 S_12 = some r → W p l e rmX5_isOrder s m ([.ref (am 0), .int a1] : List Value).toArray below meth c H_12 L_12 0 0 (MQ below (QW (some (.int r.1)) (AM am) (MW E am r.2)) ([.ref (am 0), .int a1] : List Value).toArray s 0 0 (AM am)) (F0 m 12 ls_12 []) := by
    intro n_12
    induction n_12 with
    | zero =>
      intro v2_12 v3_12 v4_12 S_12 H_12 L_12 ls_12 hl hw hS h
      exact nn h
    | succ n_12 ih_12 =>
      intro v2_12 v3_12 v4_12 S_12 H_12 L_12 ls_12 hl hw hS h
      rw [fX5_isOrder_L12] at h
      refine lv_iload hx hb dX5_isOrder_12 (lv_at hl 3 rfl) ?_
      refine lv_if_lt (tgt := 59) hx hb dX5_isOrder_14 (by decide) (fun g1 => ?_) (fun g1 => ?_)
      · rw [if_pos g1] at h
        refine lv_iload_n hx hb dX5_isOrder_59 rfl (lv_at hl 2 rfl) ?_
        refine lv_iconst (v := 1) hx hb dX5_isOrder_60 (by decide) ?_
        refine lv_aload_n hx hb dX5_isOrder_61 rfl (lv_at hl 0 rfl) ?_
        refine gX5_191 hx hb hB hown hK hw dX5_isOrder_62 ?_
        refine lv_ishl hx hb dX5_isOrder_65 ?_
        refine lv_iconst (v := 1) hx hb dX5_isOrder_66 (by decide) ?_
        refine lv_isub hx hb dX5_isOrder_67 ?_
        refine lv_icmp_ne (tgt := 75) hx hb dX5_isOrder_68 (by decide) (fun g2 => ?_) (fun g2 => ?_)
        · rw [if_neg g2] at h
          refine lv_iconst (v := 0) hx hb dX5_isOrder_75 (by decide) ?_
          cases h
          exact e_zW hx hb hr hlk (by decide) rfl hw hS dX5_isOrder_76
        · rw [if_pos g2] at h
          refine lv_iconst (v := 1) hx hb dX5_isOrder_71 (by decide) ?_
          refine lv_goto (tgt := 76) hx hb dX5_isOrder_72 (by decide) ?_
          cases h
          exact e_zW hx hb hr hlk (by decide) rfl hw hS dX5_isOrder_76
      · rw [if_neg g1] at h
        refine lv_aload_n hx hb dX5_isOrder_17 rfl (lv_at hl 0 rfl) ?_
        refine gX5_40 hx hb hB hown hK hw dX5_isOrder_18 ?_
        refine lv_iload hx hb dX5_isOrder_21 (lv_at hl 3 rfl) ?_
        refine lv_aload_n hx hb dX5_isOrder_23 rfl (lv_at hl 0 rfl) ?_
        refine gX5_37 hx hb hB hown hK hw dX5_isOrder_24 ?_
        refine lv_iload_n hx hb dX5_isOrder_27 rfl (lv_at hl 1 rfl) ?_
        refine lv_aload_n hx hb dX5_isOrder_28 rfl (lv_at hl 0 rfl) ?_
        refine gX5_191 hx hb hB hown hK hw dX5_isOrder_29 ?_
        obtain ⟨g3, h⟩ := gB_ok h
        refine lv_irem hx hb dX5_isOrder_32 (nz_ok g3) ?_
        obtain ⟨g4, h⟩ := gB_ok h
        refine lM hx hb hK hw (by decide) (by decide) (ib_ok g4) dX5_isOrder_33 ?_
        obtain ⟨g5, h⟩ := gB_ok h
        refine sM hx hb hK hw hS (fun _ z => z) (by decide) (by decide) (ib_ok g5) dX5_isOrder_34 (fun H6 L6 hw hS => ?_)
        refine lv_iload_n hx hb dX5_isOrder_35 rfl (lv_at hl 2 rfl) ?_
        refine lv_iconst (v := 1) hx hb dX5_isOrder_36 (by decide) ?_
        refine lv_iload_n hx hb dX5_isOrder_37 rfl (lv_at hl 1 rfl) ?_
        refine lv_aload_n hx hb dX5_isOrder_38 rfl (lv_at hl 0 rfl) ?_
        refine gX5_191 hx hb hB hown hK hw dX5_isOrder_39 ?_
        obtain ⟨g7, h⟩ := gB_ok h
        refine lv_irem hx hb dX5_isOrder_42 (nz_ok g7) ?_
        refine lv_ishl hx hb dX5_isOrder_43 ?_
        refine lv_ior hx hb dX5_isOrder_44 ?_
        refine lv_istore_n (lv' := [(3, .int (v3_12 ||| (1 <<< ((v2_12 - v2_12 / ((u2 S_12 11 v4_12.toNatClampNeg (S_12 10 (v2_12 - v2_12 / (S_12 0 20) * (S_12 0 20)).toNatClampNeg)) 0 20) * ((u2 S_12 11 v4_12.toNatClampNeg (S_12 10 (v2_12 - v2_12 / (S_12 0 20) * (S_12 0 20)).toNatClampNeg)) 0 20)) &&& 31)))), (0, .ref (am 0)), (2, .int v2_12), (4, .int v4_12)]) hx hb dX5_isOrder_45 rfl hl (by decide) rfl (fun ls hl => ?_)
        refine lv_iload_n hx hb dX5_isOrder_46 rfl (lv_at hl 2 rfl) ?_
        refine lv_aload_n hx hb dX5_isOrder_47 rfl (lv_at hl 1 rfl) ?_
        refine gX5_191 hx hb hB hown hK hw dX5_isOrder_48 ?_
        obtain ⟨g8, h⟩ := gB_ok h
        refine lv_idiv hx hb dX5_isOrder_51 (nz_ok g8) ?_
        refine lv_istore_n (lv' := [(2, .int (v2_12 / ((u2 S_12 11 v4_12.toNatClampNeg (S_12 10 (v2_12 - v2_12 / (S_12 0 20) * (S_12 0 20)).toNatClampNeg)) 0 20))), (3, .int (v3_12 ||| (1 <<< ((v2_12 - v2_12 / ((u2 S_12 11 v4_12.toNatClampNeg (S_12 10 (v2_12 - v2_12 / (S_12 0 20) * (S_12 0 20)).toNatClampNeg)) 0 20) * ((u2 S_12 11 v4_12.toNatClampNeg (S_12 10 (v2_12 - v2_12 / (S_12 0 20) * (S_12 0 20)).toNatClampNeg)) 0 20)) &&& 31)))), (0, .ref (am 0)), (4, .int v4_12)]) hx hb dX5_isOrder_52 rfl hl (by decide) rfl (fun ls hl => ?_)
        refine lv_iinc (v := (v4_12 + (-1))) (lv' := [(4, .int (v4_12 + (-1))), (2, .int (v2_12 / ((u2 S_12 11 v4_12.toNatClampNeg (S_12 10 (v2_12 - v2_12 / (S_12 0 20) * (S_12 0 20)).toNatClampNeg)) 0 20))), (3, .int (v3_12 ||| (1 <<< ((v2_12 - v2_12 / ((u2 S_12 11 v4_12.toNatClampNeg (S_12 10 (v2_12 - v2_12 / (S_12 0 20) * (S_12 0 20)).toNatClampNeg)) 0 20) * ((u2 S_12 11 v4_12.toNatClampNeg (S_12 10 (v2_12 - v2_12 / (S_12 0 20) * (S_12 0 20)).toNatClampNeg)) 0 20)) &&& 31)))), (0, .ref (am 0))]) hx hb dX5_isOrder_53 hl (k := 3) rfl rfl (by decide) rfl (fun ls hl => ?_)
        refine lv_goto (tgt := 12) hx hb dX5_isOrder_56 (by decide) ?_
        exact ih_12 (v2_12 / ((u2 S_12 11 v4_12.toNatClampNeg (S_12 10 (v2_12 - v2_12 / (S_12 0 20) * (S_12 0 20)).toNatClampNeg)) 0 20)) (v3_12 ||| (1 <<< ((v2_12 - v2_12 / ((u2 S_12 11 v4_12.toNatClampNeg (S_12 10 (v2_12 - v2_12 / (S_12 0 20) * (S_12 0 20)).toNatClampNeg)) 0 20) * ((u2 S_12 11 v4_12.toNatClampNeg (S_12 10 (v2_12 - v2_12 / (S_12 0 20) * (S_12 0 20)).toNatClampNeg)) 0 20)) &&& 31))) (v4_12 + (-1)) (u2 S_12 11 v4_12.toNatClampNeg (S_12 10 (v2_12 - v2_12 / (S_12 0 20) * (S_12 0 20)).toNatClampNeg)) _ _ _ (lv_sub hl [3, 1, 2, 0] rfl) hw hS h
  refine lv_iload_n hx hb dX5_isOrder_0 rfl (lv_at hl 1 rfl) ?_
  refine lv_istore_n (lv' := [(2, .int a1), (0, .ref (am 0)), (1, .int a1)]) hx hb dX5_isOrder_1 rfl hl (by decide) rfl (fun ls hl => ?_)
  refine lv_iconst (v := 0) hx hb dX5_isOrder_2 (by decide) ?_
  refine lv_istore_n (lv' := [(3, .int 0), (2, .int a1), (0, .ref (am 0)), (1, .int a1)]) hx hb dX5_isOrder_3 rfl hl (by decide) rfl (fun ls hl => ?_)
  refine lv_aload_n hx hb dX5_isOrder_4 rfl (lv_at hl 2 rfl) ?_
  refine gX5_191 hx hb hB hown hK hw dX5_isOrder_5 ?_
  refine lv_iconst (v := 1) hx hb dX5_isOrder_8 (by decide) ?_
  refine lv_isub hx hb dX5_isOrder_9 ?_
  refine lv_istore (lv' := [(4, .int ((S 0 20) - 1)), (3, .int 0), (2, .int a1), (0, .ref (am 0)), (1, .int a1)]) hx hb dX5_isOrder_10 hl (by decide) rfl (fun ls hl => ?_)
  exact hL12 FU a1 0 ((S 0 20) - 1) S _ _ _ (lv_sub hl [3, 2, 1, 0] rfl) hw hS h
def fX5_soonest_L45 (v2_45 : Int32) : Nat → Int32 → Int32 → OS → Option (Int32 × OS)
  | 0, _, _, _ => none
  | n_45 + 1, v3_45, v4_45, S_45 => if v2_45 ≤ v4_45 then some (v3_45, S_45) else (fX5_isOrder S_45 v4_45).bind (fun r2 => (if r2.1 = 0 then fX5_soonest_L45 v2_45 n_45 v3_45 (v4_45 + 1) r2.2 else (fX5_takesSo r2.2).bind (fun r5 => (if v3_45 ≤ r5.1 then fX5_soonest_L45 v2_45 n_45 v3_45 (v4_45 + 1) r5.2 else (fX5_put r5.2 12 0 11 (r5.2 0 20)).bind (fun r8 => (fX5_soonest_L45 v2_45 n_45 r5.1 (v4_45 + 1) r8))))))
def fX5_soonest_L18 (S_18 : OS) : Nat → Int32 → Int32 → Option (Int32 × OS)
  | 0, _, _ => none
  | n_18 + 1, v2_18, v3_18 => if (S_18 0 20) ≤ v3_18 then fX5_soonest_L45 v2_18 FU 1000000 0 S_18 else fX5_soonest_L18 S_18 n_18 (v2_18 * (S_18 0 20)) (v3_18 + 1)
def fX5_soonest (S : OS) (a1 : Int32) : Option (Int32 × OS) := (fX5_findGuests S a1).bind (fun r11 => (if (r11 0 20) = 0 then some (0, r11) else fX5_soonest_L18 r11 FU 1 0))
abbrev rmX5_soonest : Room := { frames := 4, cells := 0, slots := 0, locals := 89 }
set_option maxHeartbeats 4000000 in
set_option maxRecDepth 100000 in
theorem c_X5_soonest (l : Launch) (E : En) (am : Nat → Nat) (S : OS) (a1 : Int32) (r : Int32 × OS) (h : fX5_soonest S a1 = some r) : Met l yX5_soonest (kX5_soonest :: BIG) rmX5_soonest (Pk E [.ref (am 0), .int a1] (MW E am S)) (QW (some (.int r.1)) (AM am) (MW E am r.2)) 0 0 (AM am) := by
  refine Mb (by decide) (Nat.le_of_ble_eq_true rfl) ?_
  intro p e s m below meth c ls hx hb hr hlk hB hown hml _ hK hw hl
  have hS : va_S (AM am) s.heap s.heap [] := va_S.rf
  have hl : lv_has ls 6 [(0, .ref (am 0)), (1, .int a1)] := hl
  rw [fX5_soonest] at h
  have hL45 : ∀ (n_45 : Nat) (v2_45 : Int32) (v3_45 : Int32) (v4_45 : Int32) (S_45 : OS) (H_45 : Heap) (L_45 : List Loc) (ls_45 : Array Slot), lv_has ls_45 6 [(0, .ref (am 0)), (2, .int v2_45), (3, .int v3_45), (4, .int v4_45)] → MW E am S_45 H_45 → va_S (AM am) s.heap H_45 L_45 → fX5_soonest_L45 v2_45 n_45 v3_45 v4_45 S_45 = some r → W p l e rmX5_soonest s m ([.ref (am 0), .int a1] : List Value).toArray below meth c H_45 L_45 0 0 (MQ below (QW (some (.int r.1)) (AM am) (MW E am r.2)) ([.ref (am 0), .int a1] : List Value).toArray s 0 0 (AM am)) (F0 m 45 ls_45 []) := by
    intro n_45
    induction n_45 with
    | zero =>
      intro v2_45 v3_45 v4_45 S_45 H_45 L_45 ls_45 hl hw hS h
      exact nn h
    | succ n_45 ih_45 =>
      intro v2_45 v3_45 v4_45 S_45 H_45 L_45 ls_45 hl hw hS h
      rw [fX5_soonest_L45] at h
      refine lv_iload hx hb dX5_soonest_45 (lv_at hl 3 rfl) ?_
      refine lv_iload_n hx hb dX5_soonest_47 rfl (lv_at hl 1 rfl) ?_
      refine lv_icmp_ge (tgt := 97) hx hb dX5_soonest_48 (by decide) (fun g1 => ?_) (fun g1 => ?_)
      · rw [if_pos g1] at h
        refine lv_iload_n hx hb dX5_soonest_97 rfl (lv_at hl 2 rfl) ?_
        cases h
        exact e_zW hx hb hr hlk rfl rfl hw hS dX5_soonest_98
      · rw [if_neg g1] at h
        refine lv_aload_n hx hb dX5_soonest_51 rfl (lv_at hl 0 rfl) ?_
        refine lv_iload hx hb dX5_soonest_52 (lv_at hl 3 rfl) ?_
        obtain ⟨r2, e2, h⟩ := ob h
        refine k_VWi ⟨hx, hb, hml, hown, hB⟩ (c_X5_isOrder l E am S_45 v4_45 r2 e2) (clX5_221 hB rfl rfl ⟨Nat.le_of_ble_eq_true rfl, Nat.le_of_ble_eq_true rfl⟩) hK hw (rvM hK hw) rfl hl.1 rfl (Nat.le_of_ble_eq_true rfl) dX5_soonest_54 ⟨Nat.zero_le _, Nat.zero_le _⟩ hS (fun _ z => z) (fun H3 L3 hw _ _ hS => ?_)
        refine lv_if_eq (tgt := 91) hx hb dX5_soonest_57 (by decide) (fun g4 => ?_) (fun g4 => ?_)
        · rw [if_pos g4] at h
          refine lv_iinc (v := (v4_45 + 1)) (lv' := [(4, .int (v4_45 + 1)), (0, .ref (am 0)), (2, .int v2_45), (3, .int v3_45)]) hx hb dX5_soonest_91 hl (k := 3) rfl rfl (by decide) rfl (fun ls hl => ?_)
          refine lv_goto (tgt := 45) hx hb dX5_soonest_94 (by decide) ?_
          exact ih_45 v2_45 v3_45 (v4_45 + 1) r2.2 _ _ _ (lv_sub hl [1, 2, 3, 0] rfl) hw hS h
        · rw [if_neg g4] at h
          refine lv_aload_n hx hb dX5_soonest_60 rfl (lv_at hl 0 rfl) ?_
          obtain ⟨r5, e5, h⟩ := ob h
          refine k_VWi ⟨hx, hb, hml, hown, hB⟩ (c_X5_takesSo l E am r2.2 r5 e5) (clX5_217 hB rfl rfl ⟨Nat.le_of_ble_eq_true rfl, Nat.le_of_ble_eq_true rfl⟩) hK hw (rvM hK hw) rfl hl.1 rfl (Nat.le_of_ble_eq_true rfl) dX5_soonest_61 ⟨Nat.zero_le _, Nat.zero_le _⟩ hS (fun _ z => z) (fun H6 L6 hw _ _ hS => ?_)
          refine lv_istore (lv' := [(5, .int r5.1), (0, .ref (am 0)), (2, .int v2_45), (3, .int v3_45), (4, .int v4_45)]) hx hb dX5_soonest_64 hl (by decide) rfl (fun ls hl => ?_)
          refine lv_iload hx hb dX5_soonest_66 (lv_at hl 0 rfl) ?_
          refine lv_iload_n hx hb dX5_soonest_68 rfl (lv_at hl 3 rfl) ?_
          refine lv_icmp_ge (tgt := 91) hx hb dX5_soonest_69 (by decide) (fun g7 => ?_) (fun g7 => ?_)
          · rw [if_pos g7] at h
            refine lv_iinc (v := (v4_45 + 1)) (lv' := [(4, .int (v4_45 + 1)), (5, .int r5.1), (0, .ref (am 0)), (2, .int v2_45), (3, .int v3_45)]) hx hb dX5_soonest_91 hl (k := 4) rfl rfl (by decide) rfl (fun ls hl => ?_)
            refine lv_goto (tgt := 45) hx hb dX5_soonest_94 (by decide) ?_
            exact ih_45 v2_45 v3_45 (v4_45 + 1) r5.2 _ _ _ (lv_sub hl [2, 3, 4, 0] rfl) hw hS h
          · rw [if_neg g7] at h
            refine lv_iload hx hb dX5_soonest_72 (lv_at hl 0 rfl) ?_
            refine lv_istore_n (lv' := [(3, .int r5.1), (5, .int r5.1), (0, .ref (am 0)), (2, .int v2_45), (4, .int v4_45)]) hx hb dX5_soonest_74 rfl hl (by decide) rfl (fun ls hl => ?_)
            refine lv_aload_n hx hb dX5_soonest_75 rfl (lv_at hl 2 rfl) ?_
            refine gX5_43 hx hb hB hown hK hw dX5_soonest_76 ?_
            refine lv_iconst (v := 0) hx hb dX5_soonest_79 (by decide) ?_
            refine lv_aload_n hx hb dX5_soonest_80 rfl (lv_at hl 2 rfl) ?_
            refine gX5_40 hx hb hB hown hK hw dX5_soonest_81 ?_
            refine lv_aload_n hx hb dX5_soonest_84 rfl (lv_at hl 2 rfl) ?_
            refine gX5_191 hx hb hB hown hK hw dX5_soonest_85 ?_
            obtain ⟨r8, e8, h⟩ := ob h
            refine k_SWv ⟨hx, hb, hml, hown, hB⟩ (c_X5_put l E am r5.2 12 0 11 (r5.2 0 20) (by decide) (by decide) (by decide) (by decide) r8 e8) (clX5_121 hB rfl rfl ⟨Nat.le_of_ble_eq_true rfl, Nat.le_of_ble_eq_true rfl⟩) hK hw rfl hl.1 rfl (Nat.le_of_ble_eq_true rfl) dX5_soonest_88 ⟨Nat.zero_le _, Nat.zero_le _⟩ hS (fun _ z => z) (fun H9 L9 hw _ _ hS => ?_)
            refine lv_iinc (v := (v4_45 + 1)) (lv' := [(4, .int (v4_45 + 1)), (3, .int r5.1), (5, .int r5.1), (0, .ref (am 0)), (2, .int v2_45)]) hx hb dX5_soonest_91 hl (k := 4) rfl rfl (by decide) rfl (fun ls hl => ?_)
            refine lv_goto (tgt := 45) hx hb dX5_soonest_94 (by decide) ?_
            exact ih_45 v2_45 r5.1 (v4_45 + 1) r8 _ _ _ (lv_sub hl [3, 4, 1, 0] rfl) hw hS h
  have hL18 : ∀ (n_18 : Nat) (v2_18 : Int32) (v3_18 : Int32) (S_18 : OS) (H_18 : Heap) (L_18 : List Loc) (ls_18 : Array Slot), lv_has ls_18 6 [(0, .ref (am 0)), (2, .int v2_18), (3, .int v3_18)] → MW E am S_18 H_18 → va_S (AM am) s.heap H_18 L_18 → fX5_soonest_L18 S_18 n_18 v2_18 v3_18 = some r → W p l e rmX5_soonest s m ([.ref (am 0), .int a1] : List Value).toArray below meth c H_18 L_18 0 0 (MQ below (QW (some (.int r.1)) (AM am) (MW E am r.2)) ([.ref (am 0), .int a1] : List Value).toArray s 0 0 (AM am)) (F0 m 18 ls_18 []) := by
    intro n_18
    induction n_18 with
    | zero =>
      intro v2_18 v3_18 S_18 H_18 L_18 ls_18 hl hw hS h
      exact nn h
    | succ n_18 ih_18 =>
      intro v2_18 v3_18 S_18 H_18 L_18 ls_18 hl hw hS h
      rw [fX5_soonest_L18] at h
      refine lv_iload_n hx hb dX5_soonest_18 rfl (lv_at hl 2 rfl) ?_
      refine lv_aload_n hx hb dX5_soonest_19 rfl (lv_at hl 0 rfl) ?_
      refine gX5_191 hx hb hB hown hK hw dX5_soonest_20 ?_
      refine lv_icmp_ge (tgt := 39) hx hb dX5_soonest_23 (by decide) (fun g10 => ?_) (fun g10 => ?_)
      · rw [if_pos g10] at h
        refine lv_ldc hx hb hown (hB _ kcX5_220) dX5_soonest_39 ?_
        refine lv_istore_n (lv' := [(3, .int 1000000), (0, .ref (am 0)), (2, .int v2_18)]) hx hb dX5_soonest_41 rfl hl (by decide) rfl (fun ls hl => ?_)
        refine lv_iconst (v := 0) hx hb dX5_soonest_42 (by decide) ?_
        refine lv_istore (lv' := [(4, .int 0), (3, .int 1000000), (0, .ref (am 0)), (2, .int v2_18)]) hx hb dX5_soonest_43 hl (by decide) rfl (fun ls hl => ?_)
        exact hL45 FU v2_18 1000000 0 S_18 _ _ _ (lv_sub hl [2, 3, 1, 0] rfl) hw hS h
      · rw [if_neg g10] at h
        refine lv_iload_n hx hb dX5_soonest_26 rfl (lv_at hl 1 rfl) ?_
        refine lv_aload_n hx hb dX5_soonest_27 rfl (lv_at hl 0 rfl) ?_
        refine gX5_191 hx hb hB hown hK hw dX5_soonest_28 ?_
        refine lv_imul hx hb dX5_soonest_31 ?_
        refine lv_istore_n (lv' := [(2, .int (v2_18 * (S_18 0 20))), (0, .ref (am 0)), (3, .int v3_18)]) hx hb dX5_soonest_32 rfl hl (by decide) rfl (fun ls hl => ?_)
        refine lv_iinc (v := (v3_18 + 1)) (lv' := [(3, .int (v3_18 + 1)), (2, .int (v2_18 * (S_18 0 20))), (0, .ref (am 0))]) hx hb dX5_soonest_33 hl (k := 2) rfl rfl (by decide) rfl (fun ls hl => ?_)
        refine lv_goto (tgt := 18) hx hb dX5_soonest_36 (by decide) ?_
        exact ih_18 (v2_18 * (S_18 0 20)) (v3_18 + 1) S_18 _ _ _ (lv_sub hl [2, 1, 0] rfl) hw hS h
  refine lv_aload_n hx hb dX5_soonest_0 rfl (lv_at hl 0 rfl) ?_
  refine lv_iload_n hx hb dX5_soonest_1 rfl (lv_at hl 1 rfl) ?_
  obtain ⟨r11, e11, h⟩ := ob h
  refine k_VWv ⟨hx, hb, hml, hown, hB⟩ (c_X5_findGuests l E am S a1 r11 e11) (clX5_213 hB rfl rfl ⟨Nat.le_of_ble_eq_true rfl, Nat.le_of_ble_eq_true rfl⟩) hK hw (rvM hK hw) rfl hl.1 rfl (Nat.le_of_ble_eq_true rfl) dX5_soonest_2 ⟨Nat.zero_le _, Nat.zero_le _⟩ hS (fun _ z => z) (fun H12 L12 hw _ _ hS => ?_)
  refine lv_aload_n hx hb dX5_soonest_5 rfl (lv_at hl 0 rfl) ?_
  refine gX5_191 hx hb hB hown hK hw dX5_soonest_6 ?_
  refine lv_if_ne (tgt := 14) hx hb dX5_soonest_9 (by decide) (fun g13 => ?_) (fun g13 => ?_)
  · rw [if_neg g13] at h
    refine lv_iconst (v := 1) hx hb dX5_soonest_14 (by decide) ?_
    refine lv_istore_n (lv' := [(2, .int 1), (0, .ref (am 0)), (1, .int a1)]) hx hb dX5_soonest_15 rfl hl (by decide) rfl (fun ls hl => ?_)
    refine lv_iconst (v := 0) hx hb dX5_soonest_16 (by decide) ?_
    refine lv_istore_n (lv' := [(3, .int 0), (2, .int 1), (0, .ref (am 0)), (1, .int a1)]) hx hb dX5_soonest_17 rfl hl (by decide) rfl (fun ls hl => ?_)
    exact hL18 FU 1 0 r11 _ _ _ (lv_sub hl [2, 1, 0] rfl) hw hS h
  · rw [if_pos g13] at h
    refine lv_iconst (v := 0) hx hb dX5_soonest_12 (by decide) ?_
    cases h
    exact e_zW hx hb hr hlk rfl rfl hw hS dX5_soonest_13
def fX5_tour (S : OS) (a1 : Int32) : Option (Int32 × OS) := if (-1) ≤ a1 then (fX5_soonest S 63).bind (fun r2 => (if (r2.2 0 20) = 0 then some ((-4), r2.2) else if a1 < (r2.2 0 20) then if 0 ≤ a1 then gB (ib a1 6) (some ((r2.2 12 a1.toNatClampNeg), r2.2)) else some (r2.1, r2.2) else some ((-4), r2.2))) else some ((-1), S)
abbrev rmX5_tour : Room := { frames := 5, cells := 0, slots := 0, locals := 114 }
set_option maxHeartbeats 4000000 in
set_option maxRecDepth 100000 in
theorem c_X5_tour (l : Launch) (E : En) (am : Nat → Nat) (S : OS) (a1 : Int32) (r : Int32 × OS) (h : fX5_tour S a1 = some r) : Met l yX5_tour (kX5_tour :: BIG) rmX5_tour (Pk E [.ref (am 0), .int a1] (MW E am S)) (QW (some (.int r.1)) (AM am) (MW E am r.2)) 0 0 (AM am) := by
  refine Mb (by decide) (Nat.le_of_ble_eq_true rfl) ?_
  intro p e s m below meth c ls hx hb hr hlk hB hown hml _ hK hw hl
  have hS : va_S (AM am) s.heap s.heap [] := va_S.rf
  have hl : lv_has ls 3 [(0, .ref (am 0)), (1, .int a1)] := hl
  rw [fX5_tour] at h
  refine lv_iload_n hx hb dX5_tour_0 rfl (lv_at hl 1 rfl) ?_
  refine lv_iconst (v := (-1)) hx hb dX5_tour_1 (by decide) ?_
  refine lv_icmp_ge (tgt := 7) hx hb dX5_tour_2 (by decide) (fun g1 => ?_) (fun g1 => ?_)
  · rw [if_pos g1] at h
    refine lv_aload_n hx hb dX5_tour_7 rfl (lv_at hl 0 rfl) ?_
    refine lv_bipush (v := 63) hx hb dX5_tour_8 (by decide) ?_
    obtain ⟨r2, e2, h⟩ := ob h
    refine k_VWi ⟨hx, hb, hml, hown, hB⟩ (c_X5_soonest l E am S 63 r2 e2) (clX5_224 hB rfl rfl ⟨Nat.le_of_ble_eq_true rfl, Nat.le_of_ble_eq_true rfl⟩) hK hw (rvM hK hw) rfl hl.1 rfl (Nat.le_of_ble_eq_true rfl) dX5_tour_10 ⟨Nat.zero_le _, Nat.zero_le _⟩ hS (fun _ z => z) (fun H3 L3 hw _ _ hS => ?_)
    refine lv_istore_n (lv' := [(2, .int r2.1), (0, .ref (am 0)), (1, .int a1)]) hx hb dX5_tour_13 rfl hl (by decide) rfl (fun ls hl => ?_)
    refine lv_aload_n hx hb dX5_tour_14 rfl (lv_at hl 1 rfl) ?_
    refine gX5_191 hx hb hB hown hK hw dX5_tour_15 ?_
    refine lv_if_eq (tgt := 29) hx hb dX5_tour_18 (by decide) (fun g4 => ?_) (fun g4 => ?_)
    · rw [if_pos g4] at h
      refine lv_bipush (v := (-4)) hx hb dX5_tour_29 (by decide) ?_
      refine lv_goto (tgt := 48) hx hb dX5_tour_31 (by decide) ?_
      cases h
      exact e_zW hx hb hr hlk rfl rfl hw hS dX5_tour_48
    · rw [if_neg g4] at h
      refine lv_iload_n hx hb dX5_tour_21 rfl (lv_at hl 2 rfl) ?_
      refine lv_aload_n hx hb dX5_tour_22 rfl (lv_at hl 1 rfl) ?_
      refine gX5_191 hx hb hB hown hK hw dX5_tour_23 ?_
      refine lv_icmp_lt (tgt := 34) hx hb dX5_tour_26 (by decide) (fun g5 => ?_) (fun g5 => ?_)
      · rw [if_pos g5] at h
        refine lv_iload_n hx hb dX5_tour_34 rfl (lv_at hl 2 rfl) ?_
        refine lv_if_ge (tgt := 42) hx hb dX5_tour_35 (by decide) (fun g6 => ?_) (fun g6 => ?_)
        · rw [if_pos g6] at h
          refine lv_aload_n hx hb dX5_tour_42 rfl (lv_at hl 1 rfl) ?_
          refine gX5_43 hx hb hB hown hK hw dX5_tour_43 ?_
          refine lv_iload_n hx hb dX5_tour_46 rfl (lv_at hl 2 rfl) ?_
          obtain ⟨g7, h⟩ := gB_ok h
          refine lM hx hb hK hw (by decide) (by decide) (ib_ok g7) dX5_tour_47 ?_
          cases h
          exact e_zW hx hb hr hlk rfl rfl hw hS dX5_tour_48
        · rw [if_neg g6] at h
          refine lv_iload_n hx hb dX5_tour_38 rfl (lv_at hl 0 rfl) ?_
          refine lv_goto (tgt := 48) hx hb dX5_tour_39 (by decide) ?_
          cases h
          exact e_zW hx hb hr hlk rfl rfl hw hS dX5_tour_48
      · rw [if_neg g5] at h
        refine lv_bipush (v := (-4)) hx hb dX5_tour_29 (by decide) ?_
        refine lv_goto (tgt := 48) hx hb dX5_tour_31 (by decide) ?_
        cases h
        exact e_zW hx hb hr hlk rfl rfl hw hS dX5_tour_48
  · rw [if_neg g1] at h
    refine lv_iconst (v := (-1)) hx hb dX5_tour_5 (by decide) ?_
    cases h
    exact e_zW hx hb hr hlk rfl rfl hw hS dX5_tour_6
def fX5_enough (S : OS) : Option (Int32 × OS) := (fX5_soonest S 63).bind (fun r1 => (if (r1.2 0 1) < r1.1 then some (0, r1.2) else some (1, r1.2)))
abbrev rmX5_enough : Room := { frames := 5, cells := 0, slots := 0, locals := 114 }
set_option maxHeartbeats 4000000 in
set_option maxRecDepth 100000 in
theorem c_X5_enough (l : Launch) (E : En) (am : Nat → Nat) (S : OS) (r : Int32 × OS) (h : fX5_enough S = some r) : Met l yX5_enough (kX5_enough :: BIG) rmX5_enough (Pk E [.ref (am 0)] (MW E am S)) (QW (some (.int r.1)) (AM am) (MW E am r.2)) 0 0 (AM am) := by
  refine Mb (by decide) (Nat.le_of_ble_eq_true rfl) ?_
  intro p e s m below meth c ls hx hb hr hlk hB hown hml _ hK hw hl
  have hS : va_S (AM am) s.heap s.heap [] := va_S.rf
  have hl : lv_has ls 1 [(0, .ref (am 0))] := hl
  rw [fX5_enough] at h
  refine lv_aload_n hx hb dX5_enough_0 rfl (lv_at hl 0 rfl) ?_
  refine lv_bipush (v := 63) hx hb dX5_enough_1 (by decide) ?_
  obtain ⟨r1, e1, h⟩ := ob h
  refine k_VWi ⟨hx, hb, hml, hown, hB⟩ (c_X5_soonest l E am S 63 r1 e1) (clX5_224 hB rfl rfl ⟨Nat.le_of_ble_eq_true rfl, Nat.le_of_ble_eq_true rfl⟩) hK hw (rvM hK hw) rfl hl.1 rfl (Nat.le_of_ble_eq_true rfl) dX5_enough_3 ⟨Nat.zero_le _, Nat.zero_le _⟩ hS (fun _ z => z) (fun H2 L2 hw _ _ hS => ?_)
  refine lv_aload_n hx hb dX5_enough_6 rfl (lv_at hl 0 rfl) ?_
  refine gX5_118 hx hb hB hown hK hw dX5_enough_7 ?_
  refine lv_icmp_gt (tgt := 17) hx hb dX5_enough_10 (by decide) (fun g3 => ?_) (fun g3 => ?_)
  · rw [if_pos g3] at h
    refine lv_iconst (v := 0) hx hb dX5_enough_17 (by decide) ?_
    cases h
    exact e_zW hx hb hr hlk rfl rfl hw hS dX5_enough_18
  · rw [if_neg g3] at h
    refine lv_iconst (v := 1) hx hb dX5_enough_13 (by decide) ?_
    refine lv_goto (tgt := 18) hx hb dX5_enough_14 (by decide) ?_
    cases h
    exact e_zW hx hb hr hlk rfl rfl hw hS dX5_enough_18
def fX5_leave_L40 (v1_40 : Int32) : Nat → Int32 → Int32 → OS → Option (Int32 × OS)
  | 0, _, _, _ => none
  | n_40 + 1, v2_40, v3_40, S_40 => if 64 ≤ v3_40 then some (v2_40, S_40) else if (v3_40 &&& (v1_40 ^^^ (-1))) = 0 then if v2_40 < 0 then (fX5_soonest S_40 (v1_40 &&& (v3_40 ^^^ (-1)))).bind (fun r4 => (if (r4.2 0 1) < r4.1 then fX5_leave_L40 v1_40 n_40 v2_40 (v3_40 + 1) r4.2 else fX5_leave_L40 v1_40 n_40 v3_40 (v3_40 + 1) r4.2)) else (fX5_bits v3_40).bind (fun r7 => ((fX5_bits v2_40).bind (fun r8 => (if r8 ≤ r7 then fX5_leave_L40 v1_40 n_40 v2_40 (v3_40 + 1) S_40 else (fX5_soonest S_40 (v1_40 &&& (v3_40 ^^^ (-1)))).bind (fun r10 => (if (r10.2 0 1) < r10.1 then fX5_leave_L40 v1_40 n_40 v2_40 (v3_40 + 1) r10.2 else fX5_leave_L40 v1_40 n_40 v3_40 (v3_40 + 1) r10.2)))))) else fX5_leave_L40 v1_40 n_40 v2_40 (v3_40 + 1) S_40
def fX5_leave_L10 (S_10 : OS) : Nat → Int32 → Int32 → Option (Int32 × OS)
  | 0, _, _ => none
  | n_10 + 1, v1_10, v2_10 => if (S_10 0 20) ≤ v2_10 then fX5_leave_L40 v1_10 FU (-4) 0 S_10 else gB (ib v2_10 6) (fX5_leave_L10 S_10 n_10 (v1_10 ||| (1 <<< ((S_10 10 v2_10.toNatClampNeg) &&& 31))) (v2_10 + 1))
def fX5_leave (S : OS) : Option (Int32 × OS) := (fX5_findGuests S 63).bind (fun r15 => (fX5_leave_L10 r15 FU 0 0))
abbrev rmX5_leave : Room := { frames := 5, cells := 0, slots := 0, locals := 114 }
set_option maxHeartbeats 4000000 in
set_option maxRecDepth 100000 in
theorem c_X5_leave (l : Launch) (E : En) (am : Nat → Nat) (S : OS) (r : Int32 × OS) (h : fX5_leave S = some r) : Met l yX5_leave (kX5_leave :: BIG) rmX5_leave (Pk E [.ref (am 0)] (MW E am S)) (QW (some (.int r.1)) (AM am) (MW E am r.2)) 0 0 (AM am) := by
  refine Mb (by decide) (Nat.le_of_ble_eq_true rfl) ?_
  intro p e s m below meth c ls hx hb hr hlk hB hown hml _ hK hw hl
  have hS : va_S (AM am) s.heap s.heap [] := va_S.rf
  have hl : lv_has ls 5 [(0, .ref (am 0))] := hl
  rw [fX5_leave] at h
  have hL40 : ∀ (n_40 : Nat) (v1_40 : Int32) (v2_40 : Int32) (v3_40 : Int32) (S_40 : OS) (H_40 : Heap) (L_40 : List Loc) (ls_40 : Array Slot), lv_has ls_40 5 [(0, .ref (am 0)), (1, .int v1_40), (2, .int v2_40), (3, .int v3_40)] → MW E am S_40 H_40 → va_S (AM am) s.heap H_40 L_40 → fX5_leave_L40 v1_40 n_40 v2_40 v3_40 S_40 = some r → W p l e rmX5_leave s m ([.ref (am 0)] : List Value).toArray below meth c H_40 L_40 0 0 (MQ below (QW (some (.int r.1)) (AM am) (MW E am r.2)) ([.ref (am 0)] : List Value).toArray s 0 0 (AM am)) (F0 m 40 ls_40 []) := by
    intro n_40
    induction n_40 with
    | zero =>
      intro v1_40 v2_40 v3_40 S_40 H_40 L_40 ls_40 hl hw hS h
      exact nn h
    | succ n_40 ih_40 =>
      intro v1_40 v2_40 v3_40 S_40 H_40 L_40 ls_40 hl hw hS h
      rw [fX5_leave_L40] at h
      refine lv_iload_n hx hb dX5_leave_40 rfl (lv_at hl 3 rfl) ?_
      refine lv_bipush (v := 64) hx hb dX5_leave_41 (by decide) ?_
      refine lv_icmp_ge (tgt := 109) hx hb dX5_leave_43 (by decide) (fun g1 => ?_) (fun g1 => ?_)
      · rw [if_pos g1] at h
        refine lv_iload_n hx hb dX5_leave_109 rfl (lv_at hl 2 rfl) ?_
        cases h
        exact e_zW hx hb hr hlk rfl rfl hw hS dX5_leave_110
      · rw [if_neg g1] at h
        refine lv_iload_n hx hb dX5_leave_46 rfl (lv_at hl 3 rfl) ?_
        refine lv_iload_n hx hb dX5_leave_47 rfl (lv_at hl 1 rfl) ?_
        refine lv_iconst (v := (-1)) hx hb dX5_leave_48 (by decide) ?_
        refine lv_ixor hx hb dX5_leave_49 ?_
        refine lv_iand hx hb dX5_leave_50 ?_
        refine lv_if_ne (tgt := 73) hx hb dX5_leave_51 (by decide) (fun g2 => ?_) (fun g2 => ?_)
        · rw [if_neg g2] at h
          refine lv_iconst (v := 0) hx hb dX5_leave_73 (by decide) ?_
          refine lv_istore (lv' := [(4, .int 0), (0, .ref (am 0)), (1, .int v1_40), (2, .int v2_40), (3, .int v3_40)]) hx hb dX5_leave_74 hl (by decide) rfl (fun ls hl => ?_)
          refine lv_iload hx hb dX5_leave_76 (lv_at hl 0 rfl) ?_
          refine lv_if_eq (tgt := 103) hx hb dX5_leave_78 (by decide) (fun _ => ?_) (fun g => absurd (by decide) g)
          refine lv_iinc (v := (v3_40 + 1)) (lv' := [(3, .int (v3_40 + 1)), (4, .int 0), (0, .ref (am 0)), (1, .int v1_40), (2, .int v2_40)]) hx hb dX5_leave_103 hl (k := 4) rfl rfl (by decide) rfl (fun ls hl => ?_)
          refine lv_goto (tgt := 40) hx hb dX5_leave_106 (by decide) ?_
          exact ih_40 v1_40 v2_40 (v3_40 + 1) S_40 _ _ _ (lv_sub hl [2, 3, 4, 0] rfl) hw hS h
        · rw [if_pos g2] at h
          refine lv_iload_n hx hb dX5_leave_54 rfl (lv_at hl 2 rfl) ?_
          refine lv_if_lt (tgt := 69) hx hb dX5_leave_55 (by decide) (fun g3 => ?_) (fun g3 => ?_)
          · rw [if_pos g3] at h
            refine lv_iconst (v := 1) hx hb dX5_leave_69 (by decide) ?_
            refine lv_goto (tgt := 74) hx hb dX5_leave_70 (by decide) ?_
            refine lv_istore (lv' := [(4, .int 1), (0, .ref (am 0)), (1, .int v1_40), (2, .int v2_40), (3, .int v3_40)]) hx hb dX5_leave_74 hl (by decide) rfl (fun ls hl => ?_)
            refine lv_iload hx hb dX5_leave_76 (lv_at hl 0 rfl) ?_
            refine lv_if_eq (tgt := 103) hx hb dX5_leave_78 (by decide) (fun g => absurd g (by decide)) (fun _ => ?_)
            refine lv_aload_n hx hb dX5_leave_81 rfl (lv_at hl 1 rfl) ?_
            refine lv_iload_n hx hb dX5_leave_82 rfl (lv_at hl 2 rfl) ?_
            refine lv_iload_n hx hb dX5_leave_83 rfl (lv_at hl 4 rfl) ?_
            refine lv_iconst (v := (-1)) hx hb dX5_leave_84 (by decide) ?_
            refine lv_ixor hx hb dX5_leave_85 ?_
            refine lv_iand hx hb dX5_leave_86 ?_
            obtain ⟨r4, e4, h⟩ := ob h
            refine k_VWi ⟨hx, hb, hml, hown, hB⟩ (c_X5_soonest l E am S_40 (v1_40 &&& (v3_40 ^^^ (-1))) r4 e4) (clX5_224 hB rfl rfl ⟨Nat.le_of_ble_eq_true rfl, Nat.le_of_ble_eq_true rfl⟩) hK hw (rvM hK hw) rfl hl.1 rfl (Nat.le_of_ble_eq_true rfl) dX5_leave_87 ⟨Nat.zero_le _, Nat.zero_le _⟩ hS (fun _ z => z) (fun H5 L5 hw _ _ hS => ?_)
            refine lv_aload_n hx hb dX5_leave_90 rfl (lv_at hl 1 rfl) ?_
            refine gX5_118 hx hb hB hown hK hw dX5_leave_91 ?_
            refine lv_icmp_gt (tgt := 101) hx hb dX5_leave_94 (by decide) (fun g6 => ?_) (fun g6 => ?_)
            · rw [if_pos g6] at h
              refine lv_iload_n hx hb dX5_leave_101 rfl (lv_at hl 3 rfl) ?_
              refine lv_istore_n (lv' := [(2, .int v2_40), (4, .int 1), (0, .ref (am 0)), (1, .int v1_40), (3, .int v3_40)]) hx hb dX5_leave_102 rfl hl (by decide) rfl (fun ls hl => ?_)
              refine lv_iinc (v := (v3_40 + 1)) (lv' := [(3, .int (v3_40 + 1)), (2, .int v2_40), (4, .int 1), (0, .ref (am 0)), (1, .int v1_40)]) hx hb dX5_leave_103 hl (k := 4) rfl rfl (by decide) rfl (fun ls hl => ?_)
              refine lv_goto (tgt := 40) hx hb dX5_leave_106 (by decide) ?_
              exact ih_40 v1_40 v2_40 (v3_40 + 1) r4.2 _ _ _ (lv_sub hl [3, 4, 1, 0] rfl) hw hS h
            · rw [if_neg g6] at h
              refine lv_iload_n hx hb dX5_leave_97 rfl (lv_at hl 4 rfl) ?_
              refine lv_goto (tgt := 102) hx hb dX5_leave_98 (by decide) ?_
              refine lv_istore_n (lv' := [(2, .int v3_40), (4, .int 1), (0, .ref (am 0)), (1, .int v1_40), (3, .int v3_40)]) hx hb dX5_leave_102 rfl hl (by decide) rfl (fun ls hl => ?_)
              refine lv_iinc (v := (v3_40 + 1)) (lv' := [(3, .int (v3_40 + 1)), (2, .int v3_40), (4, .int 1), (0, .ref (am 0)), (1, .int v1_40)]) hx hb dX5_leave_103 hl (k := 4) rfl rfl (by decide) rfl (fun ls hl => ?_)
              refine lv_goto (tgt := 40) hx hb dX5_leave_106 (by decide) ?_
              exact ih_40 v1_40 v3_40 (v3_40 + 1) r4.2 _ _ _ (lv_sub hl [3, 4, 1, 0] rfl) hw hS h
          · rw [if_neg g3] at h
            refine lv_iload_n hx hb dX5_leave_58 rfl (lv_at hl 3 rfl) ?_
            obtain ⟨r7, e7, h⟩ := ob h
            refine k_SR ⟨hx, hb, hml, hown, hB⟩ (c_X5_bits l E v3_40 r7 e7) (clX5_227 hB rfl rfl ⟨Nat.le_of_ble_eq_true rfl, Nat.le_of_ble_eq_true rfl⟩) hK trivial rfl hl.1 rfl (Nat.le_of_ble_eq_true rfl) dX5_leave_59 ⟨Nat.zero_le _, Nat.zero_le _⟩ ?_
            refine lv_iload_n hx hb dX5_leave_62 rfl (lv_at hl 2 rfl) ?_
            obtain ⟨r8, e8, h⟩ := ob h
            refine k_SR ⟨hx, hb, hml, hown, hB⟩ (c_X5_bits l E v2_40 r8 e8) (clX5_227 hB rfl rfl ⟨Nat.le_of_ble_eq_true rfl, Nat.le_of_ble_eq_true rfl⟩) hK trivial rfl hl.1 rfl (Nat.le_of_ble_eq_true rfl) dX5_leave_63 ⟨Nat.zero_le _, Nat.zero_le _⟩ ?_
            refine lv_icmp_ge (tgt := 73) hx hb dX5_leave_66 (by decide) (fun g9 => ?_) (fun g9 => ?_)
            · rw [if_pos g9] at h
              refine lv_iconst (v := 0) hx hb dX5_leave_73 (by decide) ?_
              refine lv_istore (lv' := [(4, .int 0), (0, .ref (am 0)), (1, .int v1_40), (2, .int v2_40), (3, .int v3_40)]) hx hb dX5_leave_74 hl (by decide) rfl (fun ls hl => ?_)
              refine lv_iload hx hb dX5_leave_76 (lv_at hl 0 rfl) ?_
              refine lv_if_eq (tgt := 103) hx hb dX5_leave_78 (by decide) (fun _ => ?_) (fun g => absurd (by decide) g)
              refine lv_iinc (v := (v3_40 + 1)) (lv' := [(3, .int (v3_40 + 1)), (4, .int 0), (0, .ref (am 0)), (1, .int v1_40), (2, .int v2_40)]) hx hb dX5_leave_103 hl (k := 4) rfl rfl (by decide) rfl (fun ls hl => ?_)
              refine lv_goto (tgt := 40) hx hb dX5_leave_106 (by decide) ?_
              exact ih_40 v1_40 v2_40 (v3_40 + 1) S_40 _ _ _ (lv_sub hl [2, 3, 4, 0] rfl) hw hS h
            · rw [if_neg g9] at h
              refine lv_iconst (v := 1) hx hb dX5_leave_69 (by decide) ?_
              refine lv_goto (tgt := 74) hx hb dX5_leave_70 (by decide) ?_
              refine lv_istore (lv' := [(4, .int 1), (0, .ref (am 0)), (1, .int v1_40), (2, .int v2_40), (3, .int v3_40)]) hx hb dX5_leave_74 hl (by decide) rfl (fun ls hl => ?_)
              refine lv_iload hx hb dX5_leave_76 (lv_at hl 0 rfl) ?_
              refine lv_if_eq (tgt := 103) hx hb dX5_leave_78 (by decide) (fun g => absurd g (by decide)) (fun _ => ?_)
              refine lv_aload_n hx hb dX5_leave_81 rfl (lv_at hl 1 rfl) ?_
              refine lv_iload_n hx hb dX5_leave_82 rfl (lv_at hl 2 rfl) ?_
              refine lv_iload_n hx hb dX5_leave_83 rfl (lv_at hl 4 rfl) ?_
              refine lv_iconst (v := (-1)) hx hb dX5_leave_84 (by decide) ?_
              refine lv_ixor hx hb dX5_leave_85 ?_
              refine lv_iand hx hb dX5_leave_86 ?_
              obtain ⟨r10, e10, h⟩ := ob h
              refine k_VWi ⟨hx, hb, hml, hown, hB⟩ (c_X5_soonest l E am S_40 (v1_40 &&& (v3_40 ^^^ (-1))) r10 e10) (clX5_224 hB rfl rfl ⟨Nat.le_of_ble_eq_true rfl, Nat.le_of_ble_eq_true rfl⟩) hK hw (rvM hK hw) rfl hl.1 rfl (Nat.le_of_ble_eq_true rfl) dX5_leave_87 ⟨Nat.zero_le _, Nat.zero_le _⟩ hS (fun _ z => z) (fun H11 L11 hw _ _ hS => ?_)
              refine lv_aload_n hx hb dX5_leave_90 rfl (lv_at hl 1 rfl) ?_
              refine gX5_118 hx hb hB hown hK hw dX5_leave_91 ?_
              refine lv_icmp_gt (tgt := 101) hx hb dX5_leave_94 (by decide) (fun g12 => ?_) (fun g12 => ?_)
              · rw [if_pos g12] at h
                refine lv_iload_n hx hb dX5_leave_101 rfl (lv_at hl 3 rfl) ?_
                refine lv_istore_n (lv' := [(2, .int v2_40), (4, .int 1), (0, .ref (am 0)), (1, .int v1_40), (3, .int v3_40)]) hx hb dX5_leave_102 rfl hl (by decide) rfl (fun ls hl => ?_)
                refine lv_iinc (v := (v3_40 + 1)) (lv' := [(3, .int (v3_40 + 1)), (2, .int v2_40), (4, .int 1), (0, .ref (am 0)), (1, .int v1_40)]) hx hb dX5_leave_103 hl (k := 4) rfl rfl (by decide) rfl (fun ls hl => ?_)
                refine lv_goto (tgt := 40) hx hb dX5_leave_106 (by decide) ?_
                exact ih_40 v1_40 v2_40 (v3_40 + 1) r10.2 _ _ _ (lv_sub hl [3, 4, 1, 0] rfl) hw hS h
              · rw [if_neg g12] at h
                refine lv_iload_n hx hb dX5_leave_97 rfl (lv_at hl 4 rfl) ?_
                refine lv_goto (tgt := 102) hx hb dX5_leave_98 (by decide) ?_
                refine lv_istore_n (lv' := [(2, .int v3_40), (4, .int 1), (0, .ref (am 0)), (1, .int v1_40), (3, .int v3_40)]) hx hb dX5_leave_102 rfl hl (by decide) rfl (fun ls hl => ?_)
                refine lv_iinc (v := (v3_40 + 1)) (lv' := [(3, .int (v3_40 + 1)), (2, .int v3_40), (4, .int 1), (0, .ref (am 0)), (1, .int v1_40)]) hx hb dX5_leave_103 hl (k := 4) rfl rfl (by decide) rfl (fun ls hl => ?_)
                refine lv_goto (tgt := 40) hx hb dX5_leave_106 (by decide) ?_
                exact ih_40 v1_40 v3_40 (v3_40 + 1) r10.2 _ _ _ (lv_sub hl [3, 4, 1, 0] rfl) hw hS h
  have hL10 : ∀ (n_10 : Nat) (v1_10 : Int32) (v2_10 : Int32) (S_10 : OS) (H_10 : Heap) (L_10 : List Loc) (ls_10 : Array Slot), lv_has ls_10 5 [(0, .ref (am 0)), (1, .int v1_10), (2, .int v2_10)] → MW E am S_10 H_10 → va_S (AM am) s.heap H_10 L_10 → fX5_leave_L10 S_10 n_10 v1_10 v2_10 = some r → W p l e rmX5_leave s m ([.ref (am 0)] : List Value).toArray below meth c H_10 L_10 0 0 (MQ below (QW (some (.int r.1)) (AM am) (MW E am r.2)) ([.ref (am 0)] : List Value).toArray s 0 0 (AM am)) (F0 m 10 ls_10 []) := by
    intro n_10
    induction n_10 with
    | zero =>
      intro v1_10 v2_10 S_10 H_10 L_10 ls_10 hl hw hS h
      exact nn h
    | succ n_10 ih_10 =>
      intro v1_10 v2_10 S_10 H_10 L_10 ls_10 hl hw hS h
      rw [fX5_leave_L10] at h
      refine lv_iload_n hx hb dX5_leave_10 rfl (lv_at hl 2 rfl) ?_
      refine lv_aload_n hx hb dX5_leave_11 rfl (lv_at hl 0 rfl) ?_
      refine gX5_191 hx hb hB hown hK hw dX5_leave_12 ?_
      refine lv_icmp_ge (tgt := 35) hx hb dX5_leave_15 (by decide) (fun g13 => ?_) (fun g13 => ?_)
      · rw [if_pos g13] at h
        refine lv_bipush (v := (-4)) hx hb dX5_leave_35 (by decide) ?_
        refine lv_istore_n (lv' := [(2, .int (-4)), (0, .ref (am 0)), (1, .int v1_10)]) hx hb dX5_leave_37 rfl hl (by decide) rfl (fun ls hl => ?_)
        refine lv_iconst (v := 0) hx hb dX5_leave_38 (by decide) ?_
        refine lv_istore_n (lv' := [(3, .int 0), (2, .int (-4)), (0, .ref (am 0)), (1, .int v1_10)]) hx hb dX5_leave_39 rfl hl (by decide) rfl (fun ls hl => ?_)
        exact hL40 FU v1_10 (-4) 0 S_10 _ _ _ (lv_sub hl [2, 3, 1, 0] rfl) hw hS h
      · rw [if_neg g13] at h
        refine lv_iload_n hx hb dX5_leave_18 rfl (lv_at hl 1 rfl) ?_
        refine lv_iconst (v := 1) hx hb dX5_leave_19 (by decide) ?_
        refine lv_aload_n hx hb dX5_leave_20 rfl (lv_at hl 0 rfl) ?_
        refine gX5_37 hx hb hB hown hK hw dX5_leave_21 ?_
        refine lv_iload_n hx hb dX5_leave_24 rfl (lv_at hl 2 rfl) ?_
        obtain ⟨g14, h⟩ := gB_ok h
        refine lM hx hb hK hw (by decide) (by decide) (ib_ok g14) dX5_leave_25 ?_
        refine lv_ishl hx hb dX5_leave_26 ?_
        refine lv_ior hx hb dX5_leave_27 ?_
        refine lv_istore_n (lv' := [(1, .int (v1_10 ||| (1 <<< ((S_10 10 v2_10.toNatClampNeg) &&& 31)))), (0, .ref (am 0)), (2, .int v2_10)]) hx hb dX5_leave_28 rfl hl (by decide) rfl (fun ls hl => ?_)
        refine lv_iinc (v := (v2_10 + 1)) (lv' := [(2, .int (v2_10 + 1)), (1, .int (v1_10 ||| (1 <<< ((S_10 10 v2_10.toNatClampNeg) &&& 31)))), (0, .ref (am 0))]) hx hb dX5_leave_29 hl (k := 2) rfl rfl (by decide) rfl (fun ls hl => ?_)
        refine lv_goto (tgt := 10) hx hb dX5_leave_32 (by decide) ?_
        exact ih_10 (v1_10 ||| (1 <<< ((S_10 10 v2_10.toNatClampNeg) &&& 31))) (v2_10 + 1) S_10 _ _ _ (lv_sub hl [2, 1, 0] rfl) hw hS h
  refine lv_iconst (v := 0) hx hb dX5_leave_0 (by decide) ?_
  refine lv_istore_n (lv' := [(1, .int 0), (0, .ref (am 0))]) hx hb dX5_leave_1 rfl hl (by decide) rfl (fun ls hl => ?_)
  refine lv_aload_n hx hb dX5_leave_2 rfl (lv_at hl 1 rfl) ?_
  refine lv_bipush (v := 63) hx hb dX5_leave_3 (by decide) ?_
  obtain ⟨r15, e15, h⟩ := ob h
  refine k_VWv ⟨hx, hb, hml, hown, hB⟩ (c_X5_findGuests l E am S 63 r15 e15) (clX5_213 hB rfl rfl ⟨Nat.le_of_ble_eq_true rfl, Nat.le_of_ble_eq_true rfl⟩) hK hw (rvM hK hw) rfl hl.1 rfl (Nat.le_of_ble_eq_true rfl) dX5_leave_5 ⟨Nat.zero_le _, Nat.zero_le _⟩ hS (fun _ z => z) (fun H16 L16 hw _ _ hS => ?_)
  refine lv_iconst (v := 0) hx hb dX5_leave_8 (by decide) ?_
  refine lv_istore_n (lv' := [(2, .int 0), (1, .int 0), (0, .ref (am 0))]) hx hb dX5_leave_9 rfl hl (by decide) rfl (fun ls hl => ?_)
  exact hL10 FU 0 0 r15 _ _ _ (lv_sub hl [2, 1, 0] rfl) hw hS h
def fX5_seen (S : OS) (a1 : Int32) (a2 : Int32) : Option (Int32 × OS) := (fX5_isDead S a1).bind (fun r1 => (if r1 = 0 then some ((-1), S) else (fX5_isPlot S a2).bind (fun r3 => (if r3 = 0 then some ((-1), S) else if (S 0 7) = 8 then some ((-3), S) else gB (ib (2 * (S 0 7)) 16) (gB (ib ((2 * ((u2 S 4 (2 * (S 0 7)).toNatClampNeg a1) 0 7)) + 1) 16) (some (((u2 (u2 (u2 S 4 (2 * (S 0 7)).toNatClampNeg a1) 4 ((2 * ((u2 S 4 (2 * (S 0 7)).toNatClampNeg a1) 0 7)) + 1).toNatClampNeg a2) 0 7 (((u2 (u2 S 4 (2 * (S 0 7)).toNatClampNeg a1) 4 ((2 * ((u2 S 4 (2 * (S 0 7)).toNatClampNeg a1) 0 7)) + 1).toNatClampNeg a2) 0 7) + 1)) 0 7), (u2 (u2 (u2 S 4 (2 * (S 0 7)).toNatClampNeg a1) 4 ((2 * ((u2 S 4 (2 * (S 0 7)).toNatClampNeg a1) 0 7)) + 1).toNatClampNeg a2) 0 7 (((u2 (u2 S 4 (2 * (S 0 7)).toNatClampNeg a1) 4 ((2 * ((u2 S 4 (2 * (S 0 7)).toNatClampNeg a1) 0 7)) + 1).toNatClampNeg a2) 0 7) + 1)))))))))
abbrev rmX5_seen : Room := { frames := 2, cells := 0, slots := 0, locals := 43 }
set_option maxHeartbeats 4000000 in
set_option maxRecDepth 100000 in
theorem c_X5_seen (l : Launch) (E : En) (am : Nat → Nat) (S : OS) (a1 : Int32) (a2 : Int32) (r : Int32 × OS) (h : fX5_seen S a1 a2 = some r) : Met l yX5_seen (kX5_seen :: BIG) rmX5_seen (Pk E [.ref (am 0), .int a1, .int a2] (MW E am S)) (QW (some (.int r.1)) (AM am) (MW E am r.2)) 0 0 (AM am) := by
  refine Mb (by decide) (Nat.le_of_ble_eq_true rfl) ?_
  intro p e s m below meth c ls hx hb hr hlk hB hown hml _ hK hw hl
  have hS : va_S (AM am) s.heap s.heap [] := va_S.rf
  have hl : lv_has ls 3 [(0, .ref (am 0)), (1, .int a1), (2, .int a2)] := hl
  rw [fX5_seen] at h
  refine lv_aload_n hx hb dX5_seen_0 rfl (lv_at hl 0 rfl) ?_
  refine lv_iload_n hx hb dX5_seen_1 rfl (lv_at hl 1 rfl) ?_
  obtain ⟨r1, e1, h⟩ := ob h
  refine k_VR ⟨hx, hb, hml, hown, hB⟩ (c_X5_isDead l E am S a1 r1 e1) (clX5_151 hB rfl rfl ⟨Nat.le_of_ble_eq_true rfl, Nat.le_of_ble_eq_true rfl⟩) hK hw (rvM hK hw) rfl hl.1 rfl (Nat.le_of_ble_eq_true rfl) dX5_seen_2 ⟨Nat.zero_le _, Nat.zero_le _⟩ ?_
  refine lv_if_eq (tgt := 16) hx hb dX5_seen_5 (by decide) (fun g2 => ?_) (fun g2 => ?_)
  · rw [if_pos g2] at h
    refine lv_iconst (v := (-1)) hx hb dX5_seen_16 (by decide) ?_
    cases h
    exact e_zW hx hb hr hlk rfl rfl hw hS dX5_seen_17
  · rw [if_neg g2] at h
    refine lv_aload_n hx hb dX5_seen_8 rfl (lv_at hl 0 rfl) ?_
    refine lv_iload_n hx hb dX5_seen_9 rfl (lv_at hl 2 rfl) ?_
    obtain ⟨r3, e3, h⟩ := ob h
    refine k_VR ⟨hx, hb, hml, hown, hB⟩ (c_X5_isPlot l E am S a2 r3 e3) (clX5_158 hB rfl rfl ⟨Nat.le_of_ble_eq_true rfl, Nat.le_of_ble_eq_true rfl⟩) hK hw (rvM hK hw) rfl hl.1 rfl (Nat.le_of_ble_eq_true rfl) dX5_seen_10 ⟨Nat.zero_le _, Nat.zero_le _⟩ ?_
    refine lv_if_ne (tgt := 18) hx hb dX5_seen_13 (by decide) (fun g4 => ?_) (fun g4 => ?_)
    · rw [if_neg g4] at h
      refine lv_aload_n hx hb dX5_seen_18 rfl (lv_at hl 0 rfl) ?_
      refine gX5_134 hx hb hB hown hK hw dX5_seen_19 ?_
      refine lv_bipush (v := 8) hx hb dX5_seen_22 (by decide) ?_
      refine lv_icmp_ne (tgt := 30) hx hb dX5_seen_24 (by decide) (fun g5 => ?_) (fun g5 => ?_)
      · rw [if_neg g5] at h
        refine lv_aload_n hx hb dX5_seen_30 rfl (lv_at hl 0 rfl) ?_
        refine gX5_19 hx hb hB hown hK hw dX5_seen_31 ?_
        refine lv_iconst (v := 2) hx hb dX5_seen_34 (by decide) ?_
        refine lv_aload_n hx hb dX5_seen_35 rfl (lv_at hl 0 rfl) ?_
        refine gX5_134 hx hb hB hown hK hw dX5_seen_36 ?_
        refine lv_imul hx hb dX5_seen_39 ?_
        refine lv_iload_n hx hb dX5_seen_40 rfl (lv_at hl 1 rfl) ?_
        obtain ⟨g6, h⟩ := gB_ok h
        refine sM hx hb hK hw hS (fun _ z => z) (by decide) (by decide) (ib_ok g6) dX5_seen_41 (fun H7 L7 hw hS => ?_)
        refine lv_aload_n hx hb dX5_seen_42 rfl (lv_at hl 0 rfl) ?_
        refine gX5_19 hx hb hB hown hK hw dX5_seen_43 ?_
        refine lv_iconst (v := 2) hx hb dX5_seen_46 (by decide) ?_
        refine lv_aload_n hx hb dX5_seen_47 rfl (lv_at hl 0 rfl) ?_
        refine gX5_134 hx hb hB hown hK hw dX5_seen_48 ?_
        refine lv_imul hx hb dX5_seen_51 ?_
        refine lv_iconst (v := 1) hx hb dX5_seen_52 (by decide) ?_
        refine lv_iadd hx hb dX5_seen_53 ?_
        refine lv_iload_n hx hb dX5_seen_54 rfl (lv_at hl 2 rfl) ?_
        obtain ⟨g8, h⟩ := gB_ok h
        refine sM hx hb hK hw hS (fun _ z => z) (by decide) (by decide) (ib_ok g8) dX5_seen_55 (fun H9 L9 hw hS => ?_)
        refine lv_aload_n hx hb dX5_seen_56 rfl (lv_at hl 0 rfl) ?_
        refine lv_dup hx hb dX5_seen_57 rfl ?_
        refine gX5_134 hx hb hB hown hK hw dX5_seen_58 ?_
        refine lv_iconst (v := 1) hx hb dX5_seen_61 (by decide) ?_
        refine lv_iadd hx hb dX5_seen_62 ?_
        refine pX5_134 hx hb hB hown hK hw hS (fun _ z => z) dX5_seen_63 (fun H10 L10 hw hS => ?_)
        refine lv_aload_n hx hb dX5_seen_66 rfl (lv_at hl 0 rfl) ?_
        refine gX5_134 hx hb hB hown hK hw dX5_seen_67 ?_
        cases h
        exact e_zW hx hb hr hlk rfl rfl hw hS dX5_seen_70
      · rw [if_pos g5] at h
        refine lv_bipush (v := (-3)) hx hb dX5_seen_27 (by decide) ?_
        cases h
        exact e_zW hx hb hr hlk rfl rfl hw hS dX5_seen_29
    · rw [if_pos g4] at h
      refine lv_iconst (v := (-1)) hx hb dX5_seen_16 (by decide) ?_
      cases h
      exact e_zW hx hb hr hlk rfl rfl hw hS dX5_seen_17
def fX5_forget (S : OS) : Option (Int32 × OS) := some ((S 0 7), (u2 S 0 7 0))
abbrev rmX5_forget : Room := { frames := 0, cells := 0, slots := 0, locals := 0 }
set_option maxHeartbeats 4000000 in
set_option maxRecDepth 100000 in
theorem c_X5_forget (l : Launch) (E : En) (am : Nat → Nat) (S : OS) (r : Int32 × OS) (h : fX5_forget S = some r) : Met l yX5_forget (kX5_forget :: BIG) rmX5_forget (Pk E [.ref (am 0)] (MW E am S)) (QW (some (.int r.1)) (AM am) (MW E am r.2)) 0 0 (AM am) := by
  refine Mb (by decide) (Nat.le_of_ble_eq_true rfl) ?_
  intro p e s m below meth c ls hx hb hr hlk hB hown hml _ hK hw hl
  have hS : va_S (AM am) s.heap s.heap [] := va_S.rf
  have hl : lv_has ls 2 [(0, .ref (am 0))] := hl
  rw [fX5_forget] at h
  refine lv_aload_n hx hb dX5_forget_0 rfl (lv_at hl 0 rfl) ?_
  refine gX5_134 hx hb hB hown hK hw dX5_forget_1 ?_
  refine lv_istore_n (lv' := [(1, .int (S 0 7)), (0, .ref (am 0))]) hx hb dX5_forget_4 rfl hl (by decide) rfl (fun ls hl => ?_)
  refine lv_aload_n hx hb dX5_forget_5 rfl (lv_at hl 1 rfl) ?_
  refine lv_iconst (v := 0) hx hb dX5_forget_6 (by decide) ?_
  refine pX5_134 hx hb hB hown hK hw hS (fun _ z => z) dX5_forget_7 (fun H1 L1 hw hS => ?_)
  refine lv_iload_n hx hb dX5_forget_10 rfl (lv_at hl 0 rfl) ?_
  cases h
  exact e_zW hx hb hr hlk rfl rfl hw hS dX5_forget_11
def fX5_was_L51 (K : Int32 → Int32 → OS → Option (Int32 × OS)) (S_51 : OS) (v1_14 : Int32) (v2_51 : Int32) (v3_51 : Int32) : Nat → Int32 → Int32 → Option (Int32 × OS)
  | 0, _, _ => none
  | n_51 + 1, v4_51, v5_51 => if (S_51 0 7) ≤ v5_51 then if v4_51 = 0 then K (v2_51 ||| 0) (v3_51 + 1) S_51 else K (v2_51 ||| (1 <<< (v3_51 &&& 31))) (v3_51 + 1) S_51 else if v4_51 = 0 then fX5_was_L51 K S_51 v1_14 v2_51 v3_51 n_51 0 (v5_51 + 1) else gB (ib (2 * v5_51) 16) (if (S_51 8 (0 : Int32).toNatClampNeg) ≤ (S_51 4 (2 * v5_51).toNatClampNeg) then fX5_was_L51 K S_51 v1_14 v2_51 v3_51 n_51 0 (v5_51 + 1) else gB (ib (2 * v5_51) 16) ((fX5_plotOf S_51 8 (S_51 4 (2 * v5_51).toNatClampNeg)).bind (fun r14 => (gB (ib ((2 * v5_51) + 1) 16) (if r14 = (S_51 4 ((2 * v5_51) + 1).toNatClampNeg) then fX5_was_L51 K S_51 v1_14 v2_51 v3_51 n_51 1 (v5_51 + 1) else fX5_was_L51 K S_51 v1_14 v2_51 v3_51 n_51 0 (v5_51 + 1))))))
def fX5_was_L14 (v1_14 : Int32) : Nat → Int32 → Int32 → OS → Option (Int32 × OS)
  | 0, _, _, _ => none
  | n_14 + 1, v2_14, v3_14, S_14 => if 10 ≤ v3_14 then some (v2_14, S_14) else (fX5_from S_14 1).bind (fun r2 => (gB (ib ((1 + (3 * v1_14)) + 2) 66) ((fX5_anew (u2 r2 8 ((1 + (3 * v1_14)) + 2).toNatClampNeg v3_14)).bind (fun r6 => (fX5_was_L51 (fun kv2_14 kv3_14 kS_14 => fX5_was_L14 v1_14 n_14 kv2_14 kv3_14 kS_14) r6 v1_14 v2_14 v3_14 FU 1 0)))))
def fX5_was (S : OS) (a1 : Int32) : Option (Int32 × OS) := (fX5_isDead S a1).bind (fun r17 => (if r17 = 0 then some ((-1), S) else fX5_was_L14 a1 FU 0 0 S))
abbrev rmX5_was : Room := { frames := 4, cells := 0, slots := 0, locals := 96 }
set_option maxHeartbeats 4000000 in
set_option maxRecDepth 100000 in
theorem c_X5_was (l : Launch) (E : En) (am : Nat → Nat) (S : OS) (a1 : Int32) (r : Int32 × OS) (h : fX5_was S a1 = some r) : Met l yX5_was (kX5_was :: BIG) rmX5_was (Pk E [.ref (am 0), .int a1] (MW E am S)) (QW (some (.int r.1)) (AM am) (MW E am r.2)) 0 0 (AM am) := by
  refine Mb (by decide) (Nat.le_of_ble_eq_true rfl) ?_
  intro p e s m below meth c ls hx hb hr hlk hB hown hml _ hK hw hl
  have hS : va_S (AM am) s.heap s.heap [] := va_S.rf
  have hl : lv_has ls 6 [(0, .ref (am 0)), (1, .int a1)] := hl
  rw [fX5_was] at h
  have hL14 : ∀ (n_14 : Nat) (v1_14 : Int32) (v2_14 : Int32) (v3_14 : Int32) (S_14 : OS) (H_14 : Heap) (L_14 : List Loc) (ls_14 : Array Slot), lv_has ls_14 6 [(0, .ref (am 0)), (1, .int v1_14), (2, .int v2_14), (3, .int v3_14)] → MW E am S_14 H_14 → va_S (AM am) s.heap H_14 L_14 → fX5_was_L14 v1_14 n_14 v2_14 v3_14 S_14 = some r → W p l e rmX5_was s m ([.ref (am 0), .int a1] : List Value).toArray below meth c H_14 L_14 0 0 (MQ below (QW (some (.int r.1)) (AM am) (MW E am r.2)) ([.ref (am 0), .int a1] : List Value).toArray s 0 0 (AM am)) (F0 m 14 ls_14 []) := by
    intro n_14
    induction n_14 with
    | zero =>
      intro v1_14 v2_14 v3_14 S_14 H_14 L_14 ls_14 hl hw hS h
      exact nn h
    | succ n_14 ih_14 =>
      intro v1_14 v2_14 v3_14 S_14 H_14 L_14 ls_14 hl hw hS h
      rw [fX5_was_L14] at h
      refine lv_iload_n hx hb dX5_was_14 rfl (lv_at hl 3 rfl) ?_
      refine lv_bipush (v := 10) hx hb dX5_was_15 (by decide) ?_
      refine lv_icmp_ge (tgt := 147) hx hb dX5_was_17 (by decide) (fun g1 => ?_) (fun g1 => ?_)
      · rw [if_pos g1] at h
        refine lv_iload_n hx hb dX5_was_147 rfl (lv_at hl 2 rfl) ?_
        cases h
        exact e_zW hx hb hr hlk rfl rfl hw hS dX5_was_148
      · rw [if_neg g1] at h
        refine lv_aload_n hx hb dX5_was_20 rfl (lv_at hl 0 rfl) ?_
        refine lv_aload_n hx hb dX5_was_21 rfl (lv_at hl 0 rfl) ?_
        refine gX5_7 hx hb hB hown hK hw dX5_was_22 ?_
        obtain ⟨r2, e2, h⟩ := ob h
        refine k_VWv ⟨hx, hb, hml, hown, hB⟩ (c_X5_from l E am S_14 1 (by decide) (by decide) r2 e2) (clX5_170 hB rfl rfl ⟨Nat.le_of_ble_eq_true rfl, Nat.le_of_ble_eq_true rfl⟩) hK hw (rvM hK hw) rfl hl.1 rfl (Nat.le_of_ble_eq_true rfl) dX5_was_25 ⟨Nat.zero_le _, Nat.zero_le _⟩ hS (fun _ z => z) (fun H3 L3 hw _ _ hS => ?_)
        refine lv_aload_n hx hb dX5_was_28 rfl (lv_at hl 0 rfl) ?_
        refine gX5_31 hx hb hB hown hK hw dX5_was_29 ?_
        refine lv_iconst (v := 1) hx hb dX5_was_32 (by decide) ?_
        refine lv_iconst (v := 3) hx hb dX5_was_33 (by decide) ?_
        refine lv_iload_n hx hb dX5_was_34 rfl (lv_at hl 1 rfl) ?_
        refine lv_imul hx hb dX5_was_35 ?_
        refine lv_iadd hx hb dX5_was_36 ?_
        refine lv_iconst (v := 2) hx hb dX5_was_37 (by decide) ?_
        refine lv_iadd hx hb dX5_was_38 ?_
        refine lv_iload_n hx hb dX5_was_39 rfl (lv_at hl 3 rfl) ?_
        obtain ⟨g4, h⟩ := gB_ok h
        refine sM hx hb hK hw hS (fun _ z => z) (by decide) (by decide) (ib_ok g4) dX5_was_40 (fun H5 L5 hw hS => ?_)
        refine lv_aload_n hx hb dX5_was_41 rfl (lv_at hl 0 rfl) ?_
        obtain ⟨r6, e6, h⟩ := ob h
        refine k_VWv ⟨hx, hb, hml, hown, hB⟩ (c_X5_anew l E am (u2 r2 8 ((1 + (3 * v1_14)) + 2).toNatClampNeg v3_14) r6 e6) (clX5_125 hB rfl rfl ⟨Nat.le_of_ble_eq_true rfl, Nat.le_of_ble_eq_true rfl⟩) hK hw (rvM hK hw) rfl hl.1 rfl (Nat.le_of_ble_eq_true rfl) dX5_was_42 ⟨Nat.zero_le _, Nat.zero_le _⟩ hS (fun _ z => z) (fun H7 L7 hw _ _ hS => ?_)
        refine lv_iconst (v := 1) hx hb dX5_was_45 (by decide) ?_
        refine lv_istore (lv' := [(4, .int 1), (0, .ref (am 0)), (1, .int v1_14), (2, .int v2_14), (3, .int v3_14)]) hx hb dX5_was_46 hl (by decide) rfl (fun ls hl => ?_)
        refine lv_iconst (v := 0) hx hb dX5_was_48 (by decide) ?_
        refine lv_istore (lv' := [(5, .int 0), (4, .int 1), (0, .ref (am 0)), (1, .int v1_14), (2, .int v2_14), (3, .int v3_14)]) hx hb dX5_was_49 hl (by decide) rfl (fun ls hl => ?_)
        have hL51 : ∀ (n_51 : Nat) (v2_51 : Int32) (v3_51 : Int32) (v4_51 : Int32) (v5_51 : Int32) (S_51 : OS) (H_51 : Heap) (L_51 : List Loc) (ls_51 : Array Slot), lv_has ls_51 6 [(0, .ref (am 0)), (1, .int v1_14), (2, .int v2_51), (3, .int v3_51), (4, .int v4_51), (5, .int v5_51)] → MW E am S_51 H_51 → va_S (AM am) s.heap H_51 L_51 → fX5_was_L51 (fun kv2_14 kv3_14 kS_14 => fX5_was_L14 v1_14 n_14 kv2_14 kv3_14 kS_14) S_51 v1_14 v2_51 v3_51 n_51 v4_51 v5_51 = some r → W p l e rmX5_was s m ([.ref (am 0), .int a1] : List Value).toArray below meth c H_51 L_51 0 0 (MQ below (QW (some (.int r.1)) (AM am) (MW E am r.2)) ([.ref (am 0), .int a1] : List Value).toArray s 0 0 (AM am)) (F0 m 51 ls_51 []) := by
          intro n_51
          induction n_51 with
          | zero =>
            intro v2_51 v3_51 v4_51 v5_51 S_51 H_51 L_51 ls_51 hl hw hS h
            exact nn h
          | succ n_51 ih_51 =>
            intro v2_51 v3_51 v4_51 v5_51 S_51 H_51 L_51 ls_51 hl hw hS h
            rw [fX5_was_L51] at h
            refine lv_iload hx hb dX5_was_51 (lv_at hl 5 rfl) ?_
            refine lv_aload_n hx hb dX5_was_53 rfl (lv_at hl 0 rfl) ?_
            refine gX5_134 hx hb hB hown hK hw dX5_was_54 ?_
            refine lv_icmp_ge (tgt := 126) hx hb dX5_was_57 (by decide) (fun g8 => ?_) (fun g8 => ?_)
            · rw [if_pos g8] at h
              refine lv_iload_n hx hb dX5_was_126 rfl (lv_at hl 2 rfl) ?_
              refine lv_iload hx hb dX5_was_127 (lv_at hl 4 rfl) ?_
              refine lv_if_eq (tgt := 138) hx hb dX5_was_129 (by decide) (fun g9 => ?_) (fun g9 => ?_)
              · rw [if_pos g9] at h
                refine lv_iconst (v := 0) hx hb dX5_was_138 (by decide) ?_
                refine lv_ior hx hb dX5_was_139 ?_
                refine lv_istore_n (lv' := [(2, .int (v2_51 ||| 0)), (0, .ref (am 0)), (1, .int v1_14), (3, .int v3_51), (4, .int v4_51), (5, .int v5_51)]) hx hb dX5_was_140 rfl hl (by decide) rfl (fun ls hl => ?_)
                refine lv_iinc (v := (v3_51 + 1)) (lv' := [(3, .int (v3_51 + 1)), (2, .int (v2_51 ||| 0)), (0, .ref (am 0)), (1, .int v1_14), (4, .int v4_51), (5, .int v5_51)]) hx hb dX5_was_141 hl (k := 3) rfl rfl (by decide) rfl (fun ls hl => ?_)
                refine lv_goto (tgt := 14) hx hb dX5_was_144 (by decide) ?_
                exact ih_14 v1_14 (v2_51 ||| 0) (v3_51 + 1) S_51 _ _ _ (lv_sub hl [2, 3, 1, 0] rfl) hw hS h
              · rw [if_neg g9] at h
                refine lv_iconst (v := 1) hx hb dX5_was_132 (by decide) ?_
                refine lv_iload_n hx hb dX5_was_133 rfl (lv_at hl 3 rfl) ?_
                refine lv_ishl hx hb dX5_was_134 ?_
                refine lv_goto (tgt := 139) hx hb dX5_was_135 (by decide) ?_
                refine lv_ior hx hb dX5_was_139 ?_
                refine lv_istore_n (lv' := [(2, .int (v2_51 ||| (1 <<< (v3_51 &&& 31)))), (0, .ref (am 0)), (1, .int v1_14), (3, .int v3_51), (4, .int v4_51), (5, .int v5_51)]) hx hb dX5_was_140 rfl hl (by decide) rfl (fun ls hl => ?_)
                refine lv_iinc (v := (v3_51 + 1)) (lv' := [(3, .int (v3_51 + 1)), (2, .int (v2_51 ||| (1 <<< (v3_51 &&& 31)))), (0, .ref (am 0)), (1, .int v1_14), (4, .int v4_51), (5, .int v5_51)]) hx hb dX5_was_141 hl (k := 3) rfl rfl (by decide) rfl (fun ls hl => ?_)
                refine lv_goto (tgt := 14) hx hb dX5_was_144 (by decide) ?_
                exact ih_14 v1_14 (v2_51 ||| (1 <<< (v3_51 &&& 31))) (v3_51 + 1) S_51 _ _ _ (lv_sub hl [2, 3, 1, 0] rfl) hw hS h
            · rw [if_neg g8] at h
              refine lv_iload hx hb dX5_was_60 (lv_at hl 4 rfl) ?_
              refine lv_if_eq (tgt := 117) hx hb dX5_was_62 (by decide) (fun g10 => ?_) (fun g10 => ?_)
              · rw [if_pos g10] at h
                refine lv_iconst (v := 0) hx hb dX5_was_117 (by decide) ?_
                refine lv_istore (lv' := [(4, .int 0), (0, .ref (am 0)), (1, .int v1_14), (2, .int v2_51), (3, .int v3_51), (5, .int v5_51)]) hx hb dX5_was_118 hl (by decide) rfl (fun ls hl => ?_)
                refine lv_iinc (v := (v5_51 + 1)) (lv' := [(5, .int (v5_51 + 1)), (4, .int 0), (0, .ref (am 0)), (1, .int v1_14), (2, .int v2_51), (3, .int v3_51)]) hx hb dX5_was_120 hl (k := 5) rfl rfl (by decide) rfl (fun ls hl => ?_)
                refine lv_goto (tgt := 51) hx hb dX5_was_123 (by decide) ?_
                exact ih_51 v2_51 v3_51 0 (v5_51 + 1) S_51 _ _ _ (lv_sub hl [2, 3, 4, 5, 1, 0] rfl) hw hS h
              · rw [if_neg g10] at h
                refine lv_aload_n hx hb dX5_was_65 rfl (lv_at hl 0 rfl) ?_
                refine gX5_19 hx hb hB hown hK hw dX5_was_66 ?_
                refine lv_iconst (v := 2) hx hb dX5_was_69 (by decide) ?_
                refine lv_iload hx hb dX5_was_70 (lv_at hl 5 rfl) ?_
                refine lv_imul hx hb dX5_was_72 ?_
                obtain ⟨g11, h⟩ := gB_ok h
                refine lM hx hb hK hw (by decide) (by decide) (ib_ok g11) dX5_was_73 ?_
                refine lv_aload_n hx hb dX5_was_74 rfl (lv_at hl 0 rfl) ?_
                refine gX5_31 hx hb hB hown hK hw dX5_was_75 ?_
                refine lv_iconst (v := 0) hx hb dX5_was_78 (by decide) ?_
                refine lM hx hb hK hw (by decide) (by decide) (ib_ok (by decide)) dX5_was_79 ?_
                refine lv_icmp_ge (tgt := 117) hx hb dX5_was_80 (by decide) (fun g12 => ?_) (fun g12 => ?_)
                · rw [if_pos g12] at h
                  refine lv_iconst (v := 0) hx hb dX5_was_117 (by decide) ?_
                  refine lv_istore (lv' := [(4, .int 0), (0, .ref (am 0)), (1, .int v1_14), (2, .int v2_51), (3, .int v3_51), (5, .int v5_51)]) hx hb dX5_was_118 hl (by decide) rfl (fun ls hl => ?_)
                  refine lv_iinc (v := (v5_51 + 1)) (lv' := [(5, .int (v5_51 + 1)), (4, .int 0), (0, .ref (am 0)), (1, .int v1_14), (2, .int v2_51), (3, .int v3_51)]) hx hb dX5_was_120 hl (k := 5) rfl rfl (by decide) rfl (fun ls hl => ?_)
                  refine lv_goto (tgt := 51) hx hb dX5_was_123 (by decide) ?_
                  exact ih_51 v2_51 v3_51 0 (v5_51 + 1) S_51 _ _ _ (lv_sub hl [2, 3, 4, 5, 1, 0] rfl) hw hS h
                · rw [if_neg g12] at h
                  refine lv_aload_n hx hb dX5_was_83 rfl (lv_at hl 0 rfl) ?_
                  refine gX5_31 hx hb hB hown hK hw dX5_was_84 ?_
                  refine lv_aload_n hx hb dX5_was_87 rfl (lv_at hl 0 rfl) ?_
                  refine gX5_19 hx hb hB hown hK hw dX5_was_88 ?_
                  refine lv_iconst (v := 2) hx hb dX5_was_91 (by decide) ?_
                  refine lv_iload hx hb dX5_was_92 (lv_at hl 5 rfl) ?_
                  refine lv_imul hx hb dX5_was_94 ?_
                  obtain ⟨g13, h⟩ := gB_ok h
                  refine lM hx hb hK hw (by decide) (by decide) (ib_ok g13) dX5_was_95 ?_
                  obtain ⟨r14, e14, h⟩ := ob h
                  refine k_SR ⟨hx, hb, hml, hown, hB⟩ (c_X5_plotOf l E am S_51 8 (S_51 4 (2 * v5_51).toNatClampNeg) (by decide) (by decide) r14 e14) (clX5_154 hB rfl rfl ⟨Nat.le_of_ble_eq_true rfl, Nat.le_of_ble_eq_true rfl⟩) hK hw rfl hl.1 rfl (Nat.le_of_ble_eq_true rfl) dX5_was_96 ⟨Nat.zero_le _, Nat.zero_le _⟩ ?_
                  refine lv_aload_n hx hb dX5_was_99 rfl (lv_at hl 0 rfl) ?_
                  refine gX5_19 hx hb hB hown hK hw dX5_was_100 ?_
                  refine lv_iconst (v := 2) hx hb dX5_was_103 (by decide) ?_
                  refine lv_iload hx hb dX5_was_104 (lv_at hl 5 rfl) ?_
                  refine lv_imul hx hb dX5_was_106 ?_
                  refine lv_iconst (v := 1) hx hb dX5_was_107 (by decide) ?_
                  refine lv_iadd hx hb dX5_was_108 ?_
                  obtain ⟨g15, h⟩ := gB_ok h
                  refine lM hx hb hK hw (by decide) (by decide) (ib_ok g15) dX5_was_109 ?_
                  refine lv_icmp_ne (tgt := 117) hx hb dX5_was_110 (by decide) (fun g16 => ?_) (fun g16 => ?_)
                  · rw [if_neg g16] at h
                    refine lv_iconst (v := 0) hx hb dX5_was_117 (by decide) ?_
                    refine lv_istore (lv' := [(4, .int 0), (0, .ref (am 0)), (1, .int v1_14), (2, .int v2_51), (3, .int v3_51), (5, .int v5_51)]) hx hb dX5_was_118 hl (by decide) rfl (fun ls hl => ?_)
                    refine lv_iinc (v := (v5_51 + 1)) (lv' := [(5, .int (v5_51 + 1)), (4, .int 0), (0, .ref (am 0)), (1, .int v1_14), (2, .int v2_51), (3, .int v3_51)]) hx hb dX5_was_120 hl (k := 5) rfl rfl (by decide) rfl (fun ls hl => ?_)
                    refine lv_goto (tgt := 51) hx hb dX5_was_123 (by decide) ?_
                    exact ih_51 v2_51 v3_51 0 (v5_51 + 1) S_51 _ _ _ (lv_sub hl [2, 3, 4, 5, 1, 0] rfl) hw hS h
                  · rw [if_pos g16] at h
                    refine lv_iconst (v := 1) hx hb dX5_was_113 (by decide) ?_
                    refine lv_goto (tgt := 118) hx hb dX5_was_114 (by decide) ?_
                    refine lv_istore (lv' := [(4, .int 1), (0, .ref (am 0)), (1, .int v1_14), (2, .int v2_51), (3, .int v3_51), (5, .int v5_51)]) hx hb dX5_was_118 hl (by decide) rfl (fun ls hl => ?_)
                    refine lv_iinc (v := (v5_51 + 1)) (lv' := [(5, .int (v5_51 + 1)), (4, .int 1), (0, .ref (am 0)), (1, .int v1_14), (2, .int v2_51), (3, .int v3_51)]) hx hb dX5_was_120 hl (k := 5) rfl rfl (by decide) rfl (fun ls hl => ?_)
                    refine lv_goto (tgt := 51) hx hb dX5_was_123 (by decide) ?_
                    exact ih_51 v2_51 v3_51 1 (v5_51 + 1) S_51 _ _ _ (lv_sub hl [2, 3, 4, 5, 1, 0] rfl) hw hS h
        exact hL51 FU v2_14 v3_14 1 0 r6 _ _ _ (lv_sub hl [2, 3, 4, 5, 1, 0] rfl) hw hS h
  refine lv_aload_n hx hb dX5_was_0 rfl (lv_at hl 0 rfl) ?_
  refine lv_iload_n hx hb dX5_was_1 rfl (lv_at hl 1 rfl) ?_
  obtain ⟨r17, e17, h⟩ := ob h
  refine k_VR ⟨hx, hb, hml, hown, hB⟩ (c_X5_isDead l E am S a1 r17 e17) (clX5_151 hB rfl rfl ⟨Nat.le_of_ble_eq_true rfl, Nat.le_of_ble_eq_true rfl⟩) hK hw (rvM hK hw) rfl hl.1 rfl (Nat.le_of_ble_eq_true rfl) dX5_was_2 ⟨Nat.zero_le _, Nat.zero_le _⟩ ?_
  refine lv_if_ne (tgt := 10) hx hb dX5_was_5 (by decide) (fun g18 => ?_) (fun g18 => ?_)
  · rw [if_neg g18] at h
    refine lv_iconst (v := 0) hx hb dX5_was_10 (by decide) ?_
    refine lv_istore_n (lv' := [(2, .int 0), (0, .ref (am 0)), (1, .int a1)]) hx hb dX5_was_11 rfl hl (by decide) rfl (fun ls hl => ?_)
    refine lv_iconst (v := 0) hx hb dX5_was_12 (by decide) ?_
    refine lv_istore_n (lv' := [(3, .int 0), (2, .int 0), (0, .ref (am 0)), (1, .int a1)]) hx hb dX5_was_13 rfl hl (by decide) rfl (fun ls hl => ?_)
    exact hL14 FU a1 0 0 S _ _ _ (lv_sub hl [2, 3, 1, 0] rfl) hw hS h
  · rw [if_pos g18] at h
    refine lv_iconst (v := (-1)) hx hb dX5_was_8 (by decide) ?_
    cases h
    exact e_zW hx hb hr hlk rfl rfl hw hS dX5_was_9
def fX5_owedOn_L5 (c1 : Nat) (S : OS) (v2_5 : Int32) : Nat → Int32 → Int32 → Option (Int32)
  | 0, _, _ => none
  | n_5 + 1, v3_5, v4_5 => gB (ib 0 (lenM c1)) (if (S c1 (0 : Int32).toNatClampNeg) ≤ v4_5 then some v3_5 else gB (ib (1 + (3 * v4_5)) (lenM c1)) (if (S c1 (1 + (3 * v4_5)).toNatClampNeg) = v2_5 then (fX5_plotOf S c1 v4_5).bind (fun r5 => (if 0 ≤ r5 then fX5_owedOn_L5 c1 S v2_5 n_5 (v3_5 + 0) (v4_5 + 1) else fX5_owedOn_L5 c1 S v2_5 n_5 (v3_5 + 1) (v4_5 + 1))) else fX5_owedOn_L5 c1 S v2_5 n_5 (v3_5 + 0) (v4_5 + 1)))
def fX5_owedOn (S : OS) (c1 : Nat) (a2 : Int32) : Option (Int32) := fX5_owedOn_L5 c1 S a2 FU 0 0
abbrev rmX5_owedOn : Room := { frames := 2, cells := 0, slots := 0, locals := 44 }
set_option maxHeartbeats 4000000 in
set_option maxRecDepth 100000 in
theorem c_X5_owedOn (l : Launch) (E : En) (am : Nat → Nat) (S : OS) (c1 : Nat) (a2 : Int32) (h01 : 0 < c1) (hc1 : c1 < 13) (r : Int32) (h : fX5_owedOn S c1 a2 = some r) : Met l yX5_owedOn (kX5_owedOn :: BIG) rmX5_owedOn (Pk E [.ref (am 0), .ref (am c1), .int a2] (MW E am S)) (QcRead r) 0 0 (fun _ => False) := by
  refine Mb (by decide) (Nat.le_of_ble_eq_true rfl) ?_
  intro p e s m below meth c ls hx hb hr hlk hB hown hml _ hK hw hl
  have hl : lv_has ls 5 [(0, .ref (am 0)), (1, .ref (am c1)), (2, .int a2)] := hl
  rw [fX5_owedOn] at h
  have hL5 : ∀ (n_5 : Nat) (v2_5 : Int32) (v3_5 : Int32) (v4_5 : Int32) (ls_5 : Array Slot), lv_has ls_5 5 [(1, .ref (am c1)), (2, .int v2_5), (3, .int v3_5), (4, .int v4_5)] → fX5_owedOn_L5 c1 S v2_5 n_5 v3_5 v4_5 = some r → W p l e rmX5_owedOn s m ([.ref (am 0), .ref (am c1), .int a2] : List Value).toArray below meth c s.heap [] 0 0 (MQ below (QcRead r) ([.ref (am 0), .ref (am c1), .int a2] : List Value).toArray s 0 0 (fun _ => False)) (F0 m 5 ls_5 []) := by
    intro n_5
    induction n_5 with
    | zero =>
      intro v2_5 v3_5 v4_5 ls_5 hl h
      exact nn h
    | succ n_5 ih_5 =>
      intro v2_5 v3_5 v4_5 ls_5 hl h
      rw [fX5_owedOn_L5] at h
      refine lv_iload hx hb dX5_owedOn_5 (lv_at hl 3 rfl) ?_
      refine lv_aload_n hx hb dX5_owedOn_7 rfl (lv_at hl 0 rfl) ?_
      refine lv_iconst (v := 0) hx hb dX5_owedOn_8 (by decide) ?_
      obtain ⟨g1, h⟩ := gB_ok h
      refine lM hx hb hK hw h01 hc1 (ib_ok g1) dX5_owedOn_9 ?_
      refine lv_icmp_ge (tgt := 48) hx hb dX5_owedOn_10 (by decide) (fun g2 => ?_) (fun g2 => ?_)
      · rw [if_pos g2] at h
        refine lv_iload_n hx hb dX5_owedOn_48 rfl (lv_at hl 2 rfl) ?_
        exact e_zR hx hb hr hlk rfl h dX5_owedOn_49
      · rw [if_neg g2] at h
        refine lv_iload_n hx hb dX5_owedOn_13 rfl (lv_at hl 2 rfl) ?_
        refine lv_aload_n hx hb dX5_owedOn_14 rfl (lv_at hl 0 rfl) ?_
        refine lv_iconst (v := 1) hx hb dX5_owedOn_15 (by decide) ?_
        refine lv_iconst (v := 3) hx hb dX5_owedOn_16 (by decide) ?_
        refine lv_iload hx hb dX5_owedOn_17 (lv_at hl 3 rfl) ?_
        refine lv_imul hx hb dX5_owedOn_19 ?_
        refine lv_iadd hx hb dX5_owedOn_20 ?_
        obtain ⟨g3, h⟩ := gB_ok h
        refine lM hx hb hK hw h01 hc1 (ib_ok g3) dX5_owedOn_21 ?_
        refine lv_iload_n hx hb dX5_owedOn_22 rfl (lv_at hl 1 rfl) ?_
        refine lv_icmp_ne (tgt := 39) hx hb dX5_owedOn_23 (by decide) (fun g4 => ?_) (fun g4 => ?_)
        · rw [if_neg g4] at h
          refine lv_iconst (v := 0) hx hb dX5_owedOn_39 (by decide) ?_
          refine lv_iadd hx hb dX5_owedOn_40 ?_
          refine lv_istore_n (lv' := [(3, .int (v3_5 + 0)), (1, .ref (am c1)), (2, .int v2_5), (4, .int v4_5)]) hx hb dX5_owedOn_41 rfl hl (by decide) rfl (fun ls hl => ?_)
          refine lv_iinc (v := (v4_5 + 1)) (lv' := [(4, .int (v4_5 + 1)), (3, .int (v3_5 + 0)), (1, .ref (am c1)), (2, .int v2_5)]) hx hb dX5_owedOn_42 hl (k := 3) rfl rfl (by decide) rfl (fun ls hl => ?_)
          refine lv_goto (tgt := 5) hx hb dX5_owedOn_45 (by decide) ?_
          exact ih_5 v2_5 (v3_5 + 0) (v4_5 + 1) _ (lv_sub hl [2, 3, 1, 0] rfl) h
        · rw [if_pos g4] at h
          refine lv_aload_n hx hb dX5_owedOn_26 rfl (lv_at hl 0 rfl) ?_
          refine lv_iload hx hb dX5_owedOn_27 (lv_at hl 3 rfl) ?_
          obtain ⟨r5, e5, h⟩ := ob h
          refine k_SR ⟨hx, hb, hml, hown, hB⟩ (c_X5_plotOf l E am S c1 v4_5 h01 hc1 r5 e5) (clX5_154 hB rfl rfl ⟨Nat.le_of_ble_eq_true rfl, Nat.le_of_ble_eq_true rfl⟩) hK hw rfl hl.1 rfl (Nat.le_of_ble_eq_true rfl) dX5_owedOn_29 ⟨Nat.zero_le _, Nat.zero_le _⟩ ?_
          refine lv_if_ge (tgt := 39) hx hb dX5_owedOn_32 (by decide) (fun g6 => ?_) (fun g6 => ?_)
          · rw [if_pos g6] at h
            refine lv_iconst (v := 0) hx hb dX5_owedOn_39 (by decide) ?_
            refine lv_iadd hx hb dX5_owedOn_40 ?_
            refine lv_istore_n (lv' := [(3, .int (v3_5 + 0)), (1, .ref (am c1)), (2, .int v2_5), (4, .int v4_5)]) hx hb dX5_owedOn_41 rfl hl (by decide) rfl (fun ls hl => ?_)
            refine lv_iinc (v := (v4_5 + 1)) (lv' := [(4, .int (v4_5 + 1)), (3, .int (v3_5 + 0)), (1, .ref (am c1)), (2, .int v2_5)]) hx hb dX5_owedOn_42 hl (k := 3) rfl rfl (by decide) rfl (fun ls hl => ?_)
            refine lv_goto (tgt := 5) hx hb dX5_owedOn_45 (by decide) ?_
            exact ih_5 v2_5 (v3_5 + 0) (v4_5 + 1) _ (lv_sub hl [2, 3, 1, 0] rfl) h
          · rw [if_neg g6] at h
            refine lv_iconst (v := 1) hx hb dX5_owedOn_35 (by decide) ?_
            refine lv_goto (tgt := 40) hx hb dX5_owedOn_36 (by decide) ?_
            refine lv_iadd hx hb dX5_owedOn_40 ?_
            refine lv_istore_n (lv' := [(3, .int (v3_5 + 1)), (1, .ref (am c1)), (2, .int v2_5), (4, .int v4_5)]) hx hb dX5_owedOn_41 rfl hl (by decide) rfl (fun ls hl => ?_)
            refine lv_iinc (v := (v4_5 + 1)) (lv' := [(4, .int (v4_5 + 1)), (3, .int (v3_5 + 1)), (1, .ref (am c1)), (2, .int v2_5)]) hx hb dX5_owedOn_42 hl (k := 3) rfl rfl (by decide) rfl (fun ls hl => ?_)
            refine lv_goto (tgt := 5) hx hb dX5_owedOn_45 (by decide) ?_
            exact ih_5 v2_5 (v3_5 + 1) (v4_5 + 1) _ (lv_sub hl [2, 3, 1, 0] rfl) h
  refine lv_iconst (v := 0) hx hb dX5_owedOn_0 (by decide) ?_
  refine lv_istore_n (lv' := [(3, .int 0), (0, .ref (am 0)), (1, .ref (am c1)), (2, .int a2)]) hx hb dX5_owedOn_1 rfl hl (by decide) rfl (fun ls hl => ?_)
  refine lv_iconst (v := 0) hx hb dX5_owedOn_2 (by decide) ?_
  refine lv_istore (lv' := [(4, .int 0), (3, .int 0), (0, .ref (am 0)), (1, .ref (am c1)), (2, .int a2)]) hx hb dX5_owedOn_3 hl (by decide) rfl (fun ls hl => ?_)
  exact hL5 FU a2 0 0 _ (lv_sub hl [3, 4, 1, 0] rfl) h
def fX5_owed (S : OS) (a1 : Int32) : Option (Int32) := (fX5_in a1 0 1).bind (fun r1 => (if r1 = 0 then some (-1) else (fX5_owedOn S 1 a1).bind (fun r3 => (some r3))))
abbrev rmX5_owed : Room := { frames := 3, cells := 0, slots := 0, locals := 68 }
set_option maxHeartbeats 4000000 in
set_option maxRecDepth 100000 in
theorem c_X5_owed (l : Launch) (E : En) (am : Nat → Nat) (S : OS) (a1 : Int32) (r : Int32) (h : fX5_owed S a1 = some r) : Met l yX5_owed (kX5_owed :: BIG) rmX5_owed (Pk E [.ref (am 0), .int a1] (MW E am S)) (QcRead r) 0 0 (fun _ => False) := by
  refine Mb (by decide) (Nat.le_of_ble_eq_true rfl) ?_
  intro p e s m below meth c ls hx hb hr hlk hB hown hml _ hK hw hl
  have hl : lv_has ls 2 [(0, .ref (am 0)), (1, .int a1)] := hl
  rw [fX5_owed] at h
  refine lv_iload_n hx hb dX5_owed_0 rfl (lv_at hl 1 rfl) ?_
  refine lv_iconst (v := 0) hx hb dX5_owed_1 (by decide) ?_
  refine lv_iconst (v := 1) hx hb dX5_owed_2 (by decide) ?_
  obtain ⟨r1, e1, h⟩ := ob h
  refine k_SR ⟨hx, hb, hml, hown, hB⟩ (c_X5_in l E a1 0 1 r1 e1) (clX5_67 hB rfl rfl ⟨Nat.le_of_ble_eq_true rfl, Nat.le_of_ble_eq_true rfl⟩) hK trivial rfl hl.1 rfl (Nat.le_of_ble_eq_true rfl) dX5_owed_3 ⟨Nat.zero_le _, Nat.zero_le _⟩ ?_
  refine lv_if_eq (tgt := 21) hx hb dX5_owed_6 (by decide) (fun g2 => ?_) (fun g2 => ?_)
  · rw [if_pos g2] at h
    refine lv_iconst (v := (-1)) hx hb dX5_owed_21 (by decide) ?_
    exact e_zR hx hb hr hlk rfl h dX5_owed_22
  · rw [if_neg g2] at h
    refine lv_aload_n hx hb dX5_owed_9 rfl (lv_at hl 0 rfl) ?_
    refine lv_aload_n hx hb dX5_owed_10 rfl (lv_at hl 0 rfl) ?_
    refine gX5_7 hx hb hB hown hK hw dX5_owed_11 ?_
    refine lv_iload_n hx hb dX5_owed_14 rfl (lv_at hl 1 rfl) ?_
    obtain ⟨r3, e3, h⟩ := ob h
    refine k_VR ⟨hx, hb, hml, hown, hB⟩ (c_X5_owedOn l E am S 1 a1 (by decide) (by decide) r3 e3) (clX5_230 hB rfl rfl ⟨Nat.le_of_ble_eq_true rfl, Nat.le_of_ble_eq_true rfl⟩) hK hw (rvM hK hw) rfl hl.1 rfl (Nat.le_of_ble_eq_true rfl) dX5_owed_15 ⟨Nat.zero_le _, Nat.zero_le _⟩ ?_
    refine lv_goto (tgt := 22) hx hb dX5_owed_18 (by decide) ?_
    exact e_zR hx hb hr hlk rfl h dX5_owed_22
def fX5_balance_L6 (S : OS) : Nat → Int32 → Int32 → Option (Int32)
  | 0, _, _ => none
  | n_6 + 1, v1_6, v2_6 => if (S 1 (0 : Int32).toNatClampNeg) ≤ v2_6 then some v1_6 else (fX5_plotOf S 1 v2_6).bind (fun r2 => (if 0 ≤ r2 then gB (ib ((1 + (3 * v2_6)) + 2) 66) (gB (ib (1 + (3 * v2_6)) 66) (if (S 1 (1 + (3 * v2_6)).toNatClampNeg) = 0 then fX5_balance_L6 S n_6 (v1_6 + (S 1 ((1 + (3 * v2_6)) + 2).toNatClampNeg)) (v2_6 + 1) else fX5_balance_L6 S n_6 (v1_6 + (-(S 1 ((1 + (3 * v2_6)) + 2).toNatClampNeg))) (v2_6 + 1))) else gB (ib (1 + (3 * v2_6)) 66) (if (S 1 (1 + (3 * v2_6)).toNatClampNeg) = 0 then fX5_balance_L6 S n_6 (v1_6 + 0) (v2_6 + 1) else fX5_balance_L6 S n_6 (v1_6 + (-0)) (v2_6 + 1))))
def fX5_balance (S : OS) : Option (Int32) := fX5_balance_L6 S FU 200 0
abbrev rmX5_balance : Room := { frames := 2, cells := 0, slots := 0, locals := 44 }
set_option maxHeartbeats 4000000 in
set_option maxRecDepth 100000 in
theorem c_X5_balance (l : Launch) (E : En) (am : Nat → Nat) (S : OS) (r : Int32) (h : fX5_balance S = some r) : Met l yX5_balance (kX5_balance :: BIG) rmX5_balance (Pk E [.ref (am 0)] (MW E am S)) (QcRead r) 0 0 (fun _ => False) := by
  refine Mb (by decide) (Nat.le_of_ble_eq_true rfl) ?_
  intro p e s m below meth c ls hx hb hr hlk hB hown hml _ hK hw hl
  have hl : lv_has ls 4 [(0, .ref (am 0))] := hl
  rw [fX5_balance] at h
  have hL6 : ∀ (n_6 : Nat) (v1_6 : Int32) (v2_6 : Int32) (ls_6 : Array Slot), lv_has ls_6 4 [(0, .ref (am 0)), (1, .int v1_6), (2, .int v2_6)] → fX5_balance_L6 S n_6 v1_6 v2_6 = some r → W p l e rmX5_balance s m ([.ref (am 0)] : List Value).toArray below meth c s.heap [] 0 0 (MQ below (QcRead r) ([.ref (am 0)] : List Value).toArray s 0 0 (fun _ => False)) (F0 m 6 ls_6 []) := by
    intro n_6
    induction n_6 with
    | zero =>
      intro v1_6 v2_6 ls_6 hl h
      exact nn h
    | succ n_6 ih_6 =>
      intro v1_6 v2_6 ls_6 hl h
      rw [fX5_balance_L6] at h
      refine lv_iload_n hx hb dX5_balance_6 rfl (lv_at hl 2 rfl) ?_
      refine lv_aload_n hx hb dX5_balance_7 rfl (lv_at hl 0 rfl) ?_
      refine gX5_7 hx hb hB hown hK hw dX5_balance_8 ?_
      refine lv_iconst (v := 0) hx hb dX5_balance_11 (by decide) ?_
      refine lM hx hb hK hw (by decide) (by decide) (ib_ok (by decide)) dX5_balance_12 ?_
      refine lv_icmp_ge (tgt := 72) hx hb dX5_balance_13 (by decide) (fun g1 => ?_) (fun g1 => ?_)
      · rw [if_pos g1] at h
        refine lv_iload_n hx hb dX5_balance_72 rfl (lv_at hl 1 rfl) ?_
        exact e_zR hx hb hr hlk rfl h dX5_balance_73
      · rw [if_neg g1] at h
        refine lv_aload_n hx hb dX5_balance_16 rfl (lv_at hl 0 rfl) ?_
        refine gX5_7 hx hb hB hown hK hw dX5_balance_17 ?_
        refine lv_iload_n hx hb dX5_balance_20 rfl (lv_at hl 2 rfl) ?_
        obtain ⟨r2, e2, h⟩ := ob h
        refine k_SR ⟨hx, hb, hml, hown, hB⟩ (c_X5_plotOf l E am S 1 v2_6 (by decide) (by decide) r2 e2) (clX5_154 hB rfl rfl ⟨Nat.le_of_ble_eq_true rfl, Nat.le_of_ble_eq_true rfl⟩) hK hw rfl hl.1 rfl (Nat.le_of_ble_eq_true rfl) dX5_balance_21 ⟨Nat.zero_le _, Nat.zero_le _⟩ ?_
        refine lv_if_ge (tgt := 31) hx hb dX5_balance_24 (by decide) (fun g3 => ?_) (fun g3 => ?_)
        · rw [if_pos g3] at h
          refine lv_aload_n hx hb dX5_balance_31 rfl (lv_at hl 0 rfl) ?_
          refine gX5_7 hx hb hB hown hK hw dX5_balance_32 ?_
          refine lv_iconst (v := 1) hx hb dX5_balance_35 (by decide) ?_
          refine lv_iconst (v := 3) hx hb dX5_balance_36 (by decide) ?_
          refine lv_iload_n hx hb dX5_balance_37 rfl (lv_at hl 2 rfl) ?_
          refine lv_imul hx hb dX5_balance_38 ?_
          refine lv_iadd hx hb dX5_balance_39 ?_
          refine lv_iconst (v := 2) hx hb dX5_balance_40 (by decide) ?_
          refine lv_iadd hx hb dX5_balance_41 ?_
          obtain ⟨g4, h⟩ := gB_ok h
          refine lM hx hb hK hw (by decide) (by decide) (ib_ok g4) dX5_balance_42 ?_
          refine lv_istore_n (lv' := [(3, .int (S 1 ((1 + (3 * v2_6)) + 2).toNatClampNeg)), (0, .ref (am 0)), (1, .int v1_6), (2, .int v2_6)]) hx hb dX5_balance_43 rfl hl (by decide) rfl (fun ls hl => ?_)
          refine lv_iload_n hx hb dX5_balance_44 rfl (lv_at hl 2 rfl) ?_
          refine lv_aload_n hx hb dX5_balance_45 rfl (lv_at hl 1 rfl) ?_
          refine gX5_7 hx hb hB hown hK hw dX5_balance_46 ?_
          refine lv_iconst (v := 1) hx hb dX5_balance_49 (by decide) ?_
          refine lv_iconst (v := 3) hx hb dX5_balance_50 (by decide) ?_
          refine lv_iload_n hx hb dX5_balance_51 rfl (lv_at hl 3 rfl) ?_
          refine lv_imul hx hb dX5_balance_52 ?_
          refine lv_iadd hx hb dX5_balance_53 ?_
          obtain ⟨g5, h⟩ := gB_ok h
          refine lM hx hb hK hw (by decide) (by decide) (ib_ok g5) dX5_balance_54 ?_
          refine lv_if_ne (tgt := 62) hx hb dX5_balance_55 (by decide) (fun g6 => ?_) (fun g6 => ?_)
          · rw [if_neg g6] at h
            refine lv_iload_n hx hb dX5_balance_62 rfl (lv_at hl 0 rfl) ?_
            refine lv_ineg hx hb dX5_balance_63 ?_
            refine lv_iadd hx hb dX5_balance_64 ?_
            refine lv_istore_n (lv' := [(1, .int (v1_6 + (-(S 1 ((1 + (3 * v2_6)) + 2).toNatClampNeg)))), (3, .int (S 1 ((1 + (3 * v2_6)) + 2).toNatClampNeg)), (0, .ref (am 0)), (2, .int v2_6)]) hx hb dX5_balance_65 rfl hl (by decide) rfl (fun ls hl => ?_)
            refine lv_iinc (v := (v2_6 + 1)) (lv' := [(2, .int (v2_6 + 1)), (1, .int (v1_6 + (-(S 1 ((1 + (3 * v2_6)) + 2).toNatClampNeg)))), (3, .int (S 1 ((1 + (3 * v2_6)) + 2).toNatClampNeg)), (0, .ref (am 0))]) hx hb dX5_balance_66 hl (k := 3) rfl rfl (by decide) rfl (fun ls hl => ?_)
            refine lv_goto (tgt := 6) hx hb dX5_balance_69 (by decide) ?_
            exact ih_6 (v1_6 + (-(S 1 ((1 + (3 * v2_6)) + 2).toNatClampNeg))) (v2_6 + 1) _ (lv_sub hl [3, 1, 0] rfl) h
          · rw [if_pos g6] at h
            refine lv_iload_n hx hb dX5_balance_58 rfl (lv_at hl 0 rfl) ?_
            refine lv_goto (tgt := 64) hx hb dX5_balance_59 (by decide) ?_
            refine lv_iadd hx hb dX5_balance_64 ?_
            refine lv_istore_n (lv' := [(1, .int (v1_6 + (S 1 ((1 + (3 * v2_6)) + 2).toNatClampNeg))), (3, .int (S 1 ((1 + (3 * v2_6)) + 2).toNatClampNeg)), (0, .ref (am 0)), (2, .int v2_6)]) hx hb dX5_balance_65 rfl hl (by decide) rfl (fun ls hl => ?_)
            refine lv_iinc (v := (v2_6 + 1)) (lv' := [(2, .int (v2_6 + 1)), (1, .int (v1_6 + (S 1 ((1 + (3 * v2_6)) + 2).toNatClampNeg))), (3, .int (S 1 ((1 + (3 * v2_6)) + 2).toNatClampNeg)), (0, .ref (am 0))]) hx hb dX5_balance_66 hl (k := 3) rfl rfl (by decide) rfl (fun ls hl => ?_)
            refine lv_goto (tgt := 6) hx hb dX5_balance_69 (by decide) ?_
            exact ih_6 (v1_6 + (S 1 ((1 + (3 * v2_6)) + 2).toNatClampNeg)) (v2_6 + 1) _ (lv_sub hl [3, 1, 0] rfl) h
        · rw [if_neg g3] at h
          refine lv_iconst (v := 0) hx hb dX5_balance_27 (by decide) ?_
          refine lv_goto (tgt := 43) hx hb dX5_balance_28 (by decide) ?_
          refine lv_istore_n (lv' := [(3, .int 0), (0, .ref (am 0)), (1, .int v1_6), (2, .int v2_6)]) hx hb dX5_balance_43 rfl hl (by decide) rfl (fun ls hl => ?_)
          refine lv_iload_n hx hb dX5_balance_44 rfl (lv_at hl 2 rfl) ?_
          refine lv_aload_n hx hb dX5_balance_45 rfl (lv_at hl 1 rfl) ?_
          refine gX5_7 hx hb hB hown hK hw dX5_balance_46 ?_
          refine lv_iconst (v := 1) hx hb dX5_balance_49 (by decide) ?_
          refine lv_iconst (v := 3) hx hb dX5_balance_50 (by decide) ?_
          refine lv_iload_n hx hb dX5_balance_51 rfl (lv_at hl 3 rfl) ?_
          refine lv_imul hx hb dX5_balance_52 ?_
          refine lv_iadd hx hb dX5_balance_53 ?_
          obtain ⟨g7, h⟩ := gB_ok h
          refine lM hx hb hK hw (by decide) (by decide) (ib_ok g7) dX5_balance_54 ?_
          refine lv_if_ne (tgt := 62) hx hb dX5_balance_55 (by decide) (fun g8 => ?_) (fun g8 => ?_)
          · rw [if_neg g8] at h
            refine lv_iload_n hx hb dX5_balance_62 rfl (lv_at hl 0 rfl) ?_
            refine lv_ineg hx hb dX5_balance_63 ?_
            refine lv_iadd hx hb dX5_balance_64 ?_
            refine lv_istore_n (lv' := [(1, .int (v1_6 + (-0))), (3, .int 0), (0, .ref (am 0)), (2, .int v2_6)]) hx hb dX5_balance_65 rfl hl (by decide) rfl (fun ls hl => ?_)
            refine lv_iinc (v := (v2_6 + 1)) (lv' := [(2, .int (v2_6 + 1)), (1, .int (v1_6 + (-0))), (3, .int 0), (0, .ref (am 0))]) hx hb dX5_balance_66 hl (k := 3) rfl rfl (by decide) rfl (fun ls hl => ?_)
            refine lv_goto (tgt := 6) hx hb dX5_balance_69 (by decide) ?_
            exact ih_6 (v1_6 + (-0)) (v2_6 + 1) _ (lv_sub hl [3, 1, 0] rfl) h
          · rw [if_pos g8] at h
            refine lv_iload_n hx hb dX5_balance_58 rfl (lv_at hl 0 rfl) ?_
            refine lv_goto (tgt := 64) hx hb dX5_balance_59 (by decide) ?_
            refine lv_iadd hx hb dX5_balance_64 ?_
            refine lv_istore_n (lv' := [(1, .int (v1_6 + 0)), (3, .int 0), (0, .ref (am 0)), (2, .int v2_6)]) hx hb dX5_balance_65 rfl hl (by decide) rfl (fun ls hl => ?_)
            refine lv_iinc (v := (v2_6 + 1)) (lv' := [(2, .int (v2_6 + 1)), (1, .int (v1_6 + 0)), (3, .int 0), (0, .ref (am 0))]) hx hb dX5_balance_66 hl (k := 3) rfl rfl (by decide) rfl (fun ls hl => ?_)
            refine lv_goto (tgt := 6) hx hb dX5_balance_69 (by decide) ?_
            exact ih_6 (v1_6 + 0) (v2_6 + 1) _ (lv_sub hl [3, 1, 0] rfl) h
  refine lv_sipush (v := 200) hx hb dX5_balance_0 (by decide) ?_
  refine lv_istore_n (lv' := [(1, .int 200), (0, .ref (am 0))]) hx hb dX5_balance_3 rfl hl (by decide) rfl (fun ls hl => ?_)
  refine lv_iconst (v := 0) hx hb dX5_balance_4 (by decide) ?_
  refine lv_istore_n (lv' := [(2, .int 0), (1, .int 200), (0, .ref (am 0))]) hx hb dX5_balance_5 rfl hl (by decide) rfl (fun ls hl => ?_)
  exact hL6 FU 200 0 _ (lv_sub hl [2, 1, 0] rfl) h
def fX5_firstIn_L2 (S : OS) (v1_2 : Int32) (v2_2 : Int32) : Nat → Int32 → Option (Int32)
  | 0, _ => none
  | n_2 + 1, v3_2 => if (S 1 (0 : Int32).toNatClampNeg) ≤ v3_2 then some 0 else (fX5_has v2_2 v3_2).bind (fun r2 => (if r2 = 0 then fX5_firstIn_L2 S v1_2 v2_2 n_2 (v3_2 + 1) else gB (ib (1 + (3 * v3_2)) 66) (if (S 1 (1 + (3 * v3_2)).toNatClampNeg) = (1 - v1_2) then some (1 <<< (v3_2 &&& 31)) else fX5_firstIn_L2 S v1_2 v2_2 n_2 (v3_2 + 1))))
def fX5_firstIn (S : OS) (a1 : Int32) (a2 : Int32) : Option (Int32) := fX5_firstIn_L2 S a1 a2 FU 0
abbrev rmX5_firstIn : Room := { frames := 1, cells := 0, slots := 0, locals := 21 }
set_option maxHeartbeats 4000000 in
set_option maxRecDepth 100000 in
theorem c_X5_firstIn (l : Launch) (E : En) (am : Nat → Nat) (S : OS) (a1 : Int32) (a2 : Int32) (r : Int32) (h : fX5_firstIn S a1 a2 = some r) : Met l yX5_firstIn (kX5_firstIn :: BIG) rmX5_firstIn (Pk E [.ref (am 0), .int a1, .int a2] (MW E am S)) (QcRead r) 0 0 (fun _ => False) := by
  refine Mb (by decide) (Nat.le_of_ble_eq_true rfl) ?_
  intro p e s m below meth c ls hx hb hr hlk hB hown hml _ hK hw hl
  have hl : lv_has ls 4 [(0, .ref (am 0)), (1, .int a1), (2, .int a2)] := hl
  rw [fX5_firstIn] at h
  have hL2 : ∀ (n_2 : Nat) (v1_2 : Int32) (v2_2 : Int32) (v3_2 : Int32) (ls_2 : Array Slot), lv_has ls_2 4 [(0, .ref (am 0)), (1, .int v1_2), (2, .int v2_2), (3, .int v3_2)] → fX5_firstIn_L2 S v1_2 v2_2 n_2 v3_2 = some r → W p l e rmX5_firstIn s m ([.ref (am 0), .int a1, .int a2] : List Value).toArray below meth c s.heap [] 0 0 (MQ below (QcRead r) ([.ref (am 0), .int a1, .int a2] : List Value).toArray s 0 0 (fun _ => False)) (F0 m 2 ls_2 []) := by
    intro n_2
    induction n_2 with
    | zero =>
      intro v1_2 v2_2 v3_2 ls_2 hl h
      exact nn h
    | succ n_2 ih_2 =>
      intro v1_2 v2_2 v3_2 ls_2 hl h
      rw [fX5_firstIn_L2] at h
      refine lv_iload_n hx hb dX5_firstIn_2 rfl (lv_at hl 3 rfl) ?_
      refine lv_aload_n hx hb dX5_firstIn_3 rfl (lv_at hl 0 rfl) ?_
      refine gX5_7 hx hb hB hown hK hw dX5_firstIn_4 ?_
      refine lv_iconst (v := 0) hx hb dX5_firstIn_7 (by decide) ?_
      refine lM hx hb hK hw (by decide) (by decide) (ib_ok (by decide)) dX5_firstIn_8 ?_
      refine lv_icmp_ge (tgt := 46) hx hb dX5_firstIn_9 (by decide) (fun g1 => ?_) (fun g1 => ?_)
      · rw [if_pos g1] at h
        refine lv_iconst (v := 0) hx hb dX5_firstIn_46 (by decide) ?_
        exact e_zR hx hb hr hlk rfl h dX5_firstIn_47
      · rw [if_neg g1] at h
        refine lv_iload_n hx hb dX5_firstIn_12 rfl (lv_at hl 2 rfl) ?_
        refine lv_iload_n hx hb dX5_firstIn_13 rfl (lv_at hl 3 rfl) ?_
        obtain ⟨r2, e2, h⟩ := ob h
        refine k_SR ⟨hx, hb, hml, hown, hB⟩ (c_X5_has l E v2_2 v3_2 r2 e2) (clX5_194 hB rfl rfl ⟨Nat.le_of_ble_eq_true rfl, Nat.le_of_ble_eq_true rfl⟩) hK trivial rfl hl.1 rfl (Nat.le_of_ble_eq_true rfl) dX5_firstIn_14 ⟨Nat.zero_le _, Nat.zero_le _⟩ ?_
        refine lv_if_eq (tgt := 40) hx hb dX5_firstIn_17 (by decide) (fun g3 => ?_) (fun g3 => ?_)
        · rw [if_pos g3] at h
          refine lv_iinc (v := (v3_2 + 1)) (lv' := [(3, .int (v3_2 + 1)), (0, .ref (am 0)), (1, .int v1_2), (2, .int v2_2)]) hx hb dX5_firstIn_40 hl (k := 3) rfl rfl (by decide) rfl (fun ls hl => ?_)
          refine lv_goto (tgt := 2) hx hb dX5_firstIn_43 (by decide) ?_
          exact ih_2 v1_2 v2_2 (v3_2 + 1) _ (lv_sub hl [1, 2, 3, 0] rfl) h
        · rw [if_neg g3] at h
          refine lv_aload_n hx hb dX5_firstIn_20 rfl (lv_at hl 0 rfl) ?_
          refine gX5_7 hx hb hB hown hK hw dX5_firstIn_21 ?_
          refine lv_iconst (v := 1) hx hb dX5_firstIn_24 (by decide) ?_
          refine lv_iconst (v := 3) hx hb dX5_firstIn_25 (by decide) ?_
          refine lv_iload_n hx hb dX5_firstIn_26 rfl (lv_at hl 3 rfl) ?_
          refine lv_imul hx hb dX5_firstIn_27 ?_
          refine lv_iadd hx hb dX5_firstIn_28 ?_
          obtain ⟨g4, h⟩ := gB_ok h
          refine lM hx hb hK hw (by decide) (by decide) (ib_ok g4) dX5_firstIn_29 ?_
          refine lv_iconst (v := 1) hx hb dX5_firstIn_30 (by decide) ?_
          refine lv_iload_n hx hb dX5_firstIn_31 rfl (lv_at hl 1 rfl) ?_
          refine lv_isub hx hb dX5_firstIn_32 ?_
          refine lv_icmp_ne (tgt := 40) hx hb dX5_firstIn_33 (by decide) (fun g5 => ?_) (fun g5 => ?_)
          · rw [if_neg g5] at h
            refine lv_iinc (v := (v3_2 + 1)) (lv' := [(3, .int (v3_2 + 1)), (0, .ref (am 0)), (1, .int v1_2), (2, .int v2_2)]) hx hb dX5_firstIn_40 hl (k := 3) rfl rfl (by decide) rfl (fun ls hl => ?_)
            refine lv_goto (tgt := 2) hx hb dX5_firstIn_43 (by decide) ?_
            exact ih_2 v1_2 v2_2 (v3_2 + 1) _ (lv_sub hl [1, 2, 3, 0] rfl) h
          · rw [if_pos g5] at h
            refine lv_iconst (v := 1) hx hb dX5_firstIn_36 (by decide) ?_
            refine lv_iload_n hx hb dX5_firstIn_37 rfl (lv_at hl 3 rfl) ?_
            refine lv_ishl hx hb dX5_firstIn_38 ?_
            exact e_zR hx hb hr hlk rfl h dX5_firstIn_39
  refine lv_iconst (v := 0) hx hb dX5_firstIn_0 (by decide) ?_
  refine lv_istore_n (lv' := [(3, .int 0), (0, .ref (am 0)), (1, .int a1), (2, .int a2)]) hx hb dX5_firstIn_1 rfl hl (by decide) rfl (fun ls hl => ?_)
  exact hL2 FU a1 a2 0 _ (lv_sub hl [1, 2, 3, 0] rfl) h
def fX5_names_L55 (S : OS) (v1_55 : Int32) : Nat → Int32 → Int32 → Option (Int32)
  | 0, _, _ => none
  | n_55 + 1, v2_55, v3_55 => if v1_55 ≤ v3_55 then some v2_55 else (fX5_firstIn S (v3_55 - v3_55 / 2 * 2) v2_55).bind (fun r2 => (if r2 = 0 then (fX5_firstIn S (1 - (v3_55 - v3_55 / 2 * 2)) v2_55).bind (fun r4 => (fX5_names_L55 S v1_55 n_55 (v2_55 &&& (r4 ^^^ (-1))) (v3_55 + 1))) else fX5_names_L55 S v1_55 n_55 (v2_55 &&& (r2 ^^^ (-1))) (v3_55 + 1)))
def fX5_names_L16 (S : OS) (v1_16 : Int32) : Nat → Int32 → Int32 → Option (Int32)
  | 0, _, _ => none
  | n_16 + 1, v2_16, v3_16 => if (S 1 (0 : Int32).toNatClampNeg) ≤ v3_16 then fX5_names_L55 S v1_16 FU v2_16 0 else (fX5_plotOf S 1 v3_16).bind (fun r6 => (if r6 < 0 then fX5_names_L16 S v1_16 n_16 (v2_16 ||| 0) (v3_16 + 1) else fX5_names_L16 S v1_16 n_16 (v2_16 ||| (1 <<< (v3_16 &&& 31))) (v3_16 + 1)))
def fX5_names (S : OS) (a1 : Int32) : Option (Int32) := (fX5_in a1 0 20).bind (fun r8 => (if r8 = 0 then some (-1) else fX5_names_L16 S a1 FU 0 0))
abbrev rmX5_names : Room := { frames := 2, cells := 0, slots := 0, locals := 44 }
set_option maxHeartbeats 4000000 in
set_option maxRecDepth 100000 in
theorem c_X5_names (l : Launch) (E : En) (am : Nat → Nat) (S : OS) (a1 : Int32) (r : Int32) (h : fX5_names S a1 = some r) : Met l yX5_names (kX5_names :: BIG) rmX5_names (Pk E [.ref (am 0), .int a1] (MW E am S)) (QcRead r) 0 0 (fun _ => False) := by
  refine Mb (by decide) (Nat.le_of_ble_eq_true rfl) ?_
  intro p e s m below meth c ls hx hb hr hlk hB hown hml _ hK hw hl
  have hl : lv_has ls 5 [(0, .ref (am 0)), (1, .int a1)] := hl
  rw [fX5_names] at h
  have hL55 : ∀ (n_55 : Nat) (v1_55 : Int32) (v2_55 : Int32) (v3_55 : Int32) (ls_55 : Array Slot), lv_has ls_55 5 [(0, .ref (am 0)), (1, .int v1_55), (2, .int v2_55), (3, .int v3_55)] → fX5_names_L55 S v1_55 n_55 v2_55 v3_55 = some r → W p l e rmX5_names s m ([.ref (am 0), .int a1] : List Value).toArray below meth c s.heap [] 0 0 (MQ below (QcRead r) ([.ref (am 0), .int a1] : List Value).toArray s 0 0 (fun _ => False)) (F0 m 55 ls_55 []) := by
    intro n_55
    induction n_55 with
    | zero =>
      intro v1_55 v2_55 v3_55 ls_55 hl h
      exact nn h
    | succ n_55 ih_55 =>
      intro v1_55 v2_55 v3_55 ls_55 hl h
      rw [fX5_names_L55] at h
      refine lv_iload_n hx hb dX5_names_55 rfl (lv_at hl 3 rfl) ?_
      refine lv_iload_n hx hb dX5_names_56 rfl (lv_at hl 1 rfl) ?_
      refine lv_icmp_ge (tgt := 105) hx hb dX5_names_57 (by decide) (fun g1 => ?_) (fun g1 => ?_)
      · rw [if_pos g1] at h
        refine lv_iload_n hx hb dX5_names_105 rfl (lv_at hl 2 rfl) ?_
        exact e_zR hx hb hr hlk rfl h dX5_names_106
      · rw [if_neg g1] at h
        refine lv_aload_n hx hb dX5_names_60 rfl (lv_at hl 0 rfl) ?_
        refine lv_iload_n hx hb dX5_names_61 rfl (lv_at hl 3 rfl) ?_
        refine lv_iconst (v := 2) hx hb dX5_names_62 (by decide) ?_
        refine lv_irem hx hb dX5_names_63 (by decide) ?_
        refine lv_iload_n hx hb dX5_names_64 rfl (lv_at hl 2 rfl) ?_
        obtain ⟨r2, e2, h⟩ := ob h
        refine k_VR ⟨hx, hb, hml, hown, hB⟩ (c_X5_firstIn l E am S (v3_55 - v3_55 / 2 * 2) v2_55 r2 e2) (clX5_233 hB rfl rfl ⟨Nat.le_of_ble_eq_true rfl, Nat.le_of_ble_eq_true rfl⟩) hK hw (rvM hK hw) rfl hl.1 rfl (Nat.le_of_ble_eq_true rfl) dX5_names_65 ⟨Nat.zero_le _, Nat.zero_le _⟩ ?_
        refine lv_istore (lv' := [(4, .int r2), (0, .ref (am 0)), (1, .int v1_55), (2, .int v2_55), (3, .int v3_55)]) hx hb dX5_names_68 hl (by decide) rfl (fun ls hl => ?_)
        refine lv_iload hx hb dX5_names_70 (lv_at hl 0 rfl) ?_
        refine lv_if_ne (tgt := 88) hx hb dX5_names_72 (by decide) (fun g3 => ?_) (fun g3 => ?_)
        · rw [if_neg g3] at h
          refine lv_iload hx hb dX5_names_88 (lv_at hl 0 rfl) ?_
          refine lv_istore (lv' := [(4, .int r2), (0, .ref (am 0)), (1, .int v1_55), (2, .int v2_55), (3, .int v3_55)]) hx hb dX5_names_90 hl (by decide) rfl (fun ls hl => ?_)
          refine lv_iload_n hx hb dX5_names_92 rfl (lv_at hl 3 rfl) ?_
          refine lv_iload hx hb dX5_names_93 (lv_at hl 0 rfl) ?_
          refine lv_iconst (v := (-1)) hx hb dX5_names_95 (by decide) ?_
          refine lv_ixor hx hb dX5_names_96 ?_
          refine lv_iand hx hb dX5_names_97 ?_
          refine lv_istore_n (lv' := [(2, .int (v2_55 &&& (r2 ^^^ (-1)))), (4, .int r2), (0, .ref (am 0)), (1, .int v1_55), (3, .int v3_55)]) hx hb dX5_names_98 rfl hl (by decide) rfl (fun ls hl => ?_)
          refine lv_iinc (v := (v3_55 + 1)) (lv' := [(3, .int (v3_55 + 1)), (2, .int (v2_55 &&& (r2 ^^^ (-1)))), (4, .int r2), (0, .ref (am 0)), (1, .int v1_55)]) hx hb dX5_names_99 hl (k := 4) rfl rfl (by decide) rfl (fun ls hl => ?_)
          refine lv_goto (tgt := 55) hx hb dX5_names_102 (by decide) ?_
          exact ih_55 v1_55 (v2_55 &&& (r2 ^^^ (-1))) (v3_55 + 1) _ (lv_sub hl [3, 4, 1, 0] rfl) h
        · rw [if_pos g3] at h
          refine lv_aload_n hx hb dX5_names_75 rfl (lv_at hl 1 rfl) ?_
          refine lv_iconst (v := 1) hx hb dX5_names_76 (by decide) ?_
          refine lv_iload_n hx hb dX5_names_77 rfl (lv_at hl 4 rfl) ?_
          refine lv_iconst (v := 2) hx hb dX5_names_78 (by decide) ?_
          refine lv_irem hx hb dX5_names_79 (by decide) ?_
          refine lv_isub hx hb dX5_names_80 ?_
          refine lv_iload_n hx hb dX5_names_81 rfl (lv_at hl 3 rfl) ?_
          obtain ⟨r4, e4, h⟩ := ob h
          refine k_VR ⟨hx, hb, hml, hown, hB⟩ (c_X5_firstIn l E am S (1 - (v3_55 - v3_55 / 2 * 2)) v2_55 r4 e4) (clX5_233 hB rfl rfl ⟨Nat.le_of_ble_eq_true rfl, Nat.le_of_ble_eq_true rfl⟩) hK hw (rvM hK hw) rfl hl.1 rfl (Nat.le_of_ble_eq_true rfl) dX5_names_82 ⟨Nat.zero_le _, Nat.zero_le _⟩ ?_
          refine lv_goto (tgt := 90) hx hb dX5_names_85 (by decide) ?_
          refine lv_istore (lv' := [(4, .int r4), (0, .ref (am 0)), (1, .int v1_55), (2, .int v2_55), (3, .int v3_55)]) hx hb dX5_names_90 hl (by decide) rfl (fun ls hl => ?_)
          refine lv_iload_n hx hb dX5_names_92 rfl (lv_at hl 3 rfl) ?_
          refine lv_iload hx hb dX5_names_93 (lv_at hl 0 rfl) ?_
          refine lv_iconst (v := (-1)) hx hb dX5_names_95 (by decide) ?_
          refine lv_ixor hx hb dX5_names_96 ?_
          refine lv_iand hx hb dX5_names_97 ?_
          refine lv_istore_n (lv' := [(2, .int (v2_55 &&& (r4 ^^^ (-1)))), (4, .int r4), (0, .ref (am 0)), (1, .int v1_55), (3, .int v3_55)]) hx hb dX5_names_98 rfl hl (by decide) rfl (fun ls hl => ?_)
          refine lv_iinc (v := (v3_55 + 1)) (lv' := [(3, .int (v3_55 + 1)), (2, .int (v2_55 &&& (r4 ^^^ (-1)))), (4, .int r4), (0, .ref (am 0)), (1, .int v1_55)]) hx hb dX5_names_99 hl (k := 4) rfl rfl (by decide) rfl (fun ls hl => ?_)
          refine lv_goto (tgt := 55) hx hb dX5_names_102 (by decide) ?_
          exact ih_55 v1_55 (v2_55 &&& (r4 ^^^ (-1))) (v3_55 + 1) _ (lv_sub hl [3, 4, 1, 0] rfl) h
  have hL16 : ∀ (n_16 : Nat) (v1_16 : Int32) (v2_16 : Int32) (v3_16 : Int32) (ls_16 : Array Slot), lv_has ls_16 5 [(0, .ref (am 0)), (1, .int v1_16), (2, .int v2_16), (3, .int v3_16)] → fX5_names_L16 S v1_16 n_16 v2_16 v3_16 = some r → W p l e rmX5_names s m ([.ref (am 0), .int a1] : List Value).toArray below meth c s.heap [] 0 0 (MQ below (QcRead r) ([.ref (am 0), .int a1] : List Value).toArray s 0 0 (fun _ => False)) (F0 m 16 ls_16 []) := by
    intro n_16
    induction n_16 with
    | zero =>
      intro v1_16 v2_16 v3_16 ls_16 hl h
      exact nn h
    | succ n_16 ih_16 =>
      intro v1_16 v2_16 v3_16 ls_16 hl h
      rw [fX5_names_L16] at h
      refine lv_iload_n hx hb dX5_names_16 rfl (lv_at hl 3 rfl) ?_
      refine lv_aload_n hx hb dX5_names_17 rfl (lv_at hl 0 rfl) ?_
      refine gX5_7 hx hb hB hown hK hw dX5_names_18 ?_
      refine lv_iconst (v := 0) hx hb dX5_names_21 (by decide) ?_
      refine lM hx hb hK hw (by decide) (by decide) (ib_ok (by decide)) dX5_names_22 ?_
      refine lv_icmp_ge (tgt := 53) hx hb dX5_names_23 (by decide) (fun g5 => ?_) (fun g5 => ?_)
      · rw [if_pos g5] at h
        refine lv_iconst (v := 0) hx hb dX5_names_53 (by decide) ?_
        refine lv_istore_n (lv' := [(3, .int 0), (0, .ref (am 0)), (1, .int v1_16), (2, .int v2_16)]) hx hb dX5_names_54 rfl hl (by decide) rfl (fun ls hl => ?_)
        exact hL55 FU v1_16 v2_16 0 _ (lv_sub hl [1, 2, 3, 0] rfl) h
      · rw [if_neg g5] at h
        refine lv_iload_n hx hb dX5_names_26 rfl (lv_at hl 2 rfl) ?_
        refine lv_aload_n hx hb dX5_names_27 rfl (lv_at hl 0 rfl) ?_
        refine gX5_7 hx hb hB hown hK hw dX5_names_28 ?_
        refine lv_iload_n hx hb dX5_names_31 rfl (lv_at hl 3 rfl) ?_
        obtain ⟨r6, e6, h⟩ := ob h
        refine k_SR ⟨hx, hb, hml, hown, hB⟩ (c_X5_plotOf l E am S 1 v3_16 (by decide) (by decide) r6 e6) (clX5_154 hB rfl rfl ⟨Nat.le_of_ble_eq_true rfl, Nat.le_of_ble_eq_true rfl⟩) hK hw rfl hl.1 rfl (Nat.le_of_ble_eq_true rfl) dX5_names_32 ⟨Nat.zero_le _, Nat.zero_le _⟩ ?_
        refine lv_if_lt (tgt := 44) hx hb dX5_names_35 (by decide) (fun g7 => ?_) (fun g7 => ?_)
        · rw [if_pos g7] at h
          refine lv_iconst (v := 0) hx hb dX5_names_44 (by decide) ?_
          refine lv_ior hx hb dX5_names_45 ?_
          refine lv_istore_n (lv' := [(2, .int (v2_16 ||| 0)), (0, .ref (am 0)), (1, .int v1_16), (3, .int v3_16)]) hx hb dX5_names_46 rfl hl (by decide) rfl (fun ls hl => ?_)
          refine lv_iinc (v := (v3_16 + 1)) (lv' := [(3, .int (v3_16 + 1)), (2, .int (v2_16 ||| 0)), (0, .ref (am 0)), (1, .int v1_16)]) hx hb dX5_names_47 hl (k := 3) rfl rfl (by decide) rfl (fun ls hl => ?_)
          refine lv_goto (tgt := 16) hx hb dX5_names_50 (by decide) ?_
          exact ih_16 v1_16 (v2_16 ||| 0) (v3_16 + 1) _ (lv_sub hl [2, 3, 1, 0] rfl) h
        · rw [if_neg g7] at h
          refine lv_iconst (v := 1) hx hb dX5_names_38 (by decide) ?_
          refine lv_iload_n hx hb dX5_names_39 rfl (lv_at hl 3 rfl) ?_
          refine lv_ishl hx hb dX5_names_40 ?_
          refine lv_goto (tgt := 45) hx hb dX5_names_41 (by decide) ?_
          refine lv_ior hx hb dX5_names_45 ?_
          refine lv_istore_n (lv' := [(2, .int (v2_16 ||| (1 <<< (v3_16 &&& 31)))), (0, .ref (am 0)), (1, .int v1_16), (3, .int v3_16)]) hx hb dX5_names_46 rfl hl (by decide) rfl (fun ls hl => ?_)
          refine lv_iinc (v := (v3_16 + 1)) (lv' := [(3, .int (v3_16 + 1)), (2, .int (v2_16 ||| (1 <<< (v3_16 &&& 31)))), (0, .ref (am 0)), (1, .int v1_16)]) hx hb dX5_names_47 hl (k := 3) rfl rfl (by decide) rfl (fun ls hl => ?_)
          refine lv_goto (tgt := 16) hx hb dX5_names_50 (by decide) ?_
          exact ih_16 v1_16 (v2_16 ||| (1 <<< (v3_16 &&& 31))) (v3_16 + 1) _ (lv_sub hl [2, 3, 1, 0] rfl) h
  refine lv_iload_n hx hb dX5_names_0 rfl (lv_at hl 1 rfl) ?_
  refine lv_iconst (v := 0) hx hb dX5_names_1 (by decide) ?_
  refine lv_bipush (v := 20) hx hb dX5_names_2 (by decide) ?_
  obtain ⟨r8, e8, h⟩ := ob h
  refine k_SR ⟨hx, hb, hml, hown, hB⟩ (c_X5_in l E a1 0 20 r8 e8) (clX5_67 hB rfl rfl ⟨Nat.le_of_ble_eq_true rfl, Nat.le_of_ble_eq_true rfl⟩) hK trivial rfl hl.1 rfl (Nat.le_of_ble_eq_true rfl) dX5_names_4 ⟨Nat.zero_le _, Nat.zero_le _⟩ ?_
  refine lv_if_ne (tgt := 12) hx hb dX5_names_7 (by decide) (fun g9 => ?_) (fun g9 => ?_)
  · rw [if_neg g9] at h
    refine lv_iconst (v := 0) hx hb dX5_names_12 (by decide) ?_
    refine lv_istore_n (lv' := [(2, .int 0), (0, .ref (am 0)), (1, .int a1)]) hx hb dX5_names_13 rfl hl (by decide) rfl (fun ls hl => ?_)
    refine lv_iconst (v := 0) hx hb dX5_names_14 (by decide) ?_
    refine lv_istore_n (lv' := [(3, .int 0), (2, .int 0), (0, .ref (am 0)), (1, .int a1)]) hx hb dX5_names_15 rfl hl (by decide) rfl (fun ls hl => ?_)
    exact hL16 FU a1 0 0 _ (lv_sub hl [2, 3, 1, 0] rfl) h
  · rw [if_pos g9] at h
    refine lv_iconst (v := (-1)) hx hb dX5_names_10 (by decide) ?_
    exact e_zR hx hb hr hlk rfl h dX5_names_11
def fX5_next (S : OS) (a1 : Int32) (a2 : Int32) (a3 : Int32) : Option (Int32 × OS) := (fX5_isOne S a1 a2 a3).bind (fun r1 => (if r1 = 0 then some ((-1), S) else (fX5_from S 1).bind (fun r3 => ((fX5_placeFor r3 (1 - a1) a2 a3).bind (fun r5 => (some (r5, r3)))))))
abbrev rmX5_next : Room := { frames := 2, cells := 0, slots := 0, locals := 49 }
set_option maxHeartbeats 4000000 in
set_option maxRecDepth 100000 in
theorem c_X5_next (l : Launch) (E : En) (am : Nat → Nat) (S : OS) (a1 : Int32) (a2 : Int32) (a3 : Int32) (r : Int32 × OS) (h : fX5_next S a1 a2 a3 = some r) : Met l yX5_next (kX5_next :: BIG) rmX5_next (Pk E [.ref (am 0), .int a1, .int a2, .int a3] (MW E am S)) (QW (some (.int r.1)) (AM am) (MW E am r.2)) 0 0 (AM am) := by
  refine Mb (by decide) (Nat.le_of_ble_eq_true rfl) ?_
  intro p e s m below meth c ls hx hb hr hlk hB hown hml _ hK hw hl
  have hS : va_S (AM am) s.heap s.heap [] := va_S.rf
  have hl : lv_has ls 4 [(0, .ref (am 0)), (1, .int a1), (2, .int a2), (3, .int a3)] := hl
  rw [fX5_next] at h
  refine lv_aload_n hx hb dX5_next_0 rfl (lv_at hl 0 rfl) ?_
  refine lv_iload_n hx hb dX5_next_1 rfl (lv_at hl 1 rfl) ?_
  refine lv_iload_n hx hb dX5_next_2 rfl (lv_at hl 2 rfl) ?_
  refine lv_iload_n hx hb dX5_next_3 rfl (lv_at hl 3 rfl) ?_
  obtain ⟨r1, e1, h⟩ := ob h
  refine k_VR ⟨hx, hb, hml, hown, hB⟩ (c_X5_isOne l E am S a1 a2 a3 r1 e1) (clX5_164 hB rfl rfl ⟨Nat.le_of_ble_eq_true rfl, Nat.le_of_ble_eq_true rfl⟩) hK hw (rvM hK hw) rfl hl.1 rfl (Nat.le_of_ble_eq_true rfl) dX5_next_4 ⟨Nat.zero_le _, Nat.zero_le _⟩ ?_
  refine lv_if_ne (tgt := 12) hx hb dX5_next_7 (by decide) (fun g2 => ?_) (fun g2 => ?_)
  · rw [if_neg g2] at h
    refine lv_aload_n hx hb dX5_next_12 rfl (lv_at hl 0 rfl) ?_
    refine lv_aload_n hx hb dX5_next_13 rfl (lv_at hl 0 rfl) ?_
    refine gX5_7 hx hb hB hown hK hw dX5_next_14 ?_
    obtain ⟨r3, e3, h⟩ := ob h
    refine k_VWv ⟨hx, hb, hml, hown, hB⟩ (c_X5_from l E am S 1 (by decide) (by decide) r3 e3) (clX5_170 hB rfl rfl ⟨Nat.le_of_ble_eq_true rfl, Nat.le_of_ble_eq_true rfl⟩) hK hw (rvM hK hw) rfl hl.1 rfl (Nat.le_of_ble_eq_true rfl) dX5_next_17 ⟨Nat.zero_le _, Nat.zero_le _⟩ hS (fun _ z => z) (fun H4 L4 hw _ _ hS => ?_)
    refine lv_aload_n hx hb dX5_next_20 rfl (lv_at hl 0 rfl) ?_
    refine lv_iconst (v := 1) hx hb dX5_next_21 (by decide) ?_
    refine lv_iload_n hx hb dX5_next_22 rfl (lv_at hl 1 rfl) ?_
    refine lv_isub hx hb dX5_next_23 ?_
    refine lv_iload_n hx hb dX5_next_24 rfl (lv_at hl 2 rfl) ?_
    refine lv_iload_n hx hb dX5_next_25 rfl (lv_at hl 3 rfl) ?_
    obtain ⟨r5, e5, h⟩ := ob h
    refine k_VR ⟨hx, hb, hml, hown, hB⟩ (c_X5_placeFor l E am r3 (1 - a1) a2 a3 r5 e5) (clX5_141 hB rfl rfl ⟨Nat.le_of_ble_eq_true rfl, Nat.le_of_ble_eq_true rfl⟩) hK hw (rvM hK hw) rfl hl.1 rfl (Nat.le_of_ble_eq_true rfl) dX5_next_26 ⟨Nat.zero_le _, Nat.zero_le _⟩ ?_
    cases h
    exact e_zW hx hb hr hlk rfl rfl hw hS dX5_next_29
  · rw [if_pos g2] at h
    refine lv_iconst (v := (-1)) hx hb dX5_next_10 (by decide) ?_
    cases h
    exact e_zW hx hb hr hlk rfl rfl hw hS dX5_next_11
def fX5_year_L43 (v1_43 : Int32) (v2_43 : Int32) (v3_43 : Int32) : Nat → Int32 → OS → Option (Int32 × OS)
  | 0, _, _ => none
  | n_43 + 1, v4_43, S_43 => if v2_43 ≤ v4_43 then if v3_43 = 0 then (fX5_owedOn S_43 8 0).bind (fun r9 => ((fX5_owedOn S_43 8 1).bind (fun r10 => (some ((r9 + r10), S_43))))) else (fX5_put S_43 9 0 8 66).bind (fun r3 => ((fX5_anew r3).bind (fun r5 => ((fX5_movedBits r5).bind (fun r7 => ((fX5_bits r7).bind (fun r8 => (some (r8, r5))))))))) else if 12 ≤ (S_43 8 (0 : Int32).toNatClampNeg) then gB (nz (S_43 0 0)) (gB (nz (S_43 0 0)) ((fX5_changes S_43 8 (((((((((7919 : Int64) * v1_43.toInt64) + ((6151 : Int64) * v4_43.toInt64)) + (1 : Int64)) * ((((7919 : Int64) * v1_43.toInt64) + ((6151 : Int64) * v4_43.toInt64)) + (1 : Int64))) - (((((7919 : Int64) * v1_43.toInt64) + ((6151 : Int64) * v4_43.toInt64)) + (1 : Int64)) * ((((7919 : Int64) * v1_43.toInt64) + ((6151 : Int64) * v4_43.toInt64)) + (1 : Int64))) / (65521 : Int64) * (65521 : Int64)) / (2 : Int64)).toInt32 / 64) - ((((((((7919 : Int64) * v1_43.toInt64) + ((6151 : Int64) * v4_43.toInt64)) + (1 : Int64)) * ((((7919 : Int64) * v1_43.toInt64) + ((6151 : Int64) * v4_43.toInt64)) + (1 : Int64))) - (((((7919 : Int64) * v1_43.toInt64) + ((6151 : Int64) * v4_43.toInt64)) + (1 : Int64)) * ((((7919 : Int64) * v1_43.toInt64) + ((6151 : Int64) * v4_43.toInt64)) + (1 : Int64))) / (65521 : Int64) * (65521 : Int64)) / (2 : Int64)).toInt32 / 64) / 2 * 2) (((((((((7919 : Int64) * v1_43.toInt64) + ((6151 : Int64) * v4_43.toInt64)) + (1 : Int64)) * ((((7919 : Int64) * v1_43.toInt64) + ((6151 : Int64) * v4_43.toInt64)) + (1 : Int64))) - (((((7919 : Int64) * v1_43.toInt64) + ((6151 : Int64) * v4_43.toInt64)) + (1 : Int64)) * ((((7919 : Int64) * v1_43.toInt64) + ((6151 : Int64) * v4_43.toInt64)) + (1 : Int64))) / (65521 : Int64) * (65521 : Int64)) / (2 : Int64)).toInt32 / 16) - ((((((((7919 : Int64) * v1_43.toInt64) + ((6151 : Int64) * v4_43.toInt64)) + (1 : Int64)) * ((((7919 : Int64) * v1_43.toInt64) + ((6151 : Int64) * v4_43.toInt64)) + (1 : Int64))) - (((((7919 : Int64) * v1_43.toInt64) + ((6151 : Int64) * v4_43.toInt64)) + (1 : Int64)) * ((((7919 : Int64) * v1_43.toInt64) + ((6151 : Int64) * v4_43.toInt64)) + (1 : Int64))) / (65521 : Int64) * (65521 : Int64)) / (2 : Int64)).toInt32 / 16) / (S_43 0 0) * (S_43 0 0)) (((((((((7919 : Int64) * v1_43.toInt64) + ((6151 : Int64) * v4_43.toInt64)) + (1 : Int64)) * ((((7919 : Int64) * v1_43.toInt64) + ((6151 : Int64) * v4_43.toInt64)) + (1 : Int64))) - (((((7919 : Int64) * v1_43.toInt64) + ((6151 : Int64) * v4_43.toInt64)) + (1 : Int64)) * ((((7919 : Int64) * v1_43.toInt64) + ((6151 : Int64) * v4_43.toInt64)) + (1 : Int64))) / (65521 : Int64) * (65521 : Int64)) / (2 : Int64)).toInt32 / 32) - ((((((((7919 : Int64) * v1_43.toInt64) + ((6151 : Int64) * v4_43.toInt64)) + (1 : Int64)) * ((((7919 : Int64) * v1_43.toInt64) + ((6151 : Int64) * v4_43.toInt64)) + (1 : Int64))) - (((((7919 : Int64) * v1_43.toInt64) + ((6151 : Int64) * v4_43.toInt64)) + (1 : Int64)) * ((((7919 : Int64) * v1_43.toInt64) + ((6151 : Int64) * v4_43.toInt64)) + (1 : Int64))) / (65521 : Int64) * (65521 : Int64)) / (2 : Int64)).toInt32 / 32) / (S_43 0 0) * (S_43 0 0))).bind (fun r14 => (fX5_year_L43 v1_43 v2_43 v3_43 n_43 (v4_43 + 1) r14)))) else (fX5_addsDead S_43 ((((((((7919 : Int64) * v1_43.toInt64) + ((6151 : Int64) * v4_43.toInt64)) + (1 : Int64)) * ((((7919 : Int64) * v1_43.toInt64) + ((6151 : Int64) * v4_43.toInt64)) + (1 : Int64))) - (((((7919 : Int64) * v1_43.toInt64) + ((6151 : Int64) * v4_43.toInt64)) + (1 : Int64)) * ((((7919 : Int64) * v1_43.toInt64) + ((6151 : Int64) * v4_43.toInt64)) + (1 : Int64))) / (65521 : Int64) * (65521 : Int64)) / (2 : Int64)).toInt32 - (((((((7919 : Int64) * v1_43.toInt64) + ((6151 : Int64) * v4_43.toInt64)) + (1 : Int64)) * ((((7919 : Int64) * v1_43.toInt64) + ((6151 : Int64) * v4_43.toInt64)) + (1 : Int64))) - (((((7919 : Int64) * v1_43.toInt64) + ((6151 : Int64) * v4_43.toInt64)) + (1 : Int64)) * ((((7919 : Int64) * v1_43.toInt64) + ((6151 : Int64) * v4_43.toInt64)) + (1 : Int64))) / (65521 : Int64) * (65521 : Int64)) / (2 : Int64)).toInt32 / 2 * 2) (((((((((7919 : Int64) * v1_43.toInt64) + ((6151 : Int64) * v4_43.toInt64)) + (1 : Int64)) * ((((7919 : Int64) * v1_43.toInt64) + ((6151 : Int64) * v4_43.toInt64)) + (1 : Int64))) - (((((7919 : Int64) * v1_43.toInt64) + ((6151 : Int64) * v4_43.toInt64)) + (1 : Int64)) * ((((7919 : Int64) * v1_43.toInt64) + ((6151 : Int64) * v4_43.toInt64)) + (1 : Int64))) / (65521 : Int64) * (65521 : Int64)) / (2 : Int64)).toInt32 / 2) - ((((((((7919 : Int64) * v1_43.toInt64) + ((6151 : Int64) * v4_43.toInt64)) + (1 : Int64)) * ((((7919 : Int64) * v1_43.toInt64) + ((6151 : Int64) * v4_43.toInt64)) + (1 : Int64))) - (((((7919 : Int64) * v1_43.toInt64) + ((6151 : Int64) * v4_43.toInt64)) + (1 : Int64)) * ((((7919 : Int64) * v1_43.toInt64) + ((6151 : Int64) * v4_43.toInt64)) + (1 : Int64))) / (65521 : Int64) * (65521 : Int64)) / (2 : Int64)).toInt32 / 2) / 4 * 4) (((((((((7919 : Int64) * v1_43.toInt64) + ((6151 : Int64) * v4_43.toInt64)) + (1 : Int64)) * ((((7919 : Int64) * v1_43.toInt64) + ((6151 : Int64) * v4_43.toInt64)) + (1 : Int64))) - (((((7919 : Int64) * v1_43.toInt64) + ((6151 : Int64) * v4_43.toInt64)) + (1 : Int64)) * ((((7919 : Int64) * v1_43.toInt64) + ((6151 : Int64) * v4_43.toInt64)) + (1 : Int64))) / (65521 : Int64) * (65521 : Int64)) / (2 : Int64)).toInt32 / 8) - ((((((((7919 : Int64) * v1_43.toInt64) + ((6151 : Int64) * v4_43.toInt64)) + (1 : Int64)) * ((((7919 : Int64) * v1_43.toInt64) + ((6151 : Int64) * v4_43.toInt64)) + (1 : Int64))) - (((((7919 : Int64) * v1_43.toInt64) + ((6151 : Int64) * v4_43.toInt64)) + (1 : Int64)) * ((((7919 : Int64) * v1_43.toInt64) + ((6151 : Int64) * v4_43.toInt64)) + (1 : Int64))) / (65521 : Int64) * (65521 : Int64)) / (2 : Int64)).toInt32 / 8) / 10 * 10)).bind (fun r16 => ((fX5_buries r16 ((r16 8 (0 : Int32).toNatClampNeg) - 1)).bind (fun r18 => (gB (nz (r18.2 0 0)) (gB (nz (r18.2 0 0)) ((fX5_changes r18.2 8 (((((((((7919 : Int64) * v1_43.toInt64) + ((6151 : Int64) * v4_43.toInt64)) + (1 : Int64)) * ((((7919 : Int64) * v1_43.toInt64) + ((6151 : Int64) * v4_43.toInt64)) + (1 : Int64))) - (((((7919 : Int64) * v1_43.toInt64) + ((6151 : Int64) * v4_43.toInt64)) + (1 : Int64)) * ((((7919 : Int64) * v1_43.toInt64) + ((6151 : Int64) * v4_43.toInt64)) + (1 : Int64))) / (65521 : Int64) * (65521 : Int64)) / (2 : Int64)).toInt32 / 64) - ((((((((7919 : Int64) * v1_43.toInt64) + ((6151 : Int64) * v4_43.toInt64)) + (1 : Int64)) * ((((7919 : Int64) * v1_43.toInt64) + ((6151 : Int64) * v4_43.toInt64)) + (1 : Int64))) - (((((7919 : Int64) * v1_43.toInt64) + ((6151 : Int64) * v4_43.toInt64)) + (1 : Int64)) * ((((7919 : Int64) * v1_43.toInt64) + ((6151 : Int64) * v4_43.toInt64)) + (1 : Int64))) / (65521 : Int64) * (65521 : Int64)) / (2 : Int64)).toInt32 / 64) / 2 * 2) (((((((((7919 : Int64) * v1_43.toInt64) + ((6151 : Int64) * v4_43.toInt64)) + (1 : Int64)) * ((((7919 : Int64) * v1_43.toInt64) + ((6151 : Int64) * v4_43.toInt64)) + (1 : Int64))) - (((((7919 : Int64) * v1_43.toInt64) + ((6151 : Int64) * v4_43.toInt64)) + (1 : Int64)) * ((((7919 : Int64) * v1_43.toInt64) + ((6151 : Int64) * v4_43.toInt64)) + (1 : Int64))) / (65521 : Int64) * (65521 : Int64)) / (2 : Int64)).toInt32 / 16) - ((((((((7919 : Int64) * v1_43.toInt64) + ((6151 : Int64) * v4_43.toInt64)) + (1 : Int64)) * ((((7919 : Int64) * v1_43.toInt64) + ((6151 : Int64) * v4_43.toInt64)) + (1 : Int64))) - (((((7919 : Int64) * v1_43.toInt64) + ((6151 : Int64) * v4_43.toInt64)) + (1 : Int64)) * ((((7919 : Int64) * v1_43.toInt64) + ((6151 : Int64) * v4_43.toInt64)) + (1 : Int64))) / (65521 : Int64) * (65521 : Int64)) / (2 : Int64)).toInt32 / 16) / (r18.2 0 0) * (r18.2 0 0)) (((((((((7919 : Int64) * v1_43.toInt64) + ((6151 : Int64) * v4_43.toInt64)) + (1 : Int64)) * ((((7919 : Int64) * v1_43.toInt64) + ((6151 : Int64) * v4_43.toInt64)) + (1 : Int64))) - (((((7919 : Int64) * v1_43.toInt64) + ((6151 : Int64) * v4_43.toInt64)) + (1 : Int64)) * ((((7919 : Int64) * v1_43.toInt64) + ((6151 : Int64) * v4_43.toInt64)) + (1 : Int64))) / (65521 : Int64) * (65521 : Int64)) / (2 : Int64)).toInt32 / 32) - ((((((((7919 : Int64) * v1_43.toInt64) + ((6151 : Int64) * v4_43.toInt64)) + (1 : Int64)) * ((((7919 : Int64) * v1_43.toInt64) + ((6151 : Int64) * v4_43.toInt64)) + (1 : Int64))) - (((((7919 : Int64) * v1_43.toInt64) + ((6151 : Int64) * v4_43.toInt64)) + (1 : Int64)) * ((((7919 : Int64) * v1_43.toInt64) + ((6151 : Int64) * v4_43.toInt64)) + (1 : Int64))) / (65521 : Int64) * (65521 : Int64)) / (2 : Int64)).toInt32 / 32) / (r18.2 0 0) * (r18.2 0 0))).bind (fun r22 => (fX5_year_L43 v1_43 v2_43 v3_43 n_43 (v4_43 + 1) r22))))))))
def fX5_year (S : OS) (a1 : Int32) (a2 : Int32) (a3 : Int32) : Option (Int32 × OS) := (fX5_in a1 0 9999).bind (fun r24 => (if r24 = 0 then some ((-1), S) else (fX5_in a2 1 30).bind (fun r26 => (if r26 = 0 then some ((-1), S) else (fX5_in a3 0 1).bind (fun r28 => (if r28 = 0 then some ((-1), S) else (fX5_from S 1).bind (fun r30 => (fX5_year_L43 a1 a2 a3 FU 0 r30))))))))
abbrev rmX5_year : Room := { frames := 4, cells := 0, slots := 0, locals := 96 }
set_option maxHeartbeats 4000000 in
set_option maxRecDepth 100000 in
theorem c_X5_year (l : Launch) (E : En) (am : Nat → Nat) (S : OS) (a1 : Int32) (a2 : Int32) (a3 : Int32) (r : Int32 × OS) (h : fX5_year S a1 a2 a3 = some r) : Met l yX5_year (kX5_year :: BIG) rmX5_year (Pk E [.ref (am 0), .int a1, .int a2, .int a3] (MW E am S)) (QW (some (.int r.1)) (AM am) (MW E am r.2)) 0 0 (AM am) := by
  refine Mb (by decide) (Nat.le_of_ble_eq_true rfl) ?_
  intro p e s m below meth c ls hx hb hr hlk hB hown hml _ hK hw hl
  have hS : va_S (AM am) s.heap s.heap [] := va_S.rf
  have hl : lv_has ls 8 [(0, .ref (am 0)), (1, .int a1), (2, .int a2), (3, .int a3)] := hl
  rw [fX5_year] at h
  have hL43 : ∀ (n_43 : Nat) (v1_43 : Int32) (v2_43 : Int32) (v3_43 : Int32) (v4_43 : Int32) (S_43 : OS) (H_43 : Heap) (L_43 : List Loc) (ls_43 : Array Slot), lv_has ls_43 8 [(0, .ref (am 0)), (1, .int v1_43), (2, .int v2_43), (3, .int v3_43), (4, .int v4_43)] → MW E am S_43 H_43 → va_S (AM am) s.heap H_43 L_43 → fX5_year_L43 v1_43 v2_43 v3_43 n_43 v4_43 S_43 = some r → W p l e rmX5_year s m ([.ref (am 0), .int a1, .int a2, .int a3] : List Value).toArray below meth c H_43 L_43 0 0 (MQ below (QW (some (.int r.1)) (AM am) (MW E am r.2)) ([.ref (am 0), .int a1, .int a2, .int a3] : List Value).toArray s 0 0 (AM am)) (F0 m 43 ls_43 []) := by
    intro n_43
    induction n_43 with
    | zero =>
      intro v1_43 v2_43 v3_43 v4_43 S_43 H_43 L_43 ls_43 hl hw hS h
      exact nn h
    | succ n_43 ih_43 =>
      intro v1_43 v2_43 v3_43 v4_43 S_43 H_43 L_43 ls_43 hl hw hS h
      rw [fX5_year_L43] at h
      refine lv_iload hx hb dX5_year_43 (lv_at hl 4 rfl) ?_
      refine lv_iload_n hx hb dX5_year_45 rfl (lv_at hl 2 rfl) ?_
      refine lv_icmp_ge (tgt := 169) hx hb dX5_year_46 (by decide) (fun g1 => ?_) (fun g1 => ?_)
      · rw [if_pos g1] at h
        refine lv_iload_n hx hb dX5_year_169 rfl (lv_at hl 3 rfl) ?_
        refine lv_if_ne (tgt := 193) hx hb dX5_year_170 (by decide) (fun g2 => ?_) (fun g2 => ?_)
        · rw [if_neg g2] at h
          refine lv_aload_n hx hb dX5_year_193 rfl (lv_at hl 0 rfl) ?_
          refine gX5_34 hx hb hB hown hK hw dX5_year_194 ?_
          refine lv_iconst (v := 0) hx hb dX5_year_197 (by decide) ?_
          refine lv_aload_n hx hb dX5_year_198 rfl (lv_at hl 0 rfl) ?_
          refine gX5_31 hx hb hB hown hK hw dX5_year_199 ?_
          refine lv_bipush (v := 66) hx hb dX5_year_202 (by decide) ?_
          obtain ⟨r3, e3, h⟩ := ob h
          refine k_SWv ⟨hx, hb, hml, hown, hB⟩ (c_X5_put l E am S_43 9 0 8 66 (by decide) (by decide) (by decide) (by decide) r3 e3) (clX5_121 hB rfl rfl ⟨Nat.le_of_ble_eq_true rfl, Nat.le_of_ble_eq_true rfl⟩) hK hw rfl hl.1 rfl (Nat.le_of_ble_eq_true rfl) dX5_year_204 ⟨Nat.zero_le _, Nat.zero_le _⟩ hS (fun _ z => z) (fun H4 L4 hw _ _ hS => ?_)
          refine lv_aload_n hx hb dX5_year_207 rfl (lv_at hl 0 rfl) ?_
          obtain ⟨r5, e5, h⟩ := ob h
          refine k_VWv ⟨hx, hb, hml, hown, hB⟩ (c_X5_anew l E am r3 r5 e5) (clX5_125 hB rfl rfl ⟨Nat.le_of_ble_eq_true rfl, Nat.le_of_ble_eq_true rfl⟩) hK hw (rvM hK hw) rfl hl.1 rfl (Nat.le_of_ble_eq_true rfl) dX5_year_208 ⟨Nat.zero_le _, Nat.zero_le _⟩ hS (fun _ z => z) (fun H6 L6 hw _ _ hS => ?_)
          refine lv_aload_n hx hb dX5_year_211 rfl (lv_at hl 0 rfl) ?_
          obtain ⟨r7, e7, h⟩ := ob h
          refine k_VR ⟨hx, hb, hml, hown, hB⟩ (c_X5_movedBits l E am r5 r7 e7) (clX5_188 hB rfl rfl ⟨Nat.le_of_ble_eq_true rfl, Nat.le_of_ble_eq_true rfl⟩) hK hw (rvM hK hw) rfl hl.1 rfl (Nat.le_of_ble_eq_true rfl) dX5_year_212 ⟨Nat.zero_le _, Nat.zero_le _⟩ ?_
          obtain ⟨r8, e8, h⟩ := ob h
          refine k_SR ⟨hx, hb, hml, hown, hB⟩ (c_X5_bits l E r7 r8 e8) (clX5_227 hB rfl rfl ⟨Nat.le_of_ble_eq_true rfl, Nat.le_of_ble_eq_true rfl⟩) hK trivial rfl hl.1 rfl (Nat.le_of_ble_eq_true rfl) dX5_year_215 ⟨Nat.zero_le _, Nat.zero_le _⟩ ?_
          cases h
          exact e_zW hx hb hr hlk rfl rfl hw hS dX5_year_218
        · rw [if_pos g2] at h
          refine lv_aload_n hx hb dX5_year_173 rfl (lv_at hl 0 rfl) ?_
          refine lv_aload_n hx hb dX5_year_174 rfl (lv_at hl 0 rfl) ?_
          refine gX5_31 hx hb hB hown hK hw dX5_year_175 ?_
          refine lv_iconst (v := 0) hx hb dX5_year_178 (by decide) ?_
          obtain ⟨r9, e9, h⟩ := ob h
          refine k_VR ⟨hx, hb, hml, hown, hB⟩ (c_X5_owedOn l E am S_43 8 0 (by decide) (by decide) r9 e9) (clX5_230 hB rfl rfl ⟨Nat.le_of_ble_eq_true rfl, Nat.le_of_ble_eq_true rfl⟩) hK hw (rvM hK hw) rfl hl.1 rfl (Nat.le_of_ble_eq_true rfl) dX5_year_179 ⟨Nat.zero_le _, Nat.zero_le _⟩ ?_
          refine lv_aload_n hx hb dX5_year_182 rfl (lv_at hl 0 rfl) ?_
          refine lv_aload_n hx hb dX5_year_183 rfl (lv_at hl 0 rfl) ?_
          refine gX5_31 hx hb hB hown hK hw dX5_year_184 ?_
          refine lv_iconst (v := 1) hx hb dX5_year_187 (by decide) ?_
          obtain ⟨r10, e10, h⟩ := ob h
          refine k_VR ⟨hx, hb, hml, hown, hB⟩ (c_X5_owedOn l E am S_43 8 1 (by decide) (by decide) r10 e10) (clX5_230 hB rfl rfl ⟨Nat.le_of_ble_eq_true rfl, Nat.le_of_ble_eq_true rfl⟩) hK hw (rvM hK hw) rfl hl.1 rfl (Nat.le_of_ble_eq_true rfl) dX5_year_188 ⟨Nat.zero_le _, Nat.zero_le _⟩ ?_
          refine lv_iadd hx hb dX5_year_191 ?_
          cases h
          exact e_zW hx hb hr hlk rfl rfl hw hS dX5_year_192
      · rw [if_neg g1] at h
        refine lv_ldc2 hx hb hown (hB _ kcX5_236) dX5_year_49 ?_
        refine lv_iload_n hx hb dX5_year_52 rfl (lv_at hl 1 rfl) ?_
        refine lv_i2l hx hb dX5_year_53 rfl ?_
        refine lv_lmul hx hb dX5_year_54 ?_
        refine lv_ldc2 hx hb hown (hB _ kcX5_238) dX5_year_55 ?_
        refine lv_iload hx hb dX5_year_58 (lv_at hl 4 rfl) ?_
        refine lv_i2l hx hb dX5_year_60 rfl ?_
        refine lv_lmul hx hb dX5_year_61 ?_
        refine lv_ladd hx hb dX5_year_62 ?_
        refine lv_lconst (v := 1) hx hb dX5_year_63 (by decide) ?_
        refine lv_ladd hx hb dX5_year_64 ?_
        refine lv_lstore (lv' := [(5, .long ((((7919 : Int64) * v1_43.toInt64) + ((6151 : Int64) * v4_43.toInt64)) + (1 : Int64))), (0, .ref (am 0)), (1, .int v1_43), (2, .int v2_43), (3, .int v3_43), (4, .int v4_43)]) hx hb dX5_year_65 hl (by decide) rfl (fun ls hl => ?_)
        refine lv_lload hx hb dX5_year_67 (lv_at hl 0 rfl) ?_
        refine lv_lload hx hb dX5_year_69 (lv_at hl 0 rfl) ?_
        refine lv_lmul hx hb dX5_year_71 ?_
        refine lv_ldc2 hx hb hown (hB _ kcX5_240) dX5_year_72 ?_
        refine lv_lrem hx hb dX5_year_75 (by decide) ?_
        refine lv_ldc2 hx hb hown (hB _ kcX5_242) dX5_year_76 ?_
        refine lv_ldiv hx hb dX5_year_79 (by decide) ?_
        refine lv_l2i hx hb dX5_year_80 rfl ?_
        refine lv_istore (lv' := [(7, .int ((((((((7919 : Int64) * v1_43.toInt64) + ((6151 : Int64) * v4_43.toInt64)) + (1 : Int64)) * ((((7919 : Int64) * v1_43.toInt64) + ((6151 : Int64) * v4_43.toInt64)) + (1 : Int64))) - (((((7919 : Int64) * v1_43.toInt64) + ((6151 : Int64) * v4_43.toInt64)) + (1 : Int64)) * ((((7919 : Int64) * v1_43.toInt64) + ((6151 : Int64) * v4_43.toInt64)) + (1 : Int64))) / (65521 : Int64) * (65521 : Int64)) / (2 : Int64)).toInt32)), (5, .long ((((7919 : Int64) * v1_43.toInt64) + ((6151 : Int64) * v4_43.toInt64)) + (1 : Int64))), (0, .ref (am 0)), (1, .int v1_43), (2, .int v2_43), (3, .int v3_43), (4, .int v4_43)]) hx hb dX5_year_81 hl (by decide) rfl (fun ls hl => ?_)
        refine lv_aload_n hx hb dX5_year_83 rfl (lv_at hl 2 rfl) ?_
        refine gX5_31 hx hb hB hown hK hw dX5_year_84 ?_
        refine lv_iconst (v := 0) hx hb dX5_year_87 (by decide) ?_
        refine lM hx hb hK hw (by decide) (by decide) (ib_ok (by decide)) dX5_year_88 ?_
        refine lv_bipush (v := 12) hx hb dX5_year_89 (by decide) ?_
        refine lv_icmp_ge (tgt := 129) hx hb dX5_year_91 (by decide) (fun g11 => ?_) (fun g11 => ?_)
        · rw [if_pos g11] at h
          refine lv_aload_n hx hb dX5_year_129 rfl (lv_at hl 2 rfl) ?_
          refine gX5_31 hx hb hB hown hK hw dX5_year_130 ?_
          refine lv_iload hx hb dX5_year_133 (lv_at hl 0 rfl) ?_
          refine lv_bipush (v := 64) hx hb dX5_year_135 (by decide) ?_
          refine lv_idiv hx hb dX5_year_137 (by decide) ?_
          refine lv_iconst (v := 2) hx hb dX5_year_138 (by decide) ?_
          refine lv_irem hx hb dX5_year_139 (by decide) ?_
          refine lv_iload hx hb dX5_year_140 (lv_at hl 0 rfl) ?_
          refine lv_bipush (v := 16) hx hb dX5_year_142 (by decide) ?_
          refine lv_idiv hx hb dX5_year_144 (by decide) ?_
          refine lv_aload_n hx hb dX5_year_145 rfl (lv_at hl 2 rfl) ?_
          refine gX5_71 hx hb hB hown hK hw dX5_year_146 ?_
          obtain ⟨g12, h⟩ := gB_ok h
          refine lv_irem hx hb dX5_year_149 (nz_ok g12) ?_
          refine lv_iload hx hb dX5_year_150 (lv_at hl 0 rfl) ?_
          refine lv_bipush (v := 32) hx hb dX5_year_152 (by decide) ?_
          refine lv_idiv hx hb dX5_year_154 (by decide) ?_
          refine lv_aload_n hx hb dX5_year_155 rfl (lv_at hl 2 rfl) ?_
          refine gX5_71 hx hb hB hown hK hw dX5_year_156 ?_
          obtain ⟨g13, h⟩ := gB_ok h
          refine lv_irem hx hb dX5_year_159 (nz_ok g13) ?_
          obtain ⟨r14, e14, h⟩ := ob h
          refine k_SWv ⟨hx, hb, hml, hown, hB⟩ (c_X5_changes l E am S_43 8 (((((((((7919 : Int64) * v1_43.toInt64) + ((6151 : Int64) * v4_43.toInt64)) + (1 : Int64)) * ((((7919 : Int64) * v1_43.toInt64) + ((6151 : Int64) * v4_43.toInt64)) + (1 : Int64))) - (((((7919 : Int64) * v1_43.toInt64) + ((6151 : Int64) * v4_43.toInt64)) + (1 : Int64)) * ((((7919 : Int64) * v1_43.toInt64) + ((6151 : Int64) * v4_43.toInt64)) + (1 : Int64))) / (65521 : Int64) * (65521 : Int64)) / (2 : Int64)).toInt32 / 64) - ((((((((7919 : Int64) * v1_43.toInt64) + ((6151 : Int64) * v4_43.toInt64)) + (1 : Int64)) * ((((7919 : Int64) * v1_43.toInt64) + ((6151 : Int64) * v4_43.toInt64)) + (1 : Int64))) - (((((7919 : Int64) * v1_43.toInt64) + ((6151 : Int64) * v4_43.toInt64)) + (1 : Int64)) * ((((7919 : Int64) * v1_43.toInt64) + ((6151 : Int64) * v4_43.toInt64)) + (1 : Int64))) / (65521 : Int64) * (65521 : Int64)) / (2 : Int64)).toInt32 / 64) / 2 * 2) (((((((((7919 : Int64) * v1_43.toInt64) + ((6151 : Int64) * v4_43.toInt64)) + (1 : Int64)) * ((((7919 : Int64) * v1_43.toInt64) + ((6151 : Int64) * v4_43.toInt64)) + (1 : Int64))) - (((((7919 : Int64) * v1_43.toInt64) + ((6151 : Int64) * v4_43.toInt64)) + (1 : Int64)) * ((((7919 : Int64) * v1_43.toInt64) + ((6151 : Int64) * v4_43.toInt64)) + (1 : Int64))) / (65521 : Int64) * (65521 : Int64)) / (2 : Int64)).toInt32 / 16) - ((((((((7919 : Int64) * v1_43.toInt64) + ((6151 : Int64) * v4_43.toInt64)) + (1 : Int64)) * ((((7919 : Int64) * v1_43.toInt64) + ((6151 : Int64) * v4_43.toInt64)) + (1 : Int64))) - (((((7919 : Int64) * v1_43.toInt64) + ((6151 : Int64) * v4_43.toInt64)) + (1 : Int64)) * ((((7919 : Int64) * v1_43.toInt64) + ((6151 : Int64) * v4_43.toInt64)) + (1 : Int64))) / (65521 : Int64) * (65521 : Int64)) / (2 : Int64)).toInt32 / 16) / (S_43 0 0) * (S_43 0 0)) (((((((((7919 : Int64) * v1_43.toInt64) + ((6151 : Int64) * v4_43.toInt64)) + (1 : Int64)) * ((((7919 : Int64) * v1_43.toInt64) + ((6151 : Int64) * v4_43.toInt64)) + (1 : Int64))) - (((((7919 : Int64) * v1_43.toInt64) + ((6151 : Int64) * v4_43.toInt64)) + (1 : Int64)) * ((((7919 : Int64) * v1_43.toInt64) + ((6151 : Int64) * v4_43.toInt64)) + (1 : Int64))) / (65521 : Int64) * (65521 : Int64)) / (2 : Int64)).toInt32 / 32) - ((((((((7919 : Int64) * v1_43.toInt64) + ((6151 : Int64) * v4_43.toInt64)) + (1 : Int64)) * ((((7919 : Int64) * v1_43.toInt64) + ((6151 : Int64) * v4_43.toInt64)) + (1 : Int64))) - (((((7919 : Int64) * v1_43.toInt64) + ((6151 : Int64) * v4_43.toInt64)) + (1 : Int64)) * ((((7919 : Int64) * v1_43.toInt64) + ((6151 : Int64) * v4_43.toInt64)) + (1 : Int64))) / (65521 : Int64) * (65521 : Int64)) / (2 : Int64)).toInt32 / 32) / (S_43 0 0) * (S_43 0 0)) (by decide) (by decide) r14 e14) (clX5_177 hB rfl rfl ⟨Nat.le_of_ble_eq_true rfl, Nat.le_of_ble_eq_true rfl⟩) hK hw rfl hl.1 rfl (Nat.le_of_ble_eq_true rfl) dX5_year_160 ⟨Nat.zero_le _, Nat.zero_le _⟩ hS (fun _ z => z) (fun H15 L15 hw _ _ hS => ?_)
          refine lv_iinc (v := (v4_43 + 1)) (lv' := [(4, .int (v4_43 + 1)), (7, .int ((((((((7919 : Int64) * v1_43.toInt64) + ((6151 : Int64) * v4_43.toInt64)) + (1 : Int64)) * ((((7919 : Int64) * v1_43.toInt64) + ((6151 : Int64) * v4_43.toInt64)) + (1 : Int64))) - (((((7919 : Int64) * v1_43.toInt64) + ((6151 : Int64) * v4_43.toInt64)) + (1 : Int64)) * ((((7919 : Int64) * v1_43.toInt64) + ((6151 : Int64) * v4_43.toInt64)) + (1 : Int64))) / (65521 : Int64) * (65521 : Int64)) / (2 : Int64)).toInt32)), (5, .long ((((7919 : Int64) * v1_43.toInt64) + ((6151 : Int64) * v4_43.toInt64)) + (1 : Int64))), (0, .ref (am 0)), (1, .int v1_43), (2, .int v2_43), (3, .int v3_43)]) hx hb dX5_year_163 hl (k := 6) rfl rfl (by decide) rfl (fun ls hl => ?_)
          refine lv_goto (tgt := 43) hx hb dX5_year_166 (by decide) ?_
          exact ih_43 v1_43 v2_43 v3_43 (v4_43 + 1) r14 _ _ _ (lv_sub hl [3, 4, 5, 6, 0] rfl) hw hS h
        · rw [if_neg g11] at h
          refine lv_aload_n hx hb dX5_year_94 rfl (lv_at hl 2 rfl) ?_
          refine lv_iload hx hb dX5_year_95 (lv_at hl 0 rfl) ?_
          refine lv_iconst (v := 2) hx hb dX5_year_97 (by decide) ?_
          refine lv_irem hx hb dX5_year_98 (by decide) ?_
          refine lv_iload hx hb dX5_year_99 (lv_at hl 0 rfl) ?_
          refine lv_iconst (v := 2) hx hb dX5_year_101 (by decide) ?_
          refine lv_idiv hx hb dX5_year_102 (by decide) ?_
          refine lv_iconst (v := 4) hx hb dX5_year_103 (by decide) ?_
          refine lv_irem hx hb dX5_year_104 (by decide) ?_
          refine lv_iload hx hb dX5_year_105 (lv_at hl 0 rfl) ?_
          refine lv_bipush (v := 8) hx hb dX5_year_107 (by decide) ?_
          refine lv_idiv hx hb dX5_year_109 (by decide) ?_
          refine lv_bipush (v := 10) hx hb dX5_year_110 (by decide) ?_
          refine lv_irem hx hb dX5_year_112 (by decide) ?_
          obtain ⟨r16, e16, h⟩ := ob h
          refine k_VWv ⟨hx, hb, hml, hown, hB⟩ (c_X5_addsDead l E am S_43 ((((((((7919 : Int64) * v1_43.toInt64) + ((6151 : Int64) * v4_43.toInt64)) + (1 : Int64)) * ((((7919 : Int64) * v1_43.toInt64) + ((6151 : Int64) * v4_43.toInt64)) + (1 : Int64))) - (((((7919 : Int64) * v1_43.toInt64) + ((6151 : Int64) * v4_43.toInt64)) + (1 : Int64)) * ((((7919 : Int64) * v1_43.toInt64) + ((6151 : Int64) * v4_43.toInt64)) + (1 : Int64))) / (65521 : Int64) * (65521 : Int64)) / (2 : Int64)).toInt32 - (((((((7919 : Int64) * v1_43.toInt64) + ((6151 : Int64) * v4_43.toInt64)) + (1 : Int64)) * ((((7919 : Int64) * v1_43.toInt64) + ((6151 : Int64) * v4_43.toInt64)) + (1 : Int64))) - (((((7919 : Int64) * v1_43.toInt64) + ((6151 : Int64) * v4_43.toInt64)) + (1 : Int64)) * ((((7919 : Int64) * v1_43.toInt64) + ((6151 : Int64) * v4_43.toInt64)) + (1 : Int64))) / (65521 : Int64) * (65521 : Int64)) / (2 : Int64)).toInt32 / 2 * 2) (((((((((7919 : Int64) * v1_43.toInt64) + ((6151 : Int64) * v4_43.toInt64)) + (1 : Int64)) * ((((7919 : Int64) * v1_43.toInt64) + ((6151 : Int64) * v4_43.toInt64)) + (1 : Int64))) - (((((7919 : Int64) * v1_43.toInt64) + ((6151 : Int64) * v4_43.toInt64)) + (1 : Int64)) * ((((7919 : Int64) * v1_43.toInt64) + ((6151 : Int64) * v4_43.toInt64)) + (1 : Int64))) / (65521 : Int64) * (65521 : Int64)) / (2 : Int64)).toInt32 / 2) - ((((((((7919 : Int64) * v1_43.toInt64) + ((6151 : Int64) * v4_43.toInt64)) + (1 : Int64)) * ((((7919 : Int64) * v1_43.toInt64) + ((6151 : Int64) * v4_43.toInt64)) + (1 : Int64))) - (((((7919 : Int64) * v1_43.toInt64) + ((6151 : Int64) * v4_43.toInt64)) + (1 : Int64)) * ((((7919 : Int64) * v1_43.toInt64) + ((6151 : Int64) * v4_43.toInt64)) + (1 : Int64))) / (65521 : Int64) * (65521 : Int64)) / (2 : Int64)).toInt32 / 2) / 4 * 4) (((((((((7919 : Int64) * v1_43.toInt64) + ((6151 : Int64) * v4_43.toInt64)) + (1 : Int64)) * ((((7919 : Int64) * v1_43.toInt64) + ((6151 : Int64) * v4_43.toInt64)) + (1 : Int64))) - (((((7919 : Int64) * v1_43.toInt64) + ((6151 : Int64) * v4_43.toInt64)) + (1 : Int64)) * ((((7919 : Int64) * v1_43.toInt64) + ((6151 : Int64) * v4_43.toInt64)) + (1 : Int64))) / (65521 : Int64) * (65521 : Int64)) / (2 : Int64)).toInt32 / 8) - ((((((((7919 : Int64) * v1_43.toInt64) + ((6151 : Int64) * v4_43.toInt64)) + (1 : Int64)) * ((((7919 : Int64) * v1_43.toInt64) + ((6151 : Int64) * v4_43.toInt64)) + (1 : Int64))) - (((((7919 : Int64) * v1_43.toInt64) + ((6151 : Int64) * v4_43.toInt64)) + (1 : Int64)) * ((((7919 : Int64) * v1_43.toInt64) + ((6151 : Int64) * v4_43.toInt64)) + (1 : Int64))) / (65521 : Int64) * (65521 : Int64)) / (2 : Int64)).toInt32 / 8) / 10 * 10) r16 e16) (clX5_174 hB rfl rfl ⟨Nat.le_of_ble_eq_true rfl, Nat.le_of_ble_eq_true rfl⟩) hK hw (rvM hK hw) rfl hl.1 rfl (Nat.le_of_ble_eq_true rfl) dX5_year_113 ⟨Nat.zero_le _, Nat.zero_le _⟩ hS (fun _ z => z) (fun H17 L17 hw _ _ hS => ?_)
          refine lv_aload_n hx hb dX5_year_116 rfl (lv_at hl 2 rfl) ?_
          refine lv_aload_n hx hb dX5_year_117 rfl (lv_at hl 2 rfl) ?_
          refine gX5_31 hx hb hB hown hK hw dX5_year_118 ?_
          refine lv_iconst (v := 0) hx hb dX5_year_121 (by decide) ?_
          refine lM hx hb hK hw (by decide) (by decide) (ib_ok (by decide)) dX5_year_122 ?_
          refine lv_iconst (v := 1) hx hb dX5_year_123 (by decide) ?_
          refine lv_isub hx hb dX5_year_124 ?_
          obtain ⟨r18, e18, h⟩ := ob h
          refine k_VWi ⟨hx, hb, hml, hown, hB⟩ (c_X5_buries l E am r16 ((r16 8 (0 : Int32).toNatClampNeg) - 1) r18 e18) (clX5_144 hB rfl rfl ⟨Nat.le_of_ble_eq_true rfl, Nat.le_of_ble_eq_true rfl⟩) hK hw (rvM hK hw) rfl hl.1 rfl (Nat.le_of_ble_eq_true rfl) dX5_year_125 ⟨Nat.zero_le _, Nat.zero_le _⟩ hS (fun _ z => z) (fun H19 L19 hw _ _ hS => ?_)
          refine lv_pop hx hb dX5_year_128 rfl ?_
          refine lv_aload_n hx hb dX5_year_129 rfl (lv_at hl 2 rfl) ?_
          refine gX5_31 hx hb hB hown hK hw dX5_year_130 ?_
          refine lv_iload hx hb dX5_year_133 (lv_at hl 0 rfl) ?_
          refine lv_bipush (v := 64) hx hb dX5_year_135 (by decide) ?_
          refine lv_idiv hx hb dX5_year_137 (by decide) ?_
          refine lv_iconst (v := 2) hx hb dX5_year_138 (by decide) ?_
          refine lv_irem hx hb dX5_year_139 (by decide) ?_
          refine lv_iload hx hb dX5_year_140 (lv_at hl 0 rfl) ?_
          refine lv_bipush (v := 16) hx hb dX5_year_142 (by decide) ?_
          refine lv_idiv hx hb dX5_year_144 (by decide) ?_
          refine lv_aload_n hx hb dX5_year_145 rfl (lv_at hl 2 rfl) ?_
          refine gX5_71 hx hb hB hown hK hw dX5_year_146 ?_
          obtain ⟨g20, h⟩ := gB_ok h
          refine lv_irem hx hb dX5_year_149 (nz_ok g20) ?_
          refine lv_iload hx hb dX5_year_150 (lv_at hl 0 rfl) ?_
          refine lv_bipush (v := 32) hx hb dX5_year_152 (by decide) ?_
          refine lv_idiv hx hb dX5_year_154 (by decide) ?_
          refine lv_aload_n hx hb dX5_year_155 rfl (lv_at hl 2 rfl) ?_
          refine gX5_71 hx hb hB hown hK hw dX5_year_156 ?_
          obtain ⟨g21, h⟩ := gB_ok h
          refine lv_irem hx hb dX5_year_159 (nz_ok g21) ?_
          obtain ⟨r22, e22, h⟩ := ob h
          refine k_SWv ⟨hx, hb, hml, hown, hB⟩ (c_X5_changes l E am r18.2 8 (((((((((7919 : Int64) * v1_43.toInt64) + ((6151 : Int64) * v4_43.toInt64)) + (1 : Int64)) * ((((7919 : Int64) * v1_43.toInt64) + ((6151 : Int64) * v4_43.toInt64)) + (1 : Int64))) - (((((7919 : Int64) * v1_43.toInt64) + ((6151 : Int64) * v4_43.toInt64)) + (1 : Int64)) * ((((7919 : Int64) * v1_43.toInt64) + ((6151 : Int64) * v4_43.toInt64)) + (1 : Int64))) / (65521 : Int64) * (65521 : Int64)) / (2 : Int64)).toInt32 / 64) - ((((((((7919 : Int64) * v1_43.toInt64) + ((6151 : Int64) * v4_43.toInt64)) + (1 : Int64)) * ((((7919 : Int64) * v1_43.toInt64) + ((6151 : Int64) * v4_43.toInt64)) + (1 : Int64))) - (((((7919 : Int64) * v1_43.toInt64) + ((6151 : Int64) * v4_43.toInt64)) + (1 : Int64)) * ((((7919 : Int64) * v1_43.toInt64) + ((6151 : Int64) * v4_43.toInt64)) + (1 : Int64))) / (65521 : Int64) * (65521 : Int64)) / (2 : Int64)).toInt32 / 64) / 2 * 2) (((((((((7919 : Int64) * v1_43.toInt64) + ((6151 : Int64) * v4_43.toInt64)) + (1 : Int64)) * ((((7919 : Int64) * v1_43.toInt64) + ((6151 : Int64) * v4_43.toInt64)) + (1 : Int64))) - (((((7919 : Int64) * v1_43.toInt64) + ((6151 : Int64) * v4_43.toInt64)) + (1 : Int64)) * ((((7919 : Int64) * v1_43.toInt64) + ((6151 : Int64) * v4_43.toInt64)) + (1 : Int64))) / (65521 : Int64) * (65521 : Int64)) / (2 : Int64)).toInt32 / 16) - ((((((((7919 : Int64) * v1_43.toInt64) + ((6151 : Int64) * v4_43.toInt64)) + (1 : Int64)) * ((((7919 : Int64) * v1_43.toInt64) + ((6151 : Int64) * v4_43.toInt64)) + (1 : Int64))) - (((((7919 : Int64) * v1_43.toInt64) + ((6151 : Int64) * v4_43.toInt64)) + (1 : Int64)) * ((((7919 : Int64) * v1_43.toInt64) + ((6151 : Int64) * v4_43.toInt64)) + (1 : Int64))) / (65521 : Int64) * (65521 : Int64)) / (2 : Int64)).toInt32 / 16) / (r18.2 0 0) * (r18.2 0 0)) (((((((((7919 : Int64) * v1_43.toInt64) + ((6151 : Int64) * v4_43.toInt64)) + (1 : Int64)) * ((((7919 : Int64) * v1_43.toInt64) + ((6151 : Int64) * v4_43.toInt64)) + (1 : Int64))) - (((((7919 : Int64) * v1_43.toInt64) + ((6151 : Int64) * v4_43.toInt64)) + (1 : Int64)) * ((((7919 : Int64) * v1_43.toInt64) + ((6151 : Int64) * v4_43.toInt64)) + (1 : Int64))) / (65521 : Int64) * (65521 : Int64)) / (2 : Int64)).toInt32 / 32) - ((((((((7919 : Int64) * v1_43.toInt64) + ((6151 : Int64) * v4_43.toInt64)) + (1 : Int64)) * ((((7919 : Int64) * v1_43.toInt64) + ((6151 : Int64) * v4_43.toInt64)) + (1 : Int64))) - (((((7919 : Int64) * v1_43.toInt64) + ((6151 : Int64) * v4_43.toInt64)) + (1 : Int64)) * ((((7919 : Int64) * v1_43.toInt64) + ((6151 : Int64) * v4_43.toInt64)) + (1 : Int64))) / (65521 : Int64) * (65521 : Int64)) / (2 : Int64)).toInt32 / 32) / (r18.2 0 0) * (r18.2 0 0)) (by decide) (by decide) r22 e22) (clX5_177 hB rfl rfl ⟨Nat.le_of_ble_eq_true rfl, Nat.le_of_ble_eq_true rfl⟩) hK hw rfl hl.1 rfl (Nat.le_of_ble_eq_true rfl) dX5_year_160 ⟨Nat.zero_le _, Nat.zero_le _⟩ hS (fun _ z => z) (fun H23 L23 hw _ _ hS => ?_)
          refine lv_iinc (v := (v4_43 + 1)) (lv' := [(4, .int (v4_43 + 1)), (7, .int ((((((((7919 : Int64) * v1_43.toInt64) + ((6151 : Int64) * v4_43.toInt64)) + (1 : Int64)) * ((((7919 : Int64) * v1_43.toInt64) + ((6151 : Int64) * v4_43.toInt64)) + (1 : Int64))) - (((((7919 : Int64) * v1_43.toInt64) + ((6151 : Int64) * v4_43.toInt64)) + (1 : Int64)) * ((((7919 : Int64) * v1_43.toInt64) + ((6151 : Int64) * v4_43.toInt64)) + (1 : Int64))) / (65521 : Int64) * (65521 : Int64)) / (2 : Int64)).toInt32)), (5, .long ((((7919 : Int64) * v1_43.toInt64) + ((6151 : Int64) * v4_43.toInt64)) + (1 : Int64))), (0, .ref (am 0)), (1, .int v1_43), (2, .int v2_43), (3, .int v3_43)]) hx hb dX5_year_163 hl (k := 6) rfl rfl (by decide) rfl (fun ls hl => ?_)
          refine lv_goto (tgt := 43) hx hb dX5_year_166 (by decide) ?_
          exact ih_43 v1_43 v2_43 v3_43 (v4_43 + 1) r22 _ _ _ (lv_sub hl [3, 4, 5, 6, 0] rfl) hw hS h
  refine lv_iload_n hx hb dX5_year_0 rfl (lv_at hl 1 rfl) ?_
  refine lv_iconst (v := 0) hx hb dX5_year_1 (by decide) ?_
  refine lv_sipush (v := 9999) hx hb dX5_year_2 (by decide) ?_
  obtain ⟨r24, e24, h⟩ := ob h
  refine k_SR ⟨hx, hb, hml, hown, hB⟩ (c_X5_in l E a1 0 9999 r24 e24) (clX5_67 hB rfl rfl ⟨Nat.le_of_ble_eq_true rfl, Nat.le_of_ble_eq_true rfl⟩) hK trivial rfl hl.1 rfl (Nat.le_of_ble_eq_true rfl) dX5_year_5 ⟨Nat.zero_le _, Nat.zero_le _⟩ ?_
  refine lv_if_eq (tgt := 30) hx hb dX5_year_8 (by decide) (fun g25 => ?_) (fun g25 => ?_)
  · rw [if_pos g25] at h
    refine lv_iconst (v := (-1)) hx hb dX5_year_30 (by decide) ?_
    cases h
    exact e_zW hx hb hr hlk rfl rfl hw hS dX5_year_31
  · rw [if_neg g25] at h
    refine lv_iload_n hx hb dX5_year_11 rfl (lv_at hl 2 rfl) ?_
    refine lv_iconst (v := 1) hx hb dX5_year_12 (by decide) ?_
    refine lv_bipush (v := 30) hx hb dX5_year_13 (by decide) ?_
    obtain ⟨r26, e26, h⟩ := ob h
    refine k_SR ⟨hx, hb, hml, hown, hB⟩ (c_X5_in l E a2 1 30 r26 e26) (clX5_67 hB rfl rfl ⟨Nat.le_of_ble_eq_true rfl, Nat.le_of_ble_eq_true rfl⟩) hK trivial rfl hl.1 rfl (Nat.le_of_ble_eq_true rfl) dX5_year_15 ⟨Nat.zero_le _, Nat.zero_le _⟩ ?_
    refine lv_if_eq (tgt := 30) hx hb dX5_year_18 (by decide) (fun g27 => ?_) (fun g27 => ?_)
    · rw [if_pos g27] at h
      refine lv_iconst (v := (-1)) hx hb dX5_year_30 (by decide) ?_
      cases h
      exact e_zW hx hb hr hlk rfl rfl hw hS dX5_year_31
    · rw [if_neg g27] at h
      refine lv_iload_n hx hb dX5_year_21 rfl (lv_at hl 3 rfl) ?_
      refine lv_iconst (v := 0) hx hb dX5_year_22 (by decide) ?_
      refine lv_iconst (v := 1) hx hb dX5_year_23 (by decide) ?_
      obtain ⟨r28, e28, h⟩ := ob h
      refine k_SR ⟨hx, hb, hml, hown, hB⟩ (c_X5_in l E a3 0 1 r28 e28) (clX5_67 hB rfl rfl ⟨Nat.le_of_ble_eq_true rfl, Nat.le_of_ble_eq_true rfl⟩) hK trivial rfl hl.1 rfl (Nat.le_of_ble_eq_true rfl) dX5_year_24 ⟨Nat.zero_le _, Nat.zero_le _⟩ ?_
      refine lv_if_ne (tgt := 32) hx hb dX5_year_27 (by decide) (fun g29 => ?_) (fun g29 => ?_)
      · rw [if_neg g29] at h
        refine lv_aload_n hx hb dX5_year_32 rfl (lv_at hl 0 rfl) ?_
        refine lv_aload_n hx hb dX5_year_33 rfl (lv_at hl 0 rfl) ?_
        refine gX5_7 hx hb hB hown hK hw dX5_year_34 ?_
        obtain ⟨r30, e30, h⟩ := ob h
        refine k_VWv ⟨hx, hb, hml, hown, hB⟩ (c_X5_from l E am S 1 (by decide) (by decide) r30 e30) (clX5_170 hB rfl rfl ⟨Nat.le_of_ble_eq_true rfl, Nat.le_of_ble_eq_true rfl⟩) hK hw (rvM hK hw) rfl hl.1 rfl (Nat.le_of_ble_eq_true rfl) dX5_year_37 ⟨Nat.zero_le _, Nat.zero_le _⟩ hS (fun _ z => z) (fun H31 L31 hw _ _ hS => ?_)
        refine lv_iconst (v := 0) hx hb dX5_year_40 (by decide) ?_
        refine lv_istore (lv' := [(4, .int 0), (0, .ref (am 0)), (1, .int a1), (2, .int a2), (3, .int a3)]) hx hb dX5_year_41 hl (by decide) rfl (fun ls hl => ?_)
        exact hL43 FU a1 a2 a3 0 r30 _ _ _ (lv_sub hl [1, 2, 3, 4, 0] rfl) hw hS h
      · rw [if_pos g29] at h
        refine lv_iconst (v := (-1)) hx hb dX5_year_30 (by decide) ?_
        cases h
        exact e_zW hx hb hr hlk rfl rfl hw hS dX5_year_31
def fX5_keep (S : OS) : Option (Int32 × OS) := if (S 0 5) = 2 then some ((-3), S) else (fX5_put S 3 (66 * (S 0 5)) 1 66).bind (fun r2 => (some (((u2 r2 0 5 ((r2 0 5) + 1)) 0 5), (u2 r2 0 5 ((r2 0 5) + 1)))))
abbrev rmX5_keep : Room := { frames := 1, cells := 0, slots := 0, locals := 24 }
set_option maxHeartbeats 4000000 in
set_option maxRecDepth 100000 in
theorem c_X5_keep (l : Launch) (E : En) (am : Nat → Nat) (S : OS) (r : Int32 × OS) (h : fX5_keep S = some r) : Met l yX5_keep (kX5_keep :: BIG) rmX5_keep (Pk E [.ref (am 0)] (MW E am S)) (QW (some (.int r.1)) (AM am) (MW E am r.2)) 0 0 (AM am) := by
  refine Mb (by decide) (Nat.le_of_ble_eq_true rfl) ?_
  intro p e s m below meth c ls hx hb hr hlk hB hown hml _ hK hw hl
  have hS : va_S (AM am) s.heap s.heap [] := va_S.rf
  have hl : lv_has ls 1 [(0, .ref (am 0))] := hl
  rw [fX5_keep] at h
  refine lv_aload_n hx hb dX5_keep_0 rfl (lv_at hl 0 rfl) ?_
  refine gX5_131 hx hb hB hown hK hw dX5_keep_1 ?_
  refine lv_iconst (v := 2) hx hb dX5_keep_4 (by decide) ?_
  refine lv_icmp_ne (tgt := 11) hx hb dX5_keep_5 (by decide) (fun g1 => ?_) (fun g1 => ?_)
  · rw [if_neg g1] at h
    refine lv_aload_n hx hb dX5_keep_11 rfl (lv_at hl 0 rfl) ?_
    refine gX5_16 hx hb hB hown hK hw dX5_keep_12 ?_
    refine lv_bipush (v := 66) hx hb dX5_keep_15 (by decide) ?_
    refine lv_aload_n hx hb dX5_keep_17 rfl (lv_at hl 0 rfl) ?_
    refine gX5_131 hx hb hB hown hK hw dX5_keep_18 ?_
    refine lv_imul hx hb dX5_keep_21 ?_
    refine lv_aload_n hx hb dX5_keep_22 rfl (lv_at hl 0 rfl) ?_
    refine gX5_7 hx hb hB hown hK hw dX5_keep_23 ?_
    refine lv_bipush (v := 66) hx hb dX5_keep_26 (by decide) ?_
    obtain ⟨r2, e2, h⟩ := ob h
    refine k_SWv ⟨hx, hb, hml, hown, hB⟩ (c_X5_put l E am S 3 (66 * (S 0 5)) 1 66 (by decide) (by decide) (by decide) (by decide) r2 e2) (clX5_121 hB rfl rfl ⟨Nat.le_of_ble_eq_true rfl, Nat.le_of_ble_eq_true rfl⟩) hK hw rfl hl.1 rfl (Nat.le_of_ble_eq_true rfl) dX5_keep_28 ⟨Nat.zero_le _, Nat.zero_le _⟩ hS (fun _ z => z) (fun H3 L3 hw _ _ hS => ?_)
    refine lv_aload_n hx hb dX5_keep_31 rfl (lv_at hl 0 rfl) ?_
    refine lv_dup hx hb dX5_keep_32 rfl ?_
    refine gX5_131 hx hb hB hown hK hw dX5_keep_33 ?_
    refine lv_iconst (v := 1) hx hb dX5_keep_36 (by decide) ?_
    refine lv_iadd hx hb dX5_keep_37 ?_
    refine pX5_131 hx hb hB hown hK hw hS (fun _ z => z) dX5_keep_38 (fun H4 L4 hw hS => ?_)
    refine lv_aload_n hx hb dX5_keep_41 rfl (lv_at hl 0 rfl) ?_
    refine gX5_131 hx hb hB hown hK hw dX5_keep_42 ?_
    cases h
    exact e_zW hx hb hr hlk rfl rfl hw hS dX5_keep_45
  · rw [if_pos g1] at h
    refine lv_bipush (v := (-3)) hx hb dX5_keep_8 (by decide) ?_
    cases h
    exact e_zW hx hb hr hlk rfl rfl hw hS dX5_keep_10
def fX5_back_L22 : Nat → Int32 → OS → Option (Int32 × OS)
  | 0, _, _ => none
  | n_22 + 1, v1_22, S_22 => if 66 ≤ v1_22 then some (((u2 S_22 0 3 0) 0 5), (u2 S_22 0 3 0)) else gB (ib ((66 * (S_22 0 5)) + v1_22) 132) (gB (ib v1_22 66) (fX5_back_L22 n_22 (v1_22 + 1) (u2 S_22 1 v1_22.toNatClampNeg (S_22 3 ((66 * (S_22 0 5)) + v1_22).toNatClampNeg))))
def fX5_back (S : OS) : Option (Int32 × OS) := if (S 0 5) = 0 then some ((-2), S) else fX5_back_L22 FU 0 (u2 S 0 5 ((S 0 5) - 1))
abbrev rmX5_back : Room := { frames := 0, cells := 0, slots := 0, locals := 0 }
set_option maxHeartbeats 4000000 in
set_option maxRecDepth 100000 in
theorem c_X5_back (l : Launch) (E : En) (am : Nat → Nat) (S : OS) (r : Int32 × OS) (h : fX5_back S = some r) : Met l yX5_back (kX5_back :: BIG) rmX5_back (Pk E [.ref (am 0)] (MW E am S)) (QW (some (.int r.1)) (AM am) (MW E am r.2)) 0 0 (AM am) := by
  refine Mb (by decide) (Nat.le_of_ble_eq_true rfl) ?_
  intro p e s m below meth c ls hx hb hr hlk hB hown hml _ hK hw hl
  have hS : va_S (AM am) s.heap s.heap [] := va_S.rf
  have hl : lv_has ls 2 [(0, .ref (am 0))] := hl
  rw [fX5_back] at h
  have hL22 : ∀ (n_22 : Nat) (v1_22 : Int32) (S_22 : OS) (H_22 : Heap) (L_22 : List Loc) (ls_22 : Array Slot), lv_has ls_22 2 [(0, .ref (am 0)), (1, .int v1_22)] → MW E am S_22 H_22 → va_S (AM am) s.heap H_22 L_22 → fX5_back_L22 n_22 v1_22 S_22 = some r → W p l e rmX5_back s m ([.ref (am 0)] : List Value).toArray below meth c H_22 L_22 0 0 (MQ below (QW (some (.int r.1)) (AM am) (MW E am r.2)) ([.ref (am 0)] : List Value).toArray s 0 0 (AM am)) (F0 m 22 ls_22 []) := by
    intro n_22
    induction n_22 with
    | zero =>
      intro v1_22 S_22 H_22 L_22 ls_22 hl hw hS h
      exact nn h
    | succ n_22 ih_22 =>
      intro v1_22 S_22 H_22 L_22 ls_22 hl hw hS h
      rw [fX5_back_L22] at h
      refine lv_iload_n hx hb dX5_back_22 rfl (lv_at hl 1 rfl) ?_
      refine lv_bipush (v := 66) hx hb dX5_back_23 (by decide) ?_
      refine lv_icmp_ge (tgt := 54) hx hb dX5_back_25 (by decide) (fun g1 => ?_) (fun g1 => ?_)
      · rw [if_pos g1] at h
        refine lv_aload_n hx hb dX5_back_54 rfl (lv_at hl 0 rfl) ?_
        refine lv_iconst (v := 0) hx hb dX5_back_55 (by decide) ?_
        refine pX5_128 hx hb hB hown hK hw hS (fun _ z => z) dX5_back_56 (fun H2 L2 hw hS => ?_)
        refine lv_aload_n hx hb dX5_back_59 rfl (lv_at hl 0 rfl) ?_
        refine gX5_131 hx hb hB hown hK hw dX5_back_60 ?_
        cases h
        exact e_zW hx hb hr hlk rfl rfl hw hS dX5_back_63
      · rw [if_neg g1] at h
        refine lv_aload_n hx hb dX5_back_28 rfl (lv_at hl 0 rfl) ?_
        refine gX5_7 hx hb hB hown hK hw dX5_back_29 ?_
        refine lv_iload_n hx hb dX5_back_32 rfl (lv_at hl 1 rfl) ?_
        refine lv_aload_n hx hb dX5_back_33 rfl (lv_at hl 0 rfl) ?_
        refine gX5_16 hx hb hB hown hK hw dX5_back_34 ?_
        refine lv_bipush (v := 66) hx hb dX5_back_37 (by decide) ?_
        refine lv_aload_n hx hb dX5_back_39 rfl (lv_at hl 0 rfl) ?_
        refine gX5_131 hx hb hB hown hK hw dX5_back_40 ?_
        refine lv_imul hx hb dX5_back_43 ?_
        refine lv_iload_n hx hb dX5_back_44 rfl (lv_at hl 1 rfl) ?_
        refine lv_iadd hx hb dX5_back_45 ?_
        obtain ⟨g3, h⟩ := gB_ok h
        refine lM hx hb hK hw (by decide) (by decide) (ib_ok g3) dX5_back_46 ?_
        obtain ⟨g4, h⟩ := gB_ok h
        refine sM hx hb hK hw hS (fun _ z => z) (by decide) (by decide) (ib_ok g4) dX5_back_47 (fun H5 L5 hw hS => ?_)
        refine lv_iinc (v := (v1_22 + 1)) (lv' := [(1, .int (v1_22 + 1)), (0, .ref (am 0))]) hx hb dX5_back_48 hl (k := 1) rfl rfl (by decide) rfl (fun ls hl => ?_)
        refine lv_goto (tgt := 22) hx hb dX5_back_51 (by decide) ?_
        exact ih_22 (v1_22 + 1) (u2 S_22 1 v1_22.toNatClampNeg (S_22 3 ((66 * (S_22 0 5)) + v1_22).toNatClampNeg)) _ _ _ (lv_sub hl [1, 0] rfl) hw hS h
  refine lv_aload_n hx hb dX5_back_0 rfl (lv_at hl 0 rfl) ?_
  refine gX5_131 hx hb hB hown hK hw dX5_back_1 ?_
  refine lv_if_ne (tgt := 10) hx hb dX5_back_4 (by decide) (fun g6 => ?_) (fun g6 => ?_)
  · rw [if_neg g6] at h
    refine lv_aload_n hx hb dX5_back_10 rfl (lv_at hl 0 rfl) ?_
    refine lv_dup hx hb dX5_back_11 rfl ?_
    refine gX5_131 hx hb hB hown hK hw dX5_back_12 ?_
    refine lv_iconst (v := 1) hx hb dX5_back_15 (by decide) ?_
    refine lv_isub hx hb dX5_back_16 ?_
    refine pX5_131 hx hb hB hown hK hw hS (fun _ z => z) dX5_back_17 (fun H7 L7 hw hS => ?_)
    refine lv_iconst (v := 0) hx hb dX5_back_20 (by decide) ?_
    refine lv_istore_n (lv' := [(1, .int 0), (0, .ref (am 0))]) hx hb dX5_back_21 rfl hl (by decide) rfl (fun ls hl => ?_)
    exact hL22 FU 0 (u2 S 0 5 ((S 0 5) - 1)) _ _ _ (lv_sub hl [1, 0] rfl) hw hS h
  · rw [if_pos g6] at h
    refine lv_bipush (v := (-2)) hx hb dX5_back_7 (by decide) ?_
    cases h
    exact e_zW hx hb hr hlk rfl rfl hw hS dX5_back_9
def fX5_doubles_L5 (S : OS) : Nat → Int32 → Int32 → Option (Int32)
  | 0, _, _ => none
  | n_5 + 1, v1_5, v2_5 => if 53 ≤ v2_5 then some v1_5 else gB (ib v2_5 66) (if (S 1 v2_5.toNatClampNeg) ≤ 20 then fX5_doubles_L5 S n_5 (v1_5 + 0) (v2_5 + 1) else fX5_doubles_L5 S n_5 (v1_5 + 1) (v2_5 + 1))
def fX5_doubles (S : OS) : Option (Int32) := fX5_doubles_L5 S FU 0 37
abbrev rmX5_doubles : Room := { frames := 0, cells := 0, slots := 0, locals := 0 }
set_option maxHeartbeats 4000000 in
set_option maxRecDepth 100000 in
theorem c_X5_doubles (l : Launch) (E : En) (am : Nat → Nat) (S : OS) (r : Int32) (h : fX5_doubles S = some r) : Met l yX5_doubles (kX5_doubles :: BIG) rmX5_doubles (Pk E [.ref (am 0)] (MW E am S)) (QcRead r) 0 0 (fun _ => False) := by
  refine Mb (by decide) (Nat.le_of_ble_eq_true rfl) ?_
  intro p e s m below meth c ls hx hb hr hlk hB hown hml _ hK hw hl
  have hl : lv_has ls 3 [(0, .ref (am 0))] := hl
  rw [fX5_doubles] at h
  have hL5 : ∀ (n_5 : Nat) (v1_5 : Int32) (v2_5 : Int32) (ls_5 : Array Slot), lv_has ls_5 3 [(0, .ref (am 0)), (1, .int v1_5), (2, .int v2_5)] → fX5_doubles_L5 S n_5 v1_5 v2_5 = some r → W p l e rmX5_doubles s m ([.ref (am 0)] : List Value).toArray below meth c s.heap [] 0 0 (MQ below (QcRead r) ([.ref (am 0)] : List Value).toArray s 0 0 (fun _ => False)) (F0 m 5 ls_5 []) := by
    intro n_5
    induction n_5 with
    | zero =>
      intro v1_5 v2_5 ls_5 hl h
      exact nn h
    | succ n_5 ih_5 =>
      intro v1_5 v2_5 ls_5 hl h
      rw [fX5_doubles_L5] at h
      refine lv_iload_n hx hb dX5_doubles_5 rfl (lv_at hl 2 rfl) ?_
      refine lv_bipush (v := 53) hx hb dX5_doubles_6 (by decide) ?_
      refine lv_icmp_ge (tgt := 36) hx hb dX5_doubles_8 (by decide) (fun g1 => ?_) (fun g1 => ?_)
      · rw [if_pos g1] at h
        refine lv_iload_n hx hb dX5_doubles_36 rfl (lv_at hl 1 rfl) ?_
        exact e_zR hx hb hr hlk rfl h dX5_doubles_37
      · rw [if_neg g1] at h
        refine lv_iload_n hx hb dX5_doubles_11 rfl (lv_at hl 1 rfl) ?_
        refine lv_aload_n hx hb dX5_doubles_12 rfl (lv_at hl 0 rfl) ?_
        refine gX5_7 hx hb hB hown hK hw dX5_doubles_13 ?_
        refine lv_iload_n hx hb dX5_doubles_16 rfl (lv_at hl 2 rfl) ?_
        obtain ⟨g2, h⟩ := gB_ok h
        refine lM hx hb hK hw (by decide) (by decide) (ib_ok g2) dX5_doubles_17 ?_
        refine lv_bipush (v := 20) hx hb dX5_doubles_18 (by decide) ?_
        refine lv_icmp_le (tgt := 27) hx hb dX5_doubles_20 (by decide) (fun g3 => ?_) (fun g3 => ?_)
        · rw [if_pos g3] at h
          refine lv_iconst (v := 0) hx hb dX5_doubles_27 (by decide) ?_
          refine lv_iadd hx hb dX5_doubles_28 ?_
          refine lv_istore_n (lv' := [(1, .int (v1_5 + 0)), (0, .ref (am 0)), (2, .int v2_5)]) hx hb dX5_doubles_29 rfl hl (by decide) rfl (fun ls hl => ?_)
          refine lv_iinc (v := (v2_5 + 1)) (lv' := [(2, .int (v2_5 + 1)), (1, .int (v1_5 + 0)), (0, .ref (am 0))]) hx hb dX5_doubles_30 hl (k := 2) rfl rfl (by decide) rfl (fun ls hl => ?_)
          refine lv_goto (tgt := 5) hx hb dX5_doubles_33 (by decide) ?_
          exact ih_5 (v1_5 + 0) (v2_5 + 1) _ (lv_sub hl [2, 1, 0] rfl) h
        · rw [if_neg g3] at h
          refine lv_iconst (v := 1) hx hb dX5_doubles_23 (by decide) ?_
          refine lv_goto (tgt := 28) hx hb dX5_doubles_24 (by decide) ?_
          refine lv_iadd hx hb dX5_doubles_28 ?_
          refine lv_istore_n (lv' := [(1, .int (v1_5 + 1)), (0, .ref (am 0)), (2, .int v2_5)]) hx hb dX5_doubles_29 rfl hl (by decide) rfl (fun ls hl => ?_)
          refine lv_iinc (v := (v2_5 + 1)) (lv' := [(2, .int (v2_5 + 1)), (1, .int (v1_5 + 1)), (0, .ref (am 0))]) hx hb dX5_doubles_30 hl (k := 2) rfl rfl (by decide) rfl (fun ls hl => ?_)
          refine lv_goto (tgt := 5) hx hb dX5_doubles_33 (by decide) ?_
          exact ih_5 (v1_5 + 1) (v2_5 + 1) _ (lv_sub hl [2, 1, 0] rfl) h
  refine lv_iconst (v := 0) hx hb dX5_doubles_0 (by decide) ?_
  refine lv_istore_n (lv' := [(1, .int 0), (0, .ref (am 0))]) hx hb dX5_doubles_1 rfl hl (by decide) rfl (fun ls hl => ?_)
  refine lv_bipush (v := 37) hx hb dX5_doubles_2 (by decide) ?_
  refine lv_istore_n (lv' := [(2, .int 37), (1, .int 0), (0, .ref (am 0))]) hx hb dX5_doubles_4 rfl hl (by decide) rfl (fun ls hl => ?_)
  exact hL5 FU 0 37 _ (lv_sub hl [2, 1, 0] rfl) h
def fX5_count (S : OS) (a1 : Int32) : Option (Int32) := if a1 = 0 then some (S 1 (0 : Int32).toNatClampNeg) else if a1 = 1 then some (S 1 (53 : Int32).toNatClampNeg) else if a1 = 2 then some (S 0 0) else if a1 = 3 then some (S 0 1) else if a1 = 4 then (fX5_doubles S).bind (fun r6 => (some r6)) else if a1 = 5 then some (S 0 7) else if a1 = 6 then some (S 0 3) else if a1 = 7 then some (S 0 5) else if a1 = 8 then some (S 0 10) else if (a1).toInt < 0 ∨ 8 < (a1).toInt then some (-1) else none
abbrev rmX5_count : Room := { frames := 1, cells := 0, slots := 0, locals := 22 }
set_option maxHeartbeats 4000000 in
set_option maxRecDepth 100000 in
theorem c_X5_count (l : Launch) (E : En) (am : Nat → Nat) (S : OS) (a1 : Int32) (r : Int32) (h : fX5_count S a1 = some r) : Met l yX5_count (kX5_count :: BIG) rmX5_count (Pk E [.ref (am 0), .int a1] (MW E am S)) (QcRead r) 0 0 (fun _ => False) := by
  refine Mb (by decide) (Nat.le_of_ble_eq_true rfl) ?_
  intro p e s m below meth c ls hx hb hr hlk hB hown hml _ hK hw hl
  have hl : lv_has ls 2 [(0, .ref (am 0)), (1, .int a1)] := hl
  rw [fX5_count] at h
  refine lv_iload_n hx hb dX5_count_0 rfl (lv_at hl 1 rfl) ?_
  by_cases g1 : a1 = 0
  · rw [if_pos g1] at h
    refine lv_tableIn (off := 51) (tgt := 52) hx hb dX5_count_1 (by rw [g1]; decide) (by rw [g1]; decide) (by rw [g1]; rfl) (by decide) ?_
    refine lv_aload_n hx hb dX5_count_52 rfl (lv_at hl 0 rfl) ?_
    refine gX5_7 hx hb hB hown hK hw dX5_count_53 ?_
    refine lv_iconst (v := 0) hx hb dX5_count_56 (by decide) ?_
    refine lM hx hb hK hw (by decide) (by decide) (ib_ok (by decide)) dX5_count_57 ?_
    exact e_zR hx hb hr hlk rfl h dX5_count_58
  · rw [if_neg g1] at h
    by_cases g2 : a1 = 1
    · rw [if_pos g2] at h
      refine lv_tableIn (off := 58) (tgt := 59) hx hb dX5_count_1 (by rw [g2]; decide) (by rw [g2]; decide) (by rw [g2]; rfl) (by decide) ?_
      refine lv_aload_n hx hb dX5_count_59 rfl (lv_at hl 0 rfl) ?_
      refine gX5_7 hx hb hB hown hK hw dX5_count_60 ?_
      refine lv_bipush (v := 53) hx hb dX5_count_63 (by decide) ?_
      refine lM hx hb hK hw (by decide) (by decide) (ib_ok (by decide)) dX5_count_65 ?_
      exact e_zR hx hb hr hlk rfl h dX5_count_66
    · rw [if_neg g2] at h
      by_cases g3 : a1 = 2
      · rw [if_pos g3] at h
        refine lv_tableIn (off := 66) (tgt := 67) hx hb dX5_count_1 (by rw [g3]; decide) (by rw [g3]; decide) (by rw [g3]; rfl) (by decide) ?_
        refine lv_aload_n hx hb dX5_count_67 rfl (lv_at hl 0 rfl) ?_
        refine gX5_71 hx hb hB hown hK hw dX5_count_68 ?_
        exact e_zR hx hb hr hlk rfl h dX5_count_71
      · rw [if_neg g3] at h
        by_cases g4 : a1 = 3
        · rw [if_pos g4] at h
          refine lv_tableIn (off := 71) (tgt := 72) hx hb dX5_count_1 (by rw [g4]; decide) (by rw [g4]; decide) (by rw [g4]; rfl) (by decide) ?_
          refine lv_aload_n hx hb dX5_count_72 rfl (lv_at hl 0 rfl) ?_
          refine gX5_118 hx hb hB hown hK hw dX5_count_73 ?_
          exact e_zR hx hb hr hlk rfl h dX5_count_76
        · rw [if_neg g4] at h
          by_cases g5 : a1 = 4
          · rw [if_pos g5] at h
            refine lv_tableIn (off := 76) (tgt := 77) hx hb dX5_count_1 (by rw [g5]; decide) (by rw [g5]; decide) (by rw [g5]; rfl) (by decide) ?_
            refine lv_aload_n hx hb dX5_count_77 rfl (lv_at hl 0 rfl) ?_
            obtain ⟨r6, e6, h⟩ := ob h
            refine k_VR ⟨hx, hb, hml, hown, hB⟩ (c_X5_doubles l E am S r6 e6) (clX5_244 hB rfl rfl ⟨Nat.le_of_ble_eq_true rfl, Nat.le_of_ble_eq_true rfl⟩) hK hw (rvM hK hw) rfl hl.1 rfl (Nat.le_of_ble_eq_true rfl) dX5_count_78 ⟨Nat.zero_le _, Nat.zero_le _⟩ ?_
            exact e_zR hx hb hr hlk rfl h dX5_count_81
          · rw [if_neg g5] at h
            by_cases g7 : a1 = 5
            · rw [if_pos g7] at h
              refine lv_tableIn (off := 81) (tgt := 82) hx hb dX5_count_1 (by rw [g7]; decide) (by rw [g7]; decide) (by rw [g7]; rfl) (by decide) ?_
              refine lv_aload_n hx hb dX5_count_82 rfl (lv_at hl 0 rfl) ?_
              refine gX5_134 hx hb hB hown hK hw dX5_count_83 ?_
              exact e_zR hx hb hr hlk rfl h dX5_count_86
            · rw [if_neg g7] at h
              by_cases g8 : a1 = 6
              · rw [if_pos g8] at h
                refine lv_tableIn (off := 86) (tgt := 87) hx hb dX5_count_1 (by rw [g8]; decide) (by rw [g8]; decide) (by rw [g8]; rfl) (by decide) ?_
                refine lv_aload_n hx hb dX5_count_87 rfl (lv_at hl 0 rfl) ?_
                refine gX5_128 hx hb hB hown hK hw dX5_count_88 ?_
                exact e_zR hx hb hr hlk rfl h dX5_count_91
              · rw [if_neg g8] at h
                by_cases g9 : a1 = 7
                · rw [if_pos g9] at h
                  refine lv_tableIn (off := 91) (tgt := 92) hx hb dX5_count_1 (by rw [g9]; decide) (by rw [g9]; decide) (by rw [g9]; rfl) (by decide) ?_
                  refine lv_aload_n hx hb dX5_count_92 rfl (lv_at hl 0 rfl) ?_
                  refine gX5_131 hx hb hB hown hK hw dX5_count_93 ?_
                  exact e_zR hx hb hr hlk rfl h dX5_count_96
                · rw [if_neg g9] at h
                  by_cases g10 : a1 = 8
                  · rw [if_pos g10] at h
                    refine lv_tableIn (off := 96) (tgt := 97) hx hb dX5_count_1 (by rw [g10]; decide) (by rw [g10]; decide) (by rw [g10]; rfl) (by decide) ?_
                    refine lv_aload_n hx hb dX5_count_97 rfl (lv_at hl 0 rfl) ?_
                    refine gX5_74 hx hb hB hown hK hw dX5_count_98 ?_
                    exact e_zR hx hb hr hlk rfl h dX5_count_101
                  · rw [if_neg g10] at h
                    by_cases g11 : (a1).toInt < 0 ∨ 8 < (a1).toInt
                    · rw [if_pos g11] at h
                      refine lv_tableOut (tgt := 102) hx hb dX5_count_1 g11 (by decide) ?_
                      refine lv_iconst (v := (-1)) hx hb dX5_count_102 (by decide) ?_
                      exact e_zR hx hb hr hlk rfl h dX5_count_103
                    · rw [if_neg g11] at h
                      exact nn h
