def fX2_numbersBehind (a1 : Int32) : Option (Int32) := if a1 = 100 then some 3 else if a1 = 116 then some 1 else if a1 = 118 then some 2 else if a1 = 121 then some 1 else some 0
abbrev rmX2_numbersBehind : Room := { frames := 0, cells := 0, slots := 0, locals := 0 }
set_option maxHeartbeats 4000000 in
set_option maxRecDepth 100000 in
theorem c_X2_numbersBehind (l : Launch) (E : En) (a1 : Int32) (r : Int32) (h : fX2_numbersBehind a1 = some r) : Met l yX2_numbersBehind (kX2_numbersBehind :: BIG) rmX2_numbersBehind (Pk E [.int a1] (fun _ => True)) (QcRead r) 0 0 (fun _ => False) := by
  refine Mb (by decide) (Nat.le_of_ble_eq_true rfl) ?_
  intro p e s m below meth c ls hx hb hr hlk hB hown hml _ hK hw hl
  have hl : lv_has ls 1 [(0, .int a1)] := hl
  rw [fX2_numbersBehind] at h
  refine lv_iload_n hx hb dX2_numbersBehind_0 rfl (lv_at hl 0 rfl) ?_
  by_cases g1 : a1 = 100
  · rw [if_pos g1] at h
    refine lv_lookup (off := 45) (tgt := 46) hx hb dX2_numbersBehind_1 (by decide) (by rw [g1]; decide) (by decide) ?_
    refine lv_iconst (v := 3) hx hb dX2_numbersBehind_46 (by decide) ?_
    exact e_zR hx hb hr hlk rfl h dX2_numbersBehind_47
  · rw [if_neg g1] at h
    by_cases g2 : a1 = 116
    · rw [if_pos g2] at h
      refine lv_lookup (off := 49) (tgt := 50) hx hb dX2_numbersBehind_1 (by decide) (by rw [g2]; decide) (by decide) ?_
      refine lv_iconst (v := 1) hx hb dX2_numbersBehind_50 (by decide) ?_
      exact e_zR hx hb hr hlk rfl h dX2_numbersBehind_51
    · rw [if_neg g2] at h
      by_cases g3 : a1 = 118
      · rw [if_pos g3] at h
        refine lv_lookup (off := 47) (tgt := 48) hx hb dX2_numbersBehind_1 (by decide) (by rw [g3]; decide) (by decide) ?_
        refine lv_iconst (v := 2) hx hb dX2_numbersBehind_48 (by decide) ?_
        exact e_zR hx hb hr hlk rfl h dX2_numbersBehind_49
      · rw [if_neg g3] at h
        by_cases g4 : a1 = 121
        · rw [if_pos g4] at h
          refine lv_lookup (off := 43) (tgt := 44) hx hb dX2_numbersBehind_1 (by decide) (by rw [g4]; decide) (by decide) ?_
          refine lv_iconst (v := 1) hx hb dX2_numbersBehind_44 (by decide) ?_
          exact e_zR hx hb hr hlk rfl h dX2_numbersBehind_45
        · rw [if_neg g4] at h
          refine lv_lookup (off := 51) (tgt := 52) hx hb dX2_numbersBehind_1 (by decide) ((lv_osw g1 (by decide)).trans ((lv_osw g2 (by decide)).trans ((lv_osw g3 (by decide)).trans ((lv_osw g4 (by decide)).trans (rfl))))) (by decide) ?_
          refine lv_iconst (v := 0) hx hb dX2_numbersBehind_52 (by decide) ?_
          exact e_zR hx hb hr hlk rfl h dX2_numbersBehind_53
def fX2_isFigure (a1 : Int32) : Option (Int32) := if a1 < 48 then some 0 else if 57 < a1 then some 0 else some 1
abbrev rmX2_isFigure : Room := { frames := 0, cells := 0, slots := 0, locals := 0 }
set_option maxHeartbeats 4000000 in
set_option maxRecDepth 100000 in
theorem c_X2_isFigure (l : Launch) (E : En) (a1 : Int32) (r : Int32) (h : fX2_isFigure a1 = some r) : Met l yX2_isFigure (kX2_isFigure :: BIG) rmX2_isFigure (Pk E [.int a1] (fun _ => True)) (QcRead r) 0 0 (fun _ => False) := by
  refine Mb (by decide) (Nat.le_of_ble_eq_true rfl) ?_
  intro p e s m below meth c ls hx hb hr hlk hB hown hml _ hK hw hl
  have hl : lv_has ls 1 [(0, .int a1)] := hl
  rw [fX2_isFigure] at h
  refine lv_iload_n hx hb dX2_isFigure_0 rfl (lv_at hl 0 rfl) ?_
  refine lv_bipush (v := 48) hx hb dX2_isFigure_1 (by decide) ?_
  refine lv_icmp_lt (tgt := 16) hx hb dX2_isFigure_3 (by decide) (fun g1 => ?_) (fun g1 => ?_)
  · rw [if_pos g1] at h
    refine lv_iconst (v := 0) hx hb dX2_isFigure_16 (by decide) ?_
    exact e_zR hx hb hr hlk (by decide) h dX2_isFigure_17
  · rw [if_neg g1] at h
    refine lv_iload_n hx hb dX2_isFigure_6 rfl (lv_at hl 0 rfl) ?_
    refine lv_bipush (v := 57) hx hb dX2_isFigure_7 (by decide) ?_
    refine lv_icmp_gt (tgt := 16) hx hb dX2_isFigure_9 (by decide) (fun g2 => ?_) (fun g2 => ?_)
    · rw [if_pos g2] at h
      refine lv_iconst (v := 0) hx hb dX2_isFigure_16 (by decide) ?_
      exact e_zR hx hb hr hlk (by decide) h dX2_isFigure_17
    · rw [if_neg g2] at h
      refine lv_iconst (v := 1) hx hb dX2_isFigure_12 (by decide) ?_
      refine lv_goto (tgt := 17) hx hb dX2_isFigure_13 (by decide) ?_
      exact e_zR hx hb hr hlk (by decide) h dX2_isFigure_17
def fX4_isSide (a1 : Int32) : Option (Int32) := if a1 = 0 then some 1 else if a1 = 1 then some 1 else some 0
abbrev rmX4_isSide : Room := { frames := 0, cells := 0, slots := 0, locals := 0 }
set_option maxHeartbeats 4000000 in
set_option maxRecDepth 100000 in
theorem c_X4_isSide (l : Launch) (E : En) (a1 : Int32) (r : Int32) (h : fX4_isSide a1 = some r) : Met l yX4_isSide (kX4_isSide :: BIG) rmX4_isSide (Pk E [.int a1] (fun _ => True)) (QcRead r) 0 0 (fun _ => False) := by
  refine Mb (by decide) (Nat.le_of_ble_eq_true rfl) ?_
  intro p e s m below meth c ls hx hb hr hlk hB hown hml _ hK hw hl
  have hl : lv_has ls 1 [(0, .int a1)] := hl
  rw [fX4_isSide] at h
  refine lv_iload_n hx hb dX4_isSide_0 rfl (lv_at hl 0 rfl) ?_
  refine lv_if_eq (tgt := 9) hx hb dX4_isSide_1 (by decide) (fun g1 => ?_) (fun g1 => ?_)
  · rw [if_pos g1] at h
    refine lv_iconst (v := 1) hx hb dX4_isSide_9 (by decide) ?_
    refine lv_goto (tgt := 14) hx hb dX4_isSide_10 (by decide) ?_
    exact e_zR hx hb hr hlk (by decide) h dX4_isSide_14
  · rw [if_neg g1] at h
    refine lv_iload_n hx hb dX4_isSide_4 rfl (lv_at hl 0 rfl) ?_
    refine lv_iconst (v := 1) hx hb dX4_isSide_5 (by decide) ?_
    refine lv_icmp_ne (tgt := 13) hx hb dX4_isSide_6 (by decide) (fun g2 => ?_) (fun g2 => ?_)
    · rw [if_neg g2] at h
      refine lv_iconst (v := 0) hx hb dX4_isSide_13 (by decide) ?_
      exact e_zR hx hb hr hlk (by decide) h dX4_isSide_14
    · rw [if_pos g2] at h
      refine lv_iconst (v := 1) hx hb dX4_isSide_9 (by decide) ?_
      refine lv_goto (tgt := 14) hx hb dX4_isSide_10 (by decide) ?_
      exact e_zR hx hb hr hlk (by decide) h dX4_isSide_14
def fX4_isForgiven (a1 : Int32) : Option (Int32) := if a1 < 0 then some 0 else if 9 < a1 then some 0 else some 1
abbrev rmX4_isForgiven : Room := { frames := 0, cells := 0, slots := 0, locals := 0 }
set_option maxHeartbeats 4000000 in
set_option maxRecDepth 100000 in
theorem c_X4_isForgiven (l : Launch) (E : En) (a1 : Int32) (r : Int32) (h : fX4_isForgiven a1 = some r) : Met l yX4_isForgiven (kX4_isForgiven :: BIG) rmX4_isForgiven (Pk E [.int a1] (fun _ => True)) (QcRead r) 0 0 (fun _ => False) := by
  refine Mb (by decide) (Nat.le_of_ble_eq_true rfl) ?_
  intro p e s m below meth c ls hx hb hr hlk hB hown hml _ hK hw hl
  have hl : lv_has ls 1 [(0, .int a1)] := hl
  rw [fX4_isForgiven] at h
  refine lv_iload_n hx hb dX4_isForgiven_0 rfl (lv_at hl 0 rfl) ?_
  refine lv_if_lt (tgt := 14) hx hb dX4_isForgiven_1 (by decide) (fun g1 => ?_) (fun g1 => ?_)
  · rw [if_pos g1] at h
    refine lv_iconst (v := 0) hx hb dX4_isForgiven_14 (by decide) ?_
    exact e_zR hx hb hr hlk (by decide) h dX4_isForgiven_15
  · rw [if_neg g1] at h
    refine lv_iload_n hx hb dX4_isForgiven_4 rfl (lv_at hl 0 rfl) ?_
    refine lv_bipush (v := 9) hx hb dX4_isForgiven_5 (by decide) ?_
    refine lv_icmp_gt (tgt := 14) hx hb dX4_isForgiven_7 (by decide) (fun g2 => ?_) (fun g2 => ?_)
    · rw [if_pos g2] at h
      refine lv_iconst (v := 0) hx hb dX4_isForgiven_14 (by decide) ?_
      exact e_zR hx hb hr hlk (by decide) h dX4_isForgiven_15
    · rw [if_neg g2] at h
      refine lv_iconst (v := 1) hx hb dX4_isForgiven_10 (by decide) ?_
      refine lv_goto (tgt := 15) hx hb dX4_isForgiven_11 (by decide) ?_
      exact e_zR hx hb hr hlk (by decide) h dX4_isForgiven_15
def fX4_isMinutes (a1 : Int32) : Option (Int32) := if a1 < 1 then some 0 else if 20 < a1 then some 0 else some 1
abbrev rmX4_isMinutes : Room := { frames := 0, cells := 0, slots := 0, locals := 0 }
set_option maxHeartbeats 4000000 in
set_option maxRecDepth 100000 in
theorem c_X4_isMinutes (l : Launch) (E : En) (a1 : Int32) (r : Int32) (h : fX4_isMinutes a1 = some r) : Met l yX4_isMinutes (kX4_isMinutes :: BIG) rmX4_isMinutes (Pk E [.int a1] (fun _ => True)) (QcRead r) 0 0 (fun _ => False) := by
  refine Mb (by decide) (Nat.le_of_ble_eq_true rfl) ?_
  intro p e s m below meth c ls hx hb hr hlk hB hown hml _ hK hw hl
  have hl : lv_has ls 1 [(0, .int a1)] := hl
  rw [fX4_isMinutes] at h
  refine lv_iload_n hx hb dX4_isMinutes_0 rfl (lv_at hl 0 rfl) ?_
  refine lv_iconst (v := 1) hx hb dX4_isMinutes_1 (by decide) ?_
  refine lv_icmp_lt (tgt := 15) hx hb dX4_isMinutes_2 (by decide) (fun g1 => ?_) (fun g1 => ?_)
  · rw [if_pos g1] at h
    refine lv_iconst (v := 0) hx hb dX4_isMinutes_15 (by decide) ?_
    exact e_zR hx hb hr hlk (by decide) h dX4_isMinutes_16
  · rw [if_neg g1] at h
    refine lv_iload_n hx hb dX4_isMinutes_5 rfl (lv_at hl 0 rfl) ?_
    refine lv_bipush (v := 20) hx hb dX4_isMinutes_6 (by decide) ?_
    refine lv_icmp_gt (tgt := 15) hx hb dX4_isMinutes_8 (by decide) (fun g2 => ?_) (fun g2 => ?_)
    · rw [if_pos g2] at h
      refine lv_iconst (v := 0) hx hb dX4_isMinutes_15 (by decide) ?_
      exact e_zR hx hb hr hlk (by decide) h dX4_isMinutes_16
    · rw [if_neg g2] at h
      refine lv_iconst (v := 1) hx hb dX4_isMinutes_11 (by decide) ?_
      refine lv_goto (tgt := 16) hx hb dX4_isMinutes_12 (by decide) ?_
      exact e_zR hx hb hr hlk (by decide) h dX4_isMinutes_16
def fX4_isOneOfTheDead (a1 : Int32) (a2 : Int32) (a3 : Int32) : Option (Int32) := (fX4_isSide a1).bind (fun r1 => (if r1 = 0 then some 0 else if a2 < 0 then some 0 else if 3 < a2 then some 0 else (fX4_isForgiven a3).bind (fun r5 => (if r5 = 0 then some 0 else some 1))))
abbrev rmX4_isOneOfTheDead : Room := { frames := 1, cells := 0, slots := 0, locals := 20 }
set_option maxHeartbeats 4000000 in
set_option maxRecDepth 100000 in
theorem c_X4_isOneOfTheDead (l : Launch) (E : En) (a1 : Int32) (a2 : Int32) (a3 : Int32) (r : Int32) (h : fX4_isOneOfTheDead a1 a2 a3 = some r) : Met l yX4_isOneOfTheDead (kX4_isOneOfTheDead :: BIG) rmX4_isOneOfTheDead (Pk E [.int a1, .int a2, .int a3] (fun _ => True)) (QcRead r) 0 0 (fun _ => False) := by
  refine Mb (by decide) (Nat.le_of_ble_eq_true rfl) ?_
  intro p e s m below meth c ls hx hb hr hlk hB hown hml _ hK hw hl
  have hl : lv_has ls 3 [(0, .int a1), (1, .int a2), (2, .int a3)] := hl
  rw [fX4_isOneOfTheDead] at h
  refine lv_iload_n hx hb dX4_isOneOfTheDead_0 rfl (lv_at hl 0 rfl) ?_
  obtain ⟨r1, e1, h⟩ := ob h
  refine k_SR ⟨hx, hb, hml, hown, hB⟩ (c_X4_isSide l E a1 r1 e1) (clX4_111 hB rfl rfl ⟨Nat.le_of_ble_eq_true rfl, Nat.le_of_ble_eq_true rfl⟩) hK trivial rfl hl.1 rfl (Nat.le_of_ble_eq_true rfl) dX4_isOneOfTheDead_1 ⟨Nat.zero_le _, Nat.zero_le _⟩ ?_
  refine lv_if_eq (tgt := 27) hx hb dX4_isOneOfTheDead_4 (by decide) (fun g2 => ?_) (fun g2 => ?_)
  · rw [if_pos g2] at h
    refine lv_iconst (v := 0) hx hb dX4_isOneOfTheDead_27 (by decide) ?_
    exact e_zR hx hb hr hlk (by decide) h dX4_isOneOfTheDead_28
  · rw [if_neg g2] at h
    refine lv_iload_n hx hb dX4_isOneOfTheDead_7 rfl (lv_at hl 1 rfl) ?_
    refine lv_if_lt (tgt := 27) hx hb dX4_isOneOfTheDead_8 (by decide) (fun g3 => ?_) (fun g3 => ?_)
    · rw [if_pos g3] at h
      refine lv_iconst (v := 0) hx hb dX4_isOneOfTheDead_27 (by decide) ?_
      exact e_zR hx hb hr hlk (by decide) h dX4_isOneOfTheDead_28
    · rw [if_neg g3] at h
      refine lv_iload_n hx hb dX4_isOneOfTheDead_11 rfl (lv_at hl 1 rfl) ?_
      refine lv_iconst (v := 3) hx hb dX4_isOneOfTheDead_12 (by decide) ?_
      refine lv_icmp_gt (tgt := 27) hx hb dX4_isOneOfTheDead_13 (by decide) (fun g4 => ?_) (fun g4 => ?_)
      · rw [if_pos g4] at h
        refine lv_iconst (v := 0) hx hb dX4_isOneOfTheDead_27 (by decide) ?_
        exact e_zR hx hb hr hlk (by decide) h dX4_isOneOfTheDead_28
      · rw [if_neg g4] at h
        refine lv_iload_n hx hb dX4_isOneOfTheDead_16 rfl (lv_at hl 2 rfl) ?_
        obtain ⟨r5, e5, h⟩ := ob h
        refine k_SR ⟨hx, hb, hml, hown, hB⟩ (c_X4_isForgiven l E a3 r5 e5) (clX4_145 hB rfl rfl ⟨Nat.le_of_ble_eq_true rfl, Nat.le_of_ble_eq_true rfl⟩) hK trivial rfl hl.1 rfl (Nat.le_of_ble_eq_true rfl) dX4_isOneOfTheDead_17 ⟨Nat.zero_le _, Nat.zero_le _⟩ ?_
        refine lv_if_eq (tgt := 27) hx hb dX4_isOneOfTheDead_20 (by decide) (fun g6 => ?_) (fun g6 => ?_)
        · rw [if_pos g6] at h
          refine lv_iconst (v := 0) hx hb dX4_isOneOfTheDead_27 (by decide) ?_
          exact e_zR hx hb hr hlk (by decide) h dX4_isOneOfTheDead_28
        · rw [if_neg g6] at h
          refine lv_iconst (v := 1) hx hb dX4_isOneOfTheDead_23 (by decide) ?_
          refine lv_goto (tgt := 28) hx hb dX4_isOneOfTheDead_24 (by decide) ?_
          exact e_zR hx hb hr hlk (by decide) h dX4_isOneOfTheDead_28
def fX4_draw (a1 : Int32) (a2 : Int32) : Option (Int32) := some ((((((((7919 : Int64) * a1.toInt64) + ((6151 : Int64) * a2.toInt64)) + (1 : Int64)) * ((((7919 : Int64) * a1.toInt64) + ((6151 : Int64) * a2.toInt64)) + (1 : Int64))) - (((((7919 : Int64) * a1.toInt64) + ((6151 : Int64) * a2.toInt64)) + (1 : Int64)) * ((((7919 : Int64) * a1.toInt64) + ((6151 : Int64) * a2.toInt64)) + (1 : Int64))) / (65521 : Int64) * (65521 : Int64)) / (2 : Int64)).toInt32)
abbrev rmX4_draw : Room := { frames := 0, cells := 0, slots := 0, locals := 0 }
set_option maxHeartbeats 4000000 in
set_option maxRecDepth 100000 in
theorem c_X4_draw (l : Launch) (E : En) (a1 : Int32) (a2 : Int32) (r : Int32) (h : fX4_draw a1 a2 = some r) : Met l yX4_draw (kX4_draw :: BIG) rmX4_draw (Pk E [.int a1, .int a2] (fun _ => True)) (QcRead r) 0 0 (fun _ => False) := by
  refine Mb (by decide) (Nat.le_of_ble_eq_true rfl) ?_
  intro p e s m below meth c ls hx hb hr hlk hB hown hml _ hK hw hl
  have hl : lv_has ls 4 [(0, .int a1), (1, .int a2)] := hl
  rw [fX4_draw] at h
  refine lv_ldc2 hx hb hown (hB _ kcX4_245) dX4_draw_0 ?_
  refine lv_iload_n hx hb dX4_draw_3 rfl (lv_at hl 0 rfl) ?_
  refine lv_i2l hx hb dX4_draw_4 rfl ?_
  refine lv_lmul hx hb dX4_draw_5 ?_
  refine lv_ldc2 hx hb hown (hB _ kcX4_247) dX4_draw_6 ?_
  refine lv_iload_n hx hb dX4_draw_9 rfl (lv_at hl 1 rfl) ?_
  refine lv_i2l hx hb dX4_draw_10 rfl ?_
  refine lv_lmul hx hb dX4_draw_11 ?_
  refine lv_ladd hx hb dX4_draw_12 ?_
  refine lv_lconst (v := 1) hx hb dX4_draw_13 (by decide) ?_
  refine lv_ladd hx hb dX4_draw_14 ?_
  refine lv_lstore_n (lv' := [(2, .long ((((7919 : Int64) * a1.toInt64) + ((6151 : Int64) * a2.toInt64)) + (1 : Int64))), (0, .int a1), (1, .int a2)]) hx hb dX4_draw_15 rfl hl (by decide) rfl (fun ls hl => ?_)
  refine lv_lload_n hx hb dX4_draw_16 rfl (lv_at hl 0 rfl) ?_
  refine lv_lload_n hx hb dX4_draw_17 rfl (lv_at hl 0 rfl) ?_
  refine lv_lmul hx hb dX4_draw_18 ?_
  refine lv_ldc2 hx hb hown (hB _ kcX4_249) dX4_draw_19 ?_
  refine lv_lrem hx hb dX4_draw_22 (by decide) ?_
  refine lv_ldc2 hx hb hown (hB _ kcX4_251) dX4_draw_23 ?_
  refine lv_ldiv hx hb dX4_draw_26 (by decide) ?_
  refine lv_l2i hx hb dX4_draw_27 rfl ?_
  exact e_zR hx hb hr hlk rfl h dX4_draw_28
def fX5_in (a1 : Int32) (a2 : Int32) (a3 : Int32) : Option (Int32) := if a1 < a2 then some 0 else if a3 < a1 then some 0 else some 1
abbrev rmX5_in : Room := { frames := 0, cells := 0, slots := 0, locals := 0 }
set_option maxHeartbeats 4000000 in
set_option maxRecDepth 100000 in
theorem c_X5_in (l : Launch) (E : En) (a1 : Int32) (a2 : Int32) (a3 : Int32) (r : Int32) (h : fX5_in a1 a2 a3 = some r) : Met l yX5_in (kX5_in :: BIG) rmX5_in (Pk E [.int a1, .int a2, .int a3] (fun _ => True)) (QcRead r) 0 0 (fun _ => False) := by
  refine Mb (by decide) (Nat.le_of_ble_eq_true rfl) ?_
  intro p e s m below meth c ls hx hb hr hlk hB hown hml _ hK hw hl
  have hl : lv_has ls 3 [(0, .int a1), (1, .int a2), (2, .int a3)] := hl
  rw [fX5_in] at h
  refine lv_iload_n hx hb dX5_in_0 rfl (lv_at hl 0 rfl) ?_
  refine lv_iload_n hx hb dX5_in_1 rfl (lv_at hl 1 rfl) ?_
  refine lv_icmp_lt (tgt := 14) hx hb dX5_in_2 (by decide) (fun g1 => ?_) (fun g1 => ?_)
  · rw [if_pos g1] at h
    refine lv_iconst (v := 0) hx hb dX5_in_14 (by decide) ?_
    exact e_zR hx hb hr hlk (by decide) h dX5_in_15
  · rw [if_neg g1] at h
    refine lv_iload_n hx hb dX5_in_5 rfl (lv_at hl 0 rfl) ?_
    refine lv_iload_n hx hb dX5_in_6 rfl (lv_at hl 2 rfl) ?_
    refine lv_icmp_gt (tgt := 14) hx hb dX5_in_7 (by decide) (fun g2 => ?_) (fun g2 => ?_)
    · rw [if_pos g2] at h
      refine lv_iconst (v := 0) hx hb dX5_in_14 (by decide) ?_
      exact e_zR hx hb hr hlk (by decide) h dX5_in_15
    · rw [if_neg g2] at h
      refine lv_iconst (v := 1) hx hb dX5_in_10 (by decide) ?_
      refine lv_goto (tgt := 15) hx hb dX5_in_11 (by decide) ?_
      exact e_zR hx hb hr hlk (by decide) h dX5_in_15
def fX5_has (a1 : Int32) (a2 : Int32) : Option (Int32) := if ((a1 >>> (a2 &&& 31)) &&& 1) = 1 then some 1 else some 0
abbrev rmX5_has : Room := { frames := 0, cells := 0, slots := 0, locals := 0 }
set_option maxHeartbeats 4000000 in
set_option maxRecDepth 100000 in
theorem c_X5_has (l : Launch) (E : En) (a1 : Int32) (a2 : Int32) (r : Int32) (h : fX5_has a1 a2 = some r) : Met l yX5_has (kX5_has :: BIG) rmX5_has (Pk E [.int a1, .int a2] (fun _ => True)) (QcRead r) 0 0 (fun _ => False) := by
  refine Mb (by decide) (Nat.le_of_ble_eq_true rfl) ?_
  intro p e s m below meth c ls hx hb hr hlk hB hown hml _ hK hw hl
  have hl : lv_has ls 2 [(0, .int a1), (1, .int a2)] := hl
  rw [fX5_has] at h
  refine lv_iload_n hx hb dX5_has_0 rfl (lv_at hl 0 rfl) ?_
  refine lv_iload_n hx hb dX5_has_1 rfl (lv_at hl 1 rfl) ?_
  refine lv_ishr hx hb dX5_has_2 ?_
  refine lv_iconst (v := 1) hx hb dX5_has_3 (by decide) ?_
  refine lv_iand hx hb dX5_has_4 ?_
  refine lv_iconst (v := 1) hx hb dX5_has_5 (by decide) ?_
  refine lv_icmp_ne (tgt := 13) hx hb dX5_has_6 (by decide) (fun g1 => ?_) (fun g1 => ?_)
  · rw [if_neg g1] at h
    refine lv_iconst (v := 0) hx hb dX5_has_13 (by decide) ?_
    exact e_zR hx hb hr hlk (by decide) h dX5_has_14
  · rw [if_pos g1] at h
    refine lv_iconst (v := 1) hx hb dX5_has_9 (by decide) ?_
    refine lv_goto (tgt := 14) hx hb dX5_has_10 (by decide) ?_
    exact e_zR hx hb hr hlk (by decide) h dX5_has_14
def fX5_bits_L4 (v0_4 : Int32) : Nat → Int32 → Int32 → Option (Int32)
  | 0, _, _ => none
  | n_4 + 1, v1_4, v2_4 => if 12 ≤ v2_4 then some v1_4 else fX5_bits_L4 v0_4 n_4 (v1_4 + ((v0_4 >>> (v2_4 &&& 31)) &&& 1)) (v2_4 + 1)
def fX5_bits (a1 : Int32) : Option (Int32) := fX5_bits_L4 a1 FU 0 0
abbrev rmX5_bits : Room := { frames := 0, cells := 0, slots := 0, locals := 0 }
set_option maxHeartbeats 4000000 in
set_option maxRecDepth 100000 in
theorem c_X5_bits (l : Launch) (E : En) (a1 : Int32) (r : Int32) (h : fX5_bits a1 = some r) : Met l yX5_bits (kX5_bits :: BIG) rmX5_bits (Pk E [.int a1] (fun _ => True)) (QcRead r) 0 0 (fun _ => False) := by
  refine Mb (by decide) (Nat.le_of_ble_eq_true rfl) ?_
  intro p e s m below meth c ls hx hb hr hlk hB hown hml _ hK hw hl
  have hl : lv_has ls 3 [(0, .int a1)] := hl
  rw [fX5_bits] at h
  have hL4 : ∀ (n_4 : Nat) (v0_4 : Int32) (v1_4 : Int32) (v2_4 : Int32) (ls_4 : Array Slot), lv_has ls_4 3 [(0, .int v0_4), (1, .int v1_4), (2, .int v2_4)] → fX5_bits_L4 v0_4 n_4 v1_4 v2_4 = some r → W p l e rmX5_bits s m ([.int a1] : List Value).toArray below meth c s.heap [] 0 0 (MQ below (QcRead r) ([.int a1] : List Value).toArray s 0 0 (fun _ => False)) (F0 m 4 ls_4 []) := by
    intro n_4
    induction n_4 with
    | zero =>
      intro v0_4 v1_4 v2_4 ls_4 hl h
      exact nn h
    | succ n_4 ih_4 =>
      intro v0_4 v1_4 v2_4 ls_4 hl h
      rw [fX5_bits_L4] at h
      refine lv_iload_n hx hb dX5_bits_4 rfl (lv_at hl 2 rfl) ?_
      refine lv_bipush (v := 12) hx hb dX5_bits_5 (by decide) ?_
      refine lv_icmp_ge (tgt := 24) hx hb dX5_bits_7 (by decide) (fun g1 => ?_) (fun g1 => ?_)
      · rw [if_pos g1] at h
        refine lv_iload_n hx hb dX5_bits_24 rfl (lv_at hl 1 rfl) ?_
        exact e_zR hx hb hr hlk rfl h dX5_bits_25
      · rw [if_neg g1] at h
        refine lv_iload_n hx hb dX5_bits_10 rfl (lv_at hl 1 rfl) ?_
        refine lv_iload_n hx hb dX5_bits_11 rfl (lv_at hl 0 rfl) ?_
        refine lv_iload_n hx hb dX5_bits_12 rfl (lv_at hl 2 rfl) ?_
        refine lv_ishr hx hb dX5_bits_13 ?_
        refine lv_iconst (v := 1) hx hb dX5_bits_14 (by decide) ?_
        refine lv_iand hx hb dX5_bits_15 ?_
        refine lv_iadd hx hb dX5_bits_16 ?_
        refine lv_istore_n (lv' := [(1, .int (v1_4 + ((v0_4 >>> (v2_4 &&& 31)) &&& 1))), (0, .int v0_4), (2, .int v2_4)]) hx hb dX5_bits_17 rfl hl (by decide) rfl (fun ls hl => ?_)
        refine lv_iinc (v := (v2_4 + 1)) (lv' := [(2, .int (v2_4 + 1)), (1, .int (v1_4 + ((v0_4 >>> (v2_4 &&& 31)) &&& 1))), (0, .int v0_4)]) hx hb dX5_bits_18 hl (k := 2) rfl rfl (by decide) rfl (fun ls hl => ?_)
        refine lv_goto (tgt := 4) hx hb dX5_bits_21 (by decide) ?_
        exact ih_4 v0_4 (v1_4 + ((v0_4 >>> (v2_4 &&& 31)) &&& 1)) (v2_4 + 1) _ (lv_sub hl [2, 1, 0] rfl) h
  refine lv_iconst (v := 0) hx hb dX5_bits_0 (by decide) ?_
  refine lv_istore_n (lv' := [(1, .int 0), (0, .int a1)]) hx hb dX5_bits_1 rfl hl (by decide) rfl (fun ls hl => ?_)
  refine lv_iconst (v := 0) hx hb dX5_bits_2 (by decide) ?_
  refine lv_istore_n (lv' := [(2, .int 0), (1, .int 0), (0, .int a1)]) hx hb dX5_bits_3 rfl hl (by decide) rfl (fun ls hl => ?_)
  exact hL4 FU a1 0 0 _ (lv_sub hl [2, 1, 0] rfl) h
def fX5_isFigure (a1 : Int32) : Option (Int32) := (fX5_in a1 48 57).bind (fun r1 => (gB (isC .boolean r1) (some r1)))
abbrev rmX5_isFigure : Room := { frames := 1, cells := 0, slots := 0, locals := 22 }
set_option maxHeartbeats 4000000 in
set_option maxRecDepth 100000 in
theorem c_X5_isFigure (l : Launch) (E : En) (a1 : Int32) (r : Int32) (h : fX5_isFigure a1 = some r) : Met l yX5_isFigure (kX5_isFigure :: BIG) rmX5_isFigure (Pk E [.int a1] (fun _ => True)) (QcRead r) 0 0 (fun _ => False) := by
  refine Mb (by decide) (Nat.le_of_ble_eq_true rfl) ?_
  intro p e s m below meth c ls hx hb hr hlk hB hown hml _ hK hw hl
  have hl : lv_has ls 1 [(0, .int a1)] := hl
  rw [fX5_isFigure] at h
  refine lv_iload_n hx hb dX5_isFigure_0 rfl (lv_at hl 0 rfl) ?_
  refine lv_bipush (v := 48) hx hb dX5_isFigure_1 (by decide) ?_
  refine lv_bipush (v := 57) hx hb dX5_isFigure_3 (by decide) ?_
  obtain ⟨r1, e1, h⟩ := ob h
  refine k_SR ⟨hx, hb, hml, hown, hB⟩ (c_X5_in l E a1 48 57 r1 e1) (clX5_67 hB rfl rfl ⟨Nat.le_of_ble_eq_true rfl, Nat.le_of_ble_eq_true rfl⟩) hK trivial rfl hl.1 rfl (Nat.le_of_ble_eq_true rfl) dX5_isFigure_5 ⟨Nat.zero_le _, Nat.zero_le _⟩ ?_
  obtain ⟨g2, h⟩ := gB_ok h
  exact e_zR hx hb hr hlk (isC_ok g2) h dX5_isFigure_8
def fX5_whoIs (a1 : Int32) : Option (Int32) := if a1 = 0 then some (-4) else some (a1 - 1)
abbrev rmX5_whoIs : Room := { frames := 0, cells := 0, slots := 0, locals := 0 }
set_option maxHeartbeats 4000000 in
set_option maxRecDepth 100000 in
theorem c_X5_whoIs (l : Launch) (E : En) (a1 : Int32) (r : Int32) (h : fX5_whoIs a1 = some r) : Met l yX5_whoIs (kX5_whoIs :: BIG) rmX5_whoIs (Pk E [.int a1] (fun _ => True)) (QcRead r) 0 0 (fun _ => False) := by
  refine Mb (by decide) (Nat.le_of_ble_eq_true rfl) ?_
  intro p e s m below meth c ls hx hb hr hlk hB hown hml _ hK hw hl
  have hl : lv_has ls 1 [(0, .int a1)] := hl
  rw [fX5_whoIs] at h
  refine lv_iload_n hx hb dX5_whoIs_0 rfl (lv_at hl 0 rfl) ?_
  refine lv_if_ne (tgt := 9) hx hb dX5_whoIs_1 (by decide) (fun g1 => ?_) (fun g1 => ?_)
  · rw [if_neg g1] at h
    refine lv_iload_n hx hb dX5_whoIs_9 rfl (lv_at hl 0 rfl) ?_
    refine lv_iconst (v := 1) hx hb dX5_whoIs_10 (by decide) ?_
    refine lv_isub hx hb dX5_whoIs_11 ?_
    exact e_zR hx hb hr hlk rfl h dX5_whoIs_12
  · rw [if_pos g1] at h
    refine lv_bipush (v := (-4)) hx hb dX5_whoIs_4 (by decide) ?_
    refine lv_goto (tgt := 12) hx hb dX5_whoIs_6 (by decide) ?_
    exact e_zR hx hb hr hlk rfl h dX5_whoIs_12
def fJ6_bitCount_0f7a4 (a1 : Int32) : Option (Int32) := some ((((((((a1 - ((((a1).toUInt32 >>> ((1 : Int32).toUInt32 &&& Int32.toUInt32 31)).toInt32) &&& 1431655765)) &&& 858993459) + (((((a1 - ((((a1).toUInt32 >>> ((1 : Int32).toUInt32 &&& Int32.toUInt32 31)).toInt32) &&& 1431655765))).toUInt32 >>> ((2 : Int32).toUInt32 &&& Int32.toUInt32 31)).toInt32) &&& 858993459)) + ((((((a1 - ((((a1).toUInt32 >>> ((1 : Int32).toUInt32 &&& Int32.toUInt32 31)).toInt32) &&& 1431655765)) &&& 858993459) + (((((a1 - ((((a1).toUInt32 >>> ((1 : Int32).toUInt32 &&& Int32.toUInt32 31)).toInt32) &&& 1431655765))).toUInt32 >>> ((2 : Int32).toUInt32 &&& Int32.toUInt32 31)).toInt32) &&& 858993459))).toUInt32 >>> ((4 : Int32).toUInt32 &&& Int32.toUInt32 31)).toInt32)) &&& 252645135) + ((((((((a1 - ((((a1).toUInt32 >>> ((1 : Int32).toUInt32 &&& Int32.toUInt32 31)).toInt32) &&& 1431655765)) &&& 858993459) + (((((a1 - ((((a1).toUInt32 >>> ((1 : Int32).toUInt32 &&& Int32.toUInt32 31)).toInt32) &&& 1431655765))).toUInt32 >>> ((2 : Int32).toUInt32 &&& Int32.toUInt32 31)).toInt32) &&& 858993459)) + ((((((a1 - ((((a1).toUInt32 >>> ((1 : Int32).toUInt32 &&& Int32.toUInt32 31)).toInt32) &&& 1431655765)) &&& 858993459) + (((((a1 - ((((a1).toUInt32 >>> ((1 : Int32).toUInt32 &&& Int32.toUInt32 31)).toInt32) &&& 1431655765))).toUInt32 >>> ((2 : Int32).toUInt32 &&& Int32.toUInt32 31)).toInt32) &&& 858993459))).toUInt32 >>> ((4 : Int32).toUInt32 &&& Int32.toUInt32 31)).toInt32)) &&& 252645135)).toUInt32 >>> ((8 : Int32).toUInt32 &&& Int32.toUInt32 31)).toInt32)) + (((((((((a1 - ((((a1).toUInt32 >>> ((1 : Int32).toUInt32 &&& Int32.toUInt32 31)).toInt32) &&& 1431655765)) &&& 858993459) + (((((a1 - ((((a1).toUInt32 >>> ((1 : Int32).toUInt32 &&& Int32.toUInt32 31)).toInt32) &&& 1431655765))).toUInt32 >>> ((2 : Int32).toUInt32 &&& Int32.toUInt32 31)).toInt32) &&& 858993459)) + ((((((a1 - ((((a1).toUInt32 >>> ((1 : Int32).toUInt32 &&& Int32.toUInt32 31)).toInt32) &&& 1431655765)) &&& 858993459) + (((((a1 - ((((a1).toUInt32 >>> ((1 : Int32).toUInt32 &&& Int32.toUInt32 31)).toInt32) &&& 1431655765))).toUInt32 >>> ((2 : Int32).toUInt32 &&& Int32.toUInt32 31)).toInt32) &&& 858993459))).toUInt32 >>> ((4 : Int32).toUInt32 &&& Int32.toUInt32 31)).toInt32)) &&& 252645135) + ((((((((a1 - ((((a1).toUInt32 >>> ((1 : Int32).toUInt32 &&& Int32.toUInt32 31)).toInt32) &&& 1431655765)) &&& 858993459) + (((((a1 - ((((a1).toUInt32 >>> ((1 : Int32).toUInt32 &&& Int32.toUInt32 31)).toInt32) &&& 1431655765))).toUInt32 >>> ((2 : Int32).toUInt32 &&& Int32.toUInt32 31)).toInt32) &&& 858993459)) + ((((((a1 - ((((a1).toUInt32 >>> ((1 : Int32).toUInt32 &&& Int32.toUInt32 31)).toInt32) &&& 1431655765)) &&& 858993459) + (((((a1 - ((((a1).toUInt32 >>> ((1 : Int32).toUInt32 &&& Int32.toUInt32 31)).toInt32) &&& 1431655765))).toUInt32 >>> ((2 : Int32).toUInt32 &&& Int32.toUInt32 31)).toInt32) &&& 858993459))).toUInt32 >>> ((4 : Int32).toUInt32 &&& Int32.toUInt32 31)).toInt32)) &&& 252645135)).toUInt32 >>> ((8 : Int32).toUInt32 &&& Int32.toUInt32 31)).toInt32))).toUInt32 >>> ((16 : Int32).toUInt32 &&& Int32.toUInt32 31)).toInt32)) &&& 63)
abbrev rmJ6_bitCount_0f7a4 : Room := { frames := 0, cells := 0, slots := 0, locals := 0 }
set_option maxHeartbeats 4000000 in
set_option maxRecDepth 100000 in
theorem c_J6_bitCount_0f7a4 (l : Launch) (E : En) (a1 : Int32) (r : Int32) (h : fJ6_bitCount_0f7a4 a1 = some r) : Met l yJ6_bitCount_0f7a4 (kJ6_bitCount_0f7a4 :: BIG) rmJ6_bitCount_0f7a4 (Pk E [.int a1] (fun _ => True)) (QcRead r) 0 0 (fun _ => False) := by
  refine Mb (by decide) (Nat.le_of_ble_eq_true rfl) ?_
  intro p e s m below meth c ls hx hb hr hlk hB hown hml _ hK hw hl
  have hl : lv_has ls 1 [(0, .int a1)] := hl
  rw [fJ6_bitCount_0f7a4] at h
  refine lv_iload_n hx hb dJ6_bitCount_0f7a4_0 rfl (lv_at hl 0 rfl) ?_
  refine lv_iload_n hx hb dJ6_bitCount_0f7a4_1 rfl (lv_at hl 0 rfl) ?_
  refine lv_iconst (v := 1) hx hb dJ6_bitCount_0f7a4_2 (by decide) ?_
  refine lv_iushr hx hb dJ6_bitCount_0f7a4_3 rfl ?_
  refine lv_ldcw hx hb hown (hB _ kcJ6_265) dJ6_bitCount_0f7a4_4 ?_
  refine lv_iand hx hb dJ6_bitCount_0f7a4_7 ?_
  refine lv_isub hx hb dJ6_bitCount_0f7a4_8 ?_
  refine lv_istore_n (lv' := [(0, .int (a1 - ((((a1).toUInt32 >>> ((1 : Int32).toUInt32 &&& Int32.toUInt32 31)).toInt32) &&& 1431655765)))]) hx hb dJ6_bitCount_0f7a4_9 rfl hl (by decide) rfl (fun ls hl => ?_)
  refine lv_iload_n hx hb dJ6_bitCount_0f7a4_10 rfl (lv_at hl 0 rfl) ?_
  refine lv_ldcw hx hb hown (hB _ kcJ6_266) dJ6_bitCount_0f7a4_11 ?_
  refine lv_iand hx hb dJ6_bitCount_0f7a4_14 ?_
  refine lv_iload_n hx hb dJ6_bitCount_0f7a4_15 rfl (lv_at hl 0 rfl) ?_
  refine lv_iconst (v := 2) hx hb dJ6_bitCount_0f7a4_16 (by decide) ?_
  refine lv_iushr hx hb dJ6_bitCount_0f7a4_17 rfl ?_
  refine lv_ldcw hx hb hown (hB _ kcJ6_266) dJ6_bitCount_0f7a4_18 ?_
  refine lv_iand hx hb dJ6_bitCount_0f7a4_21 ?_
  refine lv_iadd hx hb dJ6_bitCount_0f7a4_22 ?_
  refine lv_istore_n (lv' := [(0, .int (((a1 - ((((a1).toUInt32 >>> ((1 : Int32).toUInt32 &&& Int32.toUInt32 31)).toInt32) &&& 1431655765)) &&& 858993459) + (((((a1 - ((((a1).toUInt32 >>> ((1 : Int32).toUInt32 &&& Int32.toUInt32 31)).toInt32) &&& 1431655765))).toUInt32 >>> ((2 : Int32).toUInt32 &&& Int32.toUInt32 31)).toInt32) &&& 858993459)))]) hx hb dJ6_bitCount_0f7a4_23 rfl hl (by decide) rfl (fun ls hl => ?_)
  refine lv_iload_n hx hb dJ6_bitCount_0f7a4_24 rfl (lv_at hl 0 rfl) ?_
  refine lv_iload_n hx hb dJ6_bitCount_0f7a4_25 rfl (lv_at hl 0 rfl) ?_
  refine lv_iconst (v := 4) hx hb dJ6_bitCount_0f7a4_26 (by decide) ?_
  refine lv_iushr hx hb dJ6_bitCount_0f7a4_27 rfl ?_
  refine lv_iadd hx hb dJ6_bitCount_0f7a4_28 ?_
  refine lv_ldcw hx hb hown (hB _ kcJ6_267) dJ6_bitCount_0f7a4_29 ?_
  refine lv_iand hx hb dJ6_bitCount_0f7a4_32 ?_
  refine lv_istore_n (lv' := [(0, .int (((((a1 - ((((a1).toUInt32 >>> ((1 : Int32).toUInt32 &&& Int32.toUInt32 31)).toInt32) &&& 1431655765)) &&& 858993459) + (((((a1 - ((((a1).toUInt32 >>> ((1 : Int32).toUInt32 &&& Int32.toUInt32 31)).toInt32) &&& 1431655765))).toUInt32 >>> ((2 : Int32).toUInt32 &&& Int32.toUInt32 31)).toInt32) &&& 858993459)) + ((((((a1 - ((((a1).toUInt32 >>> ((1 : Int32).toUInt32 &&& Int32.toUInt32 31)).toInt32) &&& 1431655765)) &&& 858993459) + (((((a1 - ((((a1).toUInt32 >>> ((1 : Int32).toUInt32 &&& Int32.toUInt32 31)).toInt32) &&& 1431655765))).toUInt32 >>> ((2 : Int32).toUInt32 &&& Int32.toUInt32 31)).toInt32) &&& 858993459))).toUInt32 >>> ((4 : Int32).toUInt32 &&& Int32.toUInt32 31)).toInt32)) &&& 252645135))]) hx hb dJ6_bitCount_0f7a4_33 rfl hl (by decide) rfl (fun ls hl => ?_)
  refine lv_iload_n hx hb dJ6_bitCount_0f7a4_34 rfl (lv_at hl 0 rfl) ?_
  refine lv_iload_n hx hb dJ6_bitCount_0f7a4_35 rfl (lv_at hl 0 rfl) ?_
  refine lv_bipush (v := 8) hx hb dJ6_bitCount_0f7a4_36 (by decide) ?_
  refine lv_iushr hx hb dJ6_bitCount_0f7a4_38 rfl ?_
  refine lv_iadd hx hb dJ6_bitCount_0f7a4_39 ?_
  refine lv_istore_n (lv' := [(0, .int ((((((a1 - ((((a1).toUInt32 >>> ((1 : Int32).toUInt32 &&& Int32.toUInt32 31)).toInt32) &&& 1431655765)) &&& 858993459) + (((((a1 - ((((a1).toUInt32 >>> ((1 : Int32).toUInt32 &&& Int32.toUInt32 31)).toInt32) &&& 1431655765))).toUInt32 >>> ((2 : Int32).toUInt32 &&& Int32.toUInt32 31)).toInt32) &&& 858993459)) + ((((((a1 - ((((a1).toUInt32 >>> ((1 : Int32).toUInt32 &&& Int32.toUInt32 31)).toInt32) &&& 1431655765)) &&& 858993459) + (((((a1 - ((((a1).toUInt32 >>> ((1 : Int32).toUInt32 &&& Int32.toUInt32 31)).toInt32) &&& 1431655765))).toUInt32 >>> ((2 : Int32).toUInt32 &&& Int32.toUInt32 31)).toInt32) &&& 858993459))).toUInt32 >>> ((4 : Int32).toUInt32 &&& Int32.toUInt32 31)).toInt32)) &&& 252645135) + ((((((((a1 - ((((a1).toUInt32 >>> ((1 : Int32).toUInt32 &&& Int32.toUInt32 31)).toInt32) &&& 1431655765)) &&& 858993459) + (((((a1 - ((((a1).toUInt32 >>> ((1 : Int32).toUInt32 &&& Int32.toUInt32 31)).toInt32) &&& 1431655765))).toUInt32 >>> ((2 : Int32).toUInt32 &&& Int32.toUInt32 31)).toInt32) &&& 858993459)) + ((((((a1 - ((((a1).toUInt32 >>> ((1 : Int32).toUInt32 &&& Int32.toUInt32 31)).toInt32) &&& 1431655765)) &&& 858993459) + (((((a1 - ((((a1).toUInt32 >>> ((1 : Int32).toUInt32 &&& Int32.toUInt32 31)).toInt32) &&& 1431655765))).toUInt32 >>> ((2 : Int32).toUInt32 &&& Int32.toUInt32 31)).toInt32) &&& 858993459))).toUInt32 >>> ((4 : Int32).toUInt32 &&& Int32.toUInt32 31)).toInt32)) &&& 252645135)).toUInt32 >>> ((8 : Int32).toUInt32 &&& Int32.toUInt32 31)).toInt32)))]) hx hb dJ6_bitCount_0f7a4_40 rfl hl (by decide) rfl (fun ls hl => ?_)
  refine lv_iload_n hx hb dJ6_bitCount_0f7a4_41 rfl (lv_at hl 0 rfl) ?_
  refine lv_iload_n hx hb dJ6_bitCount_0f7a4_42 rfl (lv_at hl 0 rfl) ?_
  refine lv_bipush (v := 16) hx hb dJ6_bitCount_0f7a4_43 (by decide) ?_
  refine lv_iushr hx hb dJ6_bitCount_0f7a4_45 rfl ?_
  refine lv_iadd hx hb dJ6_bitCount_0f7a4_46 ?_
  refine lv_istore_n (lv' := [(0, .int (((((((a1 - ((((a1).toUInt32 >>> ((1 : Int32).toUInt32 &&& Int32.toUInt32 31)).toInt32) &&& 1431655765)) &&& 858993459) + (((((a1 - ((((a1).toUInt32 >>> ((1 : Int32).toUInt32 &&& Int32.toUInt32 31)).toInt32) &&& 1431655765))).toUInt32 >>> ((2 : Int32).toUInt32 &&& Int32.toUInt32 31)).toInt32) &&& 858993459)) + ((((((a1 - ((((a1).toUInt32 >>> ((1 : Int32).toUInt32 &&& Int32.toUInt32 31)).toInt32) &&& 1431655765)) &&& 858993459) + (((((a1 - ((((a1).toUInt32 >>> ((1 : Int32).toUInt32 &&& Int32.toUInt32 31)).toInt32) &&& 1431655765))).toUInt32 >>> ((2 : Int32).toUInt32 &&& Int32.toUInt32 31)).toInt32) &&& 858993459))).toUInt32 >>> ((4 : Int32).toUInt32 &&& Int32.toUInt32 31)).toInt32)) &&& 252645135) + ((((((((a1 - ((((a1).toUInt32 >>> ((1 : Int32).toUInt32 &&& Int32.toUInt32 31)).toInt32) &&& 1431655765)) &&& 858993459) + (((((a1 - ((((a1).toUInt32 >>> ((1 : Int32).toUInt32 &&& Int32.toUInt32 31)).toInt32) &&& 1431655765))).toUInt32 >>> ((2 : Int32).toUInt32 &&& Int32.toUInt32 31)).toInt32) &&& 858993459)) + ((((((a1 - ((((a1).toUInt32 >>> ((1 : Int32).toUInt32 &&& Int32.toUInt32 31)).toInt32) &&& 1431655765)) &&& 858993459) + (((((a1 - ((((a1).toUInt32 >>> ((1 : Int32).toUInt32 &&& Int32.toUInt32 31)).toInt32) &&& 1431655765))).toUInt32 >>> ((2 : Int32).toUInt32 &&& Int32.toUInt32 31)).toInt32) &&& 858993459))).toUInt32 >>> ((4 : Int32).toUInt32 &&& Int32.toUInt32 31)).toInt32)) &&& 252645135)).toUInt32 >>> ((8 : Int32).toUInt32 &&& Int32.toUInt32 31)).toInt32)) + (((((((((a1 - ((((a1).toUInt32 >>> ((1 : Int32).toUInt32 &&& Int32.toUInt32 31)).toInt32) &&& 1431655765)) &&& 858993459) + (((((a1 - ((((a1).toUInt32 >>> ((1 : Int32).toUInt32 &&& Int32.toUInt32 31)).toInt32) &&& 1431655765))).toUInt32 >>> ((2 : Int32).toUInt32 &&& Int32.toUInt32 31)).toInt32) &&& 858993459)) + ((((((a1 - ((((a1).toUInt32 >>> ((1 : Int32).toUInt32 &&& Int32.toUInt32 31)).toInt32) &&& 1431655765)) &&& 858993459) + (((((a1 - ((((a1).toUInt32 >>> ((1 : Int32).toUInt32 &&& Int32.toUInt32 31)).toInt32) &&& 1431655765))).toUInt32 >>> ((2 : Int32).toUInt32 &&& Int32.toUInt32 31)).toInt32) &&& 858993459))).toUInt32 >>> ((4 : Int32).toUInt32 &&& Int32.toUInt32 31)).toInt32)) &&& 252645135) + ((((((((a1 - ((((a1).toUInt32 >>> ((1 : Int32).toUInt32 &&& Int32.toUInt32 31)).toInt32) &&& 1431655765)) &&& 858993459) + (((((a1 - ((((a1).toUInt32 >>> ((1 : Int32).toUInt32 &&& Int32.toUInt32 31)).toInt32) &&& 1431655765))).toUInt32 >>> ((2 : Int32).toUInt32 &&& Int32.toUInt32 31)).toInt32) &&& 858993459)) + ((((((a1 - ((((a1).toUInt32 >>> ((1 : Int32).toUInt32 &&& Int32.toUInt32 31)).toInt32) &&& 1431655765)) &&& 858993459) + (((((a1 - ((((a1).toUInt32 >>> ((1 : Int32).toUInt32 &&& Int32.toUInt32 31)).toInt32) &&& 1431655765))).toUInt32 >>> ((2 : Int32).toUInt32 &&& Int32.toUInt32 31)).toInt32) &&& 858993459))).toUInt32 >>> ((4 : Int32).toUInt32 &&& Int32.toUInt32 31)).toInt32)) &&& 252645135)).toUInt32 >>> ((8 : Int32).toUInt32 &&& Int32.toUInt32 31)).toInt32))).toUInt32 >>> ((16 : Int32).toUInt32 &&& Int32.toUInt32 31)).toInt32)))]) hx hb dJ6_bitCount_0f7a4_47 rfl hl (by decide) rfl (fun ls hl => ?_)
  refine lv_iload_n hx hb dJ6_bitCount_0f7a4_48 rfl (lv_at hl 0 rfl) ?_
  refine lv_bipush (v := 63) hx hb dJ6_bitCount_0f7a4_49 (by decide) ?_
  refine lv_iand hx hb dJ6_bitCount_0f7a4_51 ?_
  exact e_zR hx hb hr hlk rfl h dJ6_bitCount_0f7a4_52
