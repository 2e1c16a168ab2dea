def fX0_gather_L20 (i1 : Nat) : Nat → Int32 → YS → OS → Option (YS × OS)
  | 0, _, _, _ => none
  | n_20 + 1, v2_20, Y_20, o_20 => if (o_20 6 1) ≤ v2_20 then some (Y_20, o_20) else (fX3_visitedBy (Y_20 i1) v2_20).bind (fun r2 => ((fX3_plotOf (Y_20 i1) r2).bind (fun r3 => ((fX3_villageOf (Y_20 i1) r2).bind (fun r4 => (gB (ib v2_20 6) (gB (ib v2_20 6) ((fX3_minutesOf (Y_20 i1) v2_20).bind (fun r9 => (gB (ib v2_20 6) (if r3 = (-4) then fX0_gather_L20 i1 n_20 (v2_20 + 1) Y_20 (u2 (u2 (u2 o_20 7 v2_20.toNatClampNeg r4) 8 v2_20.toNatClampNeg (r3 + 1)) 9 v2_20.toNatClampNeg r9) else fX0_gather_L20 i1 n_20 (v2_20 + 1) Y_20 (u2 (u2 (u2 (u2 o_20 7 v2_20.toNatClampNeg r4) 8 v2_20.toNatClampNeg (r3 + 1)) 9 v2_20.toNatClampNeg r9) 6 0 (((u2 (u2 (u2 o_20 7 v2_20.toNatClampNeg r4) 8 v2_20.toNatClampNeg (r3 + 1)) 9 v2_20.toNatClampNeg r9) 6 0) ||| (1 <<< (v2_20 &&& 31)))))))))))))))
def fX0_gather (Y : YS) (o : OS) (i1 : Nat) : Option (YS × OS) := fX0_gather_L20 i1 FU 0 Y (u2 (u2 o 6 0 0) 6 1 (if 6 < (Y i1 0 3) then 6 else (Y i1 0 3)))
abbrev rmX0_gather : Room := { frames := 3, cells := 0, slots := 0, locals := 67 }
set_option maxHeartbeats 4000000 in
set_option maxRecDepth 100000 in
theorem c_X0_gather (l : Launch) (E : En) (aY : Nat → Nat → Nat) (ao : Nat → Nat) (Y : YS) (o : OS) (i1 : Nat) (hi1 : i1 < 13) (r : YS × OS) (h : fX0_gather Y o i1 = some r) : Met l yX0_gather (kX0_gather :: BIG) rmX0_gather (Pk E [.ref (ao 6), .ref (aY i1 0)] (CW E aY ao Y o)) (QW none (AC aY ao) (CW E aY ao r.1 r.2)) 0 0 (AC aY ao) := by
  refine Mb (by decide) (Nat.le_of_ble_eq_true rfl) ?_
  intro p e s m below meth c ls hx hb hr hlk hB hown hml _ hK hw hl
  have hS : va_S (AC aY ao) s.heap s.heap [] := va_S.rf
  have hl : lv_has ls 5 [(0, .ref (ao 6)), (1, .ref (aY i1 0))] := hl
  rw [fX0_gather] at h
  have hL20 : ∀ (n_20 : Nat) (v2_20 : Int32) (Y_20 : YS) (o_20 : OS) (H_20 : Heap) (L_20 : List Loc) (ls_20 : Array Slot), lv_has ls_20 5 [(0, .ref (ao 6)), (1, .ref (aY i1 0)), (2, .int v2_20)] → CW E aY ao Y_20 o_20 H_20 → va_S (AC aY ao) s.heap H_20 L_20 → fX0_gather_L20 i1 n_20 v2_20 Y_20 o_20 = some r → W p l e rmX0_gather s m ([.ref (ao 6), .ref (aY i1 0)] : List Value).toArray below meth c H_20 L_20 0 0 (MQ below (QW none (AC aY ao) (CW E aY ao r.1 r.2)) ([.ref (ao 6), .ref (aY i1 0)] : List Value).toArray s 0 0 (AC aY ao)) (F0 m 20 ls_20 []) := by
    intro n_20
    induction n_20 with
    | zero =>
      intro v2_20 Y_20 o_20 H_20 L_20 ls_20 hl hw hS h
      exact nn h
    | succ n_20 ih_20 =>
      intro v2_20 Y_20 o_20 H_20 L_20 ls_20 hl hw hS h
      rw [fX0_gather_L20] at h
      refine lv_iload_n hx hb dX0_gather_20 rfl (lv_at hl 2 rfl) ?_
      refine lv_aload_n hx hb dX0_gather_21 rfl (lv_at hl 0 rfl) ?_
      refine gX0_45 hx hb hB hown hK hw dX0_gather_22 ?_
      refine lv_icmp_ge (tgt := 98) hx hb dX0_gather_25 (by decide) (fun g1 => ?_) (fun g1 => ?_)
      · rw [if_pos g1] at h
        cases h
        exact e_vW hx hb hr hlk hw hS dX0_gather_98
      · rw [if_neg g1] at h
        refine lv_aload_n hx hb dX0_gather_28 rfl (lv_at hl 1 rfl) ?_
        refine lv_iload_n hx hb dX0_gather_29 rfl (lv_at hl 2 rfl) ?_
        obtain ⟨r2, e2, h⟩ := ob h
        refine k_VR ⟨hx, hb, hml, hown, hB⟩ (c_X3_visitedBy l E (aY i1) (Y_20 i1) v2_20 r2 e2) (clX0_48 hB rfl rfl ⟨Nat.le_of_ble_eq_true rfl, Nat.le_of_ble_eq_true rfl⟩) hK (hw.yd hi1) (rvY hK (hw.yd hi1)) rfl hl.1 rfl (Nat.le_of_ble_eq_true rfl) dX0_gather_30 ⟨Nat.zero_le _, Nat.zero_le _⟩ ?_
        refine lv_istore_n (lv' := [(3, .int r2), (0, .ref (ao 6)), (1, .ref (aY i1 0)), (2, .int v2_20)]) hx hb dX0_gather_33 rfl hl (by decide) rfl (fun ls hl => ?_)
        refine lv_aload_n hx hb dX0_gather_34 rfl (lv_at hl 2 rfl) ?_
        refine lv_iload_n hx hb dX0_gather_35 rfl (lv_at hl 0 rfl) ?_
        obtain ⟨r3, e3, h⟩ := ob h
        refine k_VR ⟨hx, hb, hml, hown, hB⟩ (c_X3_plotOf l E (aY i1) (Y_20 i1) r2 r3 e3) (clX0_52 hB rfl rfl ⟨Nat.le_of_ble_eq_true rfl, Nat.le_of_ble_eq_true rfl⟩) hK (hw.yd hi1) (rvY hK (hw.yd hi1)) rfl hl.1 rfl (Nat.le_of_ble_eq_true rfl) dX0_gather_36 ⟨Nat.zero_le _, Nat.zero_le _⟩ ?_
        refine lv_istore (lv' := [(4, .int r3), (3, .int r2), (0, .ref (ao 6)), (1, .ref (aY i1 0)), (2, .int v2_20)]) hx hb dX0_gather_39 hl (by decide) rfl (fun ls hl => ?_)
        refine lv_aload_n hx hb dX0_gather_41 rfl (lv_at hl 2 rfl) ?_
        refine gX0_9 hx hb hB hown hK hw dX0_gather_42 ?_
        refine lv_iload_n hx hb dX0_gather_45 rfl (lv_at hl 4 rfl) ?_
        refine lv_aload_n hx hb dX0_gather_46 rfl (lv_at hl 3 rfl) ?_
        refine lv_iload_n hx hb dX0_gather_47 rfl (lv_at hl 1 rfl) ?_
        obtain ⟨r4, e4, h⟩ := ob h
        refine k_VR ⟨hx, hb, hml, hown, hB⟩ (c_X3_villageOf l E (aY i1) (Y_20 i1) r2 r4 e4) (clX0_55 hB rfl rfl ⟨Nat.le_of_ble_eq_true rfl, Nat.le_of_ble_eq_true rfl⟩) hK (hw.yd hi1) (rvY hK (hw.yd hi1)) rfl hl.1 rfl (Nat.le_of_ble_eq_true rfl) dX0_gather_48 ⟨Nat.zero_le _, Nat.zero_le _⟩ ?_
        obtain ⟨g5, h⟩ := gB_ok h
        refine sO7 hx hb hK hw hS (fun _ z => z) (ib_ok g5) dX0_gather_51 (fun H6 L6 hw hS => ?_)
        refine lv_aload_n hx hb dX0_gather_52 rfl (lv_at hl 2 rfl) ?_
        refine gX0_15 hx hb hB hown hK hw dX0_gather_53 ?_
        refine lv_iload_n hx hb dX0_gather_56 rfl (lv_at hl 4 rfl) ?_
        refine lv_iload hx hb dX0_gather_57 (lv_at hl 0 rfl) ?_
        refine lv_iconst (v := 1) hx hb dX0_gather_59 (by decide) ?_
        refine lv_iadd hx hb dX0_gather_60 ?_
        obtain ⟨g7, h⟩ := gB_ok h
        refine sO8 hx hb hK hw hS (fun _ z => z) (ib_ok g7) dX0_gather_61 (fun H8 L8 hw hS => ?_)
        refine lv_aload_n hx hb dX0_gather_62 rfl (lv_at hl 2 rfl) ?_
        refine gX0_18 hx hb hB hown hK hw dX0_gather_63 ?_
        refine lv_iload_n hx hb dX0_gather_66 rfl (lv_at hl 4 rfl) ?_
        refine lv_aload_n hx hb dX0_gather_67 rfl (lv_at hl 3 rfl) ?_
        refine lv_iload_n hx hb dX0_gather_68 rfl (lv_at hl 4 rfl) ?_
        obtain ⟨r9, e9, h⟩ := ob h
        refine k_VR ⟨hx, hb, hml, hown, hB⟩ (c_X3_minutesOf l E (aY i1) (Y_20 i1) v2_20 r9 e9) (clX0_58 hB rfl rfl ⟨Nat.le_of_ble_eq_true rfl, Nat.le_of_ble_eq_true rfl⟩) hK (hw.yd hi1) (rvY hK (hw.yd hi1)) rfl hl.1 rfl (Nat.le_of_ble_eq_true rfl) dX0_gather_69 ⟨Nat.zero_le _, Nat.zero_le _⟩ ?_
        obtain ⟨g10, h⟩ := gB_ok h
        refine sO9 hx hb hK hw hS (fun _ z => z) (ib_ok g10) dX0_gather_72 (fun H11 L11 hw hS => ?_)
        refine lv_iload hx hb dX0_gather_73 (lv_at hl 0 rfl) ?_
        refine lv_bipush (v := (-4)) hx hb dX0_gather_75 (by decide) ?_
        refine lv_icmp_eq (tgt := 92) hx hb dX0_gather_77 (by decide) (fun g12 => ?_) (fun g12 => ?_)
        · rw [if_pos g12] at h
          refine lv_iinc (v := (v2_20 + 1)) (lv' := [(2, .int (v2_20 + 1)), (4, .int r3), (3, .int r2), (0, .ref (ao 6)), (1, .ref (aY i1 0))]) hx hb dX0_gather_92 hl (k := 4) rfl rfl (by decide) rfl (fun ls hl => ?_)
          refine lv_goto (tgt := 20) hx hb dX0_gather_95 (by decide) ?_
          exact ih_20 (v2_20 + 1) Y_20 (u2 (u2 (u2 o_20 7 v2_20.toNatClampNeg r4) 8 v2_20.toNatClampNeg (r3 + 1)) 9 v2_20.toNatClampNeg r9) _ _ _ (lv_sub hl [3, 4, 0] rfl) hw hS h
        · rw [if_neg g12] at h
          refine lv_aload_n hx hb dX0_gather_80 rfl (lv_at hl 2 rfl) ?_
          refine lv_dup hx hb dX0_gather_81 rfl ?_
          refine gX0_30 hx hb hB hown hK hw dX0_gather_82 ?_
          refine lv_iconst (v := 1) hx hb dX0_gather_85 (by decide) ?_
          refine lv_iload_n hx hb dX0_gather_86 rfl (lv_at hl 4 rfl) ?_
          refine lv_ishl hx hb dX0_gather_87 ?_
          refine lv_ior hx hb dX0_gather_88 ?_
          refine pX0_30 hx hb hB hown hK hw hS (fun _ z => z) dX0_gather_89 (fun H13 L13 hw hS => ?_)
          refine lv_iinc (v := (v2_20 + 1)) (lv' := [(2, .int (v2_20 + 1)), (4, .int r3), (3, .int r2), (0, .ref (ao 6)), (1, .ref (aY i1 0))]) hx hb dX0_gather_92 hl (k := 4) rfl rfl (by decide) rfl (fun ls hl => ?_)
          refine lv_goto (tgt := 20) hx hb dX0_gather_95 (by decide) ?_
          exact ih_20 (v2_20 + 1) Y_20 (u2 (u2 (u2 (u2 o_20 7 v2_20.toNatClampNeg r4) 8 v2_20.toNatClampNeg (r3 + 1)) 9 v2_20.toNatClampNeg r9) 6 0 (((u2 (u2 (u2 o_20 7 v2_20.toNatClampNeg r4) 8 v2_20.toNatClampNeg (r3 + 1)) 9 v2_20.toNatClampNeg r9) 6 0) ||| (1 <<< (v2_20 &&& 31)))) _ _ _ (lv_sub hl [3, 4, 0] rfl) hw hS h
  refine lv_aload_n hx hb dX0_gather_0 rfl (lv_at hl 0 rfl) ?_
  refine lv_iconst (v := 0) hx hb dX0_gather_1 (by decide) ?_
  refine pX0_30 hx hb hB hown hK hw hS (fun _ z => z) dX0_gather_2 (fun H14 L14 hw hS => ?_)
  refine lv_aload_n hx hb dX0_gather_5 rfl (lv_at hl 0 rfl) ?_
  refine lv_aload_n hx hb dX0_gather_6 rfl (lv_at hl 1 rfl) ?_
  refine gX0_34 hx hb hB hown hK (hw.yd hi1) dX0_gather_7 ?_
  refine lv_bipush (v := 6) hx hb dX0_gather_10 (by decide) ?_
  refine va_mmin hx hb (hml.trans hl.1.symm) hown (hB _ mlX0_39) (hB _ smMath_min) (hB _ iniMath) (hB _ mcMath_min) (Nat.le_of_ble_eq_true rfl) (Nat.le_of_ble_eq_true rfl) (Nat.zero_le _) (Nat.zero_le _) dX0_gather_12 ?_
  refine pX0_45 hx hb hB hown hK hw hS (fun _ z => z) dX0_gather_15 (fun H15 L15 hw hS => ?_)
  refine lv_iconst (v := 0) hx hb dX0_gather_18 (by decide) ?_
  refine lv_istore_n (lv' := [(2, .int 0), (0, .ref (ao 6)), (1, .ref (aY i1 0))]) hx hb dX0_gather_19 rfl hl (by decide) rfl (fun ls hl => ?_)
  exact hL20 FU 0 Y (u2 (u2 o 6 0 0) 6 1 (if 6 < (Y i1 0 3) then 6 else (Y i1 0 3))) _ _ _ (lv_sub hl [1, 2, 0] rfl) hw hS h
def fX0_begin (Y : YS) (o : OS) : Option (YS × OS) := some (Y, (u2 (u2 (u2 o 6 8 0) 6 9 (-4)) 6 10 0))
abbrev rmX0_begin : Room := { frames := 0, cells := 0, slots := 0, locals := 0 }
set_option maxHeartbeats 4000000 in
set_option maxRecDepth 100000 in
theorem c_X0_begin (l : Launch) (E : En) (aY : Nat → Nat → Nat) (ao : Nat → Nat) (Y : YS) (o : OS) (r : YS × OS) (h : fX0_begin Y o = some r) : Met l yX0_begin (kX0_begin :: BIG) rmX0_begin (Pk E [.ref (ao 6)] (CW E aY ao Y o)) (QW none (AC aY ao) (CW E aY ao r.1 r.2)) 0 0 (AC aY ao) := by
  refine Mb (by decide) (Nat.le_of_ble_eq_true rfl) ?_
  intro p e s m below meth c ls hx hb hr hlk hB hown hml _ hK hw hl
  have hS : va_S (AC aY ao) s.heap s.heap [] := va_S.rf
  have hl : lv_has ls 1 [(0, .ref (ao 6))] := hl
  rw [fX0_begin] at h
  refine lv_aload_n hx hb dX0_begin_0 rfl (lv_at hl 0 rfl) ?_
  refine lv_iconst (v := 0) hx hb dX0_begin_1 (by decide) ?_
  refine pX0_92 hx hb hB hown hK hw hS (fun _ z => z) dX0_begin_2 (fun H1 L1 hw hS => ?_)
  refine lv_aload_n hx hb dX0_begin_5 rfl (lv_at hl 0 rfl) ?_
  refine lv_bipush (v := (-4)) hx hb dX0_begin_6 (by decide) ?_
  refine pX0_95 hx hb hB hown hK hw hS (fun _ z => z) dX0_begin_8 (fun H2 L2 hw hS => ?_)
  refine lv_aload_n hx hb dX0_begin_11 rfl (lv_at hl 0 rfl) ?_
  refine lv_iconst (v := 0) hx hb dX0_begin_12 (by decide) ?_
  refine pX0_98 hx hb hB hown hK hw hS (fun _ z => z) dX0_begin_13 (fun H3 L3 hw hS => ?_)
  cases h
  exact e_vW hx hb hr hlk hw hS dX0_begin_16
def fX0_isGoer (Y : YS) (o : OS) (a1 : Int32) : Option (Int32) := if a1 < 0 then some 0 else if 6 ≤ a1 then some 0 else if (((o 6 0) >>> (a1 &&& 31)) &&& 1) = 1 then some 1 else some 0
abbrev rmX0_isGoer : Room := { frames := 0, cells := 0, slots := 0, locals := 0 }
set_option maxHeartbeats 4000000 in
set_option maxRecDepth 100000 in
theorem c_X0_isGoer (l : Launch) (E : En) (aY : Nat → Nat → Nat) (ao : Nat → Nat) (Y : YS) (o : OS) (a1 : Int32) (r : Int32) (h : fX0_isGoer Y o a1 = some r) : Met l yX0_isGoer (kX0_isGoer :: BIG) rmX0_isGoer (Pk E [.ref (ao 6), .int a1] (CW E aY ao Y o)) (QcRead r) 0 0 (fun _ => False) := by
  refine Mb (by decide) (Nat.le_of_ble_eq_true rfl) ?_
  intro p e s m below meth c ls hx hb hr hlk hB hown hml _ hK hw hl
  have hl : lv_has ls 2 [(0, .ref (ao 6)), (1, .int a1)] := hl
  rw [fX0_isGoer] at h
  refine lv_iload_n hx hb dX0_isGoer_0 rfl (lv_at hl 1 rfl) ?_
  refine lv_if_lt (tgt := 26) hx hb dX0_isGoer_1 (by decide) (fun g1 => ?_) (fun g1 => ?_)
  · rw [if_pos g1] at h
    refine lv_iconst (v := 0) hx hb dX0_isGoer_26 (by decide) ?_
    exact e_zR hx hb hr hlk (by decide) h dX0_isGoer_27
  · rw [if_neg g1] at h
    refine lv_iload_n hx hb dX0_isGoer_4 rfl (lv_at hl 1 rfl) ?_
    refine lv_bipush (v := 6) hx hb dX0_isGoer_5 (by decide) ?_
    refine lv_icmp_ge (tgt := 26) hx hb dX0_isGoer_7 (by decide) (fun g2 => ?_) (fun g2 => ?_)
    · rw [if_pos g2] at h
      refine lv_iconst (v := 0) hx hb dX0_isGoer_26 (by decide) ?_
      exact e_zR hx hb hr hlk (by decide) h dX0_isGoer_27
    · rw [if_neg g2] at h
      refine lv_aload_n hx hb dX0_isGoer_10 rfl (lv_at hl 0 rfl) ?_
      refine gX0_30 hx hb hB hown hK hw dX0_isGoer_11 ?_
      refine lv_iload_n hx hb dX0_isGoer_14 rfl (lv_at hl 1 rfl) ?_
      refine lv_ishr hx hb dX0_isGoer_15 ?_
      refine lv_iconst (v := 1) hx hb dX0_isGoer_16 (by decide) ?_
      refine lv_iand hx hb dX0_isGoer_17 ?_
      refine lv_iconst (v := 1) hx hb dX0_isGoer_18 (by decide) ?_
      refine lv_icmp_ne (tgt := 26) hx hb dX0_isGoer_19 (by decide) (fun g3 => ?_) (fun g3 => ?_)
      · rw [if_neg g3] at h
        refine lv_iconst (v := 0) hx hb dX0_isGoer_26 (by decide) ?_
        exact e_zR hx hb hr hlk (by decide) h dX0_isGoer_27
      · rw [if_pos g3] at h
        refine lv_iconst (v := 1) hx hb dX0_isGoer_22 (by decide) ?_
        refine lv_goto (tgt := 27) hx hb dX0_isGoer_23 (by decide) ?_
        exact e_zR hx hb hr hlk (by decide) h dX0_isGoer_27
def fX0_isSomebodyYonder (Y : YS) (o : OS) : Option (Int32) := if (o 6 9) < 0 then some 0 else if 6 ≤ (o 6 9) then some 0 else some 1
abbrev rmX0_isSomebodyYonder : Room := { frames := 0, cells := 0, slots := 0, locals := 0 }
set_option maxHeartbeats 4000000 in
set_option maxRecDepth 100000 in
theorem c_X0_isSomebodyYonder (l : Launch) (E : En) (aY : Nat → Nat → Nat) (ao : Nat → Nat) (Y : YS) (o : OS) (r : Int32) (h : fX0_isSomebodyYonder Y o = some r) : Met l yX0_isSomebodyYonder (kX0_isSomebodyYonder :: BIG) rmX0_isSomebodyYonder (Pk E [.ref (ao 6)] (CW E aY ao Y o)) (QcRead r) 0 0 (fun _ => False) := by
  refine Mb (by decide) (Nat.le_of_ble_eq_true rfl) ?_
  intro p e s m below meth c ls hx hb hr hlk hB hown hml _ hK hw hl
  have hl : lv_has ls 1 [(0, .ref (ao 6))] := hl
  rw [fX0_isSomebodyYonder] at h
  refine lv_aload_n hx hb dX0_isSomebodyYonder_0 rfl (lv_at hl 0 rfl) ?_
  refine gX0_95 hx hb hB hown hK hw dX0_isSomebodyYonder_1 ?_
  refine lv_if_lt (tgt := 20) hx hb dX0_isSomebodyYonder_4 (by decide) (fun g1 => ?_) (fun g1 => ?_)
  · rw [if_pos g1] at h
    refine lv_iconst (v := 0) hx hb dX0_isSomebodyYonder_20 (by decide) ?_
    exact e_zR hx hb hr hlk (by decide) h dX0_isSomebodyYonder_21
  · rw [if_neg g1] at h
    refine lv_aload_n hx hb dX0_isSomebodyYonder_7 rfl (lv_at hl 0 rfl) ?_
    refine gX0_95 hx hb hB hown hK hw dX0_isSomebodyYonder_8 ?_
    refine lv_bipush (v := 6) hx hb dX0_isSomebodyYonder_11 (by decide) ?_
    refine lv_icmp_ge (tgt := 20) hx hb dX0_isSomebodyYonder_13 (by decide) (fun g2 => ?_) (fun g2 => ?_)
    · rw [if_pos g2] at h
      refine lv_iconst (v := 0) hx hb dX0_isSomebodyYonder_20 (by decide) ?_
      exact e_zR hx hb hr hlk (by decide) h dX0_isSomebodyYonder_21
    · rw [if_neg g2] at h
      refine lv_iconst (v := 1) hx hb dX0_isSomebodyYonder_16 (by decide) ?_
      refine lv_goto (tgt := 21) hx hb dX0_isSomebodyYonder_17 (by decide) ?_
      exact e_zR hx hb hr hlk (by decide) h dX0_isSomebodyYonder_21
def fX0_whenAllAreBack (Y : YS) (o : OS) : Option (Int32) := (fX0_isSomebodyYonder Y o).bind (fun r1 => (if r1 = 0 then some (o 6 8) else gB (ib (o 6 9) 6) (some ((if (o 6 8) < (o 6 10) then (o 6 10) else (o 6 8)) + (o 9 (o 6 9).toNatClampNeg)))))
abbrev rmX0_whenAllAreBack : Room := { frames := 1, cells := 0, slots := 0, locals := 40 }
set_option maxHeartbeats 4000000 in
set_option maxRecDepth 100000 in
theorem c_X0_whenAllAreBack (l : Launch) (E : En) (aY : Nat → Nat → Nat) (ao : Nat → Nat) (Y : YS) (o : OS) (r : Int32) (h : fX0_whenAllAreBack Y o = some r) : Met l yX0_whenAllAreBack (kX0_whenAllAreBack :: BIG) rmX0_whenAllAreBack (Pk E [.ref (ao 6)] (CW E aY ao Y o)) (QcRead r) 0 0 (fun _ => False) := by
  refine Mb (by decide) (Nat.le_of_ble_eq_true rfl) ?_
  intro p e s m below meth c ls hx hb hr hlk hB hown hml _ hK hw hl
  have hl : lv_has ls 1 [(0, .ref (ao 6))] := hl
  rw [fX0_whenAllAreBack] at h
  refine lv_aload_n hx hb dX0_whenAllAreBack_0 rfl (lv_at hl 0 rfl) ?_
  obtain ⟨r1, e1, h⟩ := ob h
  refine k_VR ⟨hx, hb, hml, hown, hB⟩ (c_X0_isSomebodyYonder l E aY ao Y o r1 e1) (clX0_101 hB rfl rfl ⟨Nat.le_of_ble_eq_true rfl, Nat.le_of_ble_eq_true rfl⟩) hK hw (rvO6 hK hw) rfl hl.1 rfl (Nat.le_of_ble_eq_true rfl) dX0_whenAllAreBack_1 ⟨Nat.zero_le _, Nat.zero_le _⟩ ?_
  refine lv_if_eq (tgt := 31) hx hb dX0_whenAllAreBack_4 (by decide) (fun g2 => ?_) (fun g2 => ?_)
  · rw [if_pos g2] at h
    refine lv_aload_n hx hb dX0_whenAllAreBack_31 rfl (lv_at hl 0 rfl) ?_
    refine gX0_92 hx hb hB hown hK hw dX0_whenAllAreBack_32 ?_
    exact e_zR hx hb hr hlk rfl h dX0_whenAllAreBack_35
  · rw [if_neg g2] at h
    refine lv_aload_n hx hb dX0_whenAllAreBack_7 rfl (lv_at hl 0 rfl) ?_
    refine gX0_92 hx hb hB hown hK hw dX0_whenAllAreBack_8 ?_
    refine lv_aload_n hx hb dX0_whenAllAreBack_11 rfl (lv_at hl 0 rfl) ?_
    refine gX0_98 hx hb hB hown hK hw dX0_whenAllAreBack_12 ?_
    refine va_mmax hx hb (hml.trans hl.1.symm) hown (hB _ mlX0_108) (hB _ smMath_max) (hB _ iniMath) (hB _ mcMath_max) (Nat.le_of_ble_eq_true rfl) (Nat.le_of_ble_eq_true rfl) (Nat.zero_le _) (Nat.zero_le _) dX0_whenAllAreBack_15 ?_
    refine lv_aload_n hx hb dX0_whenAllAreBack_18 rfl (lv_at hl 0 rfl) ?_
    refine gX0_18 hx hb hB hown hK hw dX0_whenAllAreBack_19 ?_
    refine lv_aload_n hx hb dX0_whenAllAreBack_22 rfl (lv_at hl 0 rfl) ?_
    refine gX0_95 hx hb hB hown hK hw dX0_whenAllAreBack_23 ?_
    obtain ⟨g3, h⟩ := gB_ok h
    refine r_ald hx hb hK (aO9 hw) (ib_ok g3) dX0_whenAllAreBack_26 ?_
    refine lv_iadd hx hb dX0_whenAllAreBack_27 ?_
    refine lv_goto (tgt := 35) hx hb dX0_whenAllAreBack_28 (by decide) ?_
    exact e_zR hx hb hr hlk rfl h dX0_whenAllAreBack_35
def fX0_bringBack (Y : YS) (o : OS) : Option (YS × OS) := (fX0_whenAllAreBack Y o).bind (fun r1 => (some (Y, (u2 (u2 o 6 8 r1) 6 9 (-4)))))
abbrev rmX0_bringBack : Room := { frames := 2, cells := 0, slots := 0, locals := 60 }
set_option maxHeartbeats 4000000 in
set_option maxRecDepth 100000 in
theorem c_X0_bringBack (l : Launch) (E : En) (aY : Nat → Nat → Nat) (ao : Nat → Nat) (Y : YS) (o : OS) (r : YS × OS) (h : fX0_bringBack Y o = some r) : Met l yX0_bringBack (kX0_bringBack :: BIG) rmX0_bringBack (Pk E [.ref (ao 6)] (CW E aY ao Y o)) (QW none (AC aY ao) (CW E aY ao r.1 r.2)) 0 0 (AC aY ao) := by
  refine Mb (by decide) (Nat.le_of_ble_eq_true rfl) ?_
  intro p e s m below meth c ls hx hb hr hlk hB hown hml _ hK hw hl
  have hS : va_S (AC aY ao) s.heap s.heap [] := va_S.rf
  have hl : lv_has ls 1 [(0, .ref (ao 6))] := hl
  rw [fX0_bringBack] at h
  refine lv_aload_n hx hb dX0_bringBack_0 rfl (lv_at hl 0 rfl) ?_
  refine lv_aload_n hx hb dX0_bringBack_1 rfl (lv_at hl 0 rfl) ?_
  obtain ⟨r1, e1, h⟩ := ob h
  refine k_VR ⟨hx, hb, hml, hown, hB⟩ (c_X0_whenAllAreBack l E aY ao Y o r1 e1) (clX0_72 hB rfl rfl ⟨Nat.le_of_ble_eq_true rfl, Nat.le_of_ble_eq_true rfl⟩) hK hw (rvO6 hK hw) rfl hl.1 rfl (Nat.le_of_ble_eq_true rfl) dX0_bringBack_2 ⟨Nat.zero_le _, Nat.zero_le _⟩ ?_
  refine pX0_92 hx hb hB hown hK hw hS (fun _ z => z) dX0_bringBack_5 (fun H2 L2 hw hS => ?_)
  refine lv_aload_n hx hb dX0_bringBack_8 rfl (lv_at hl 0 rfl) ?_
  refine lv_bipush (v := (-4)) hx hb dX0_bringBack_9 (by decide) ?_
  refine pX0_95 hx hb hB hown hK hw hS (fun _ z => z) dX0_bringBack_11 (fun H3 L3 hw hS => ?_)
  cases h
  exact e_vW hx hb hr hlk hw hS dX0_bringBack_14
def fX0_sendOver (Y : YS) (o : OS) (a1 : Int32) : Option (YS × OS) := (fX0_isGoer Y o a1).bind (fun r1 => (if r1 = 0 then some (Y, o) else (fX0_isSomebodyYonder Y o).bind (fun r3 => (if r3 = 0 then gB (ib a1 6) ((fX0_bringBack Y (u2 o 6 8 ((o 6 8) + (o 9 a1.toNatClampNeg)))).bind (fun r7 => (gB (ib a1 6) (some (r7.1, (u2 (u2 r7.2 6 9 a1) 6 10 (((u2 o 6 8 ((o 6 8) + (o 9 a1.toNatClampNeg))) 6 8) + ((u2 r7.2 6 9 a1) 8 a1.toNatClampNeg)))))))) else gB (ib (o 6 9) 6) (gB (ib a1 6) (if (o 7 (o 6 9).toNatClampNeg) = (o 7 a1.toNatClampNeg) then (fX0_bringBack Y o).bind (fun r22 => (gB (ib a1 6) ((fX0_bringBack r22.1 (u2 r22.2 6 8 ((r22.2 6 8) + (r22.2 9 a1.toNatClampNeg)))).bind (fun r26 => (gB (ib a1 6) (some (r26.1, (u2 (u2 r26.2 6 9 a1) 6 10 (((u2 r22.2 6 8 ((r22.2 6 8) + (r22.2 9 a1.toNatClampNeg))) 6 8) + ((u2 r26.2 6 9 a1) 8 a1.toNatClampNeg)))))))))) else gB (ib a1 6) ((fX0_bringBack Y (u2 o 6 8 ((o 6 8) + (o 9 a1.toNatClampNeg)))).bind (fun r17 => (gB (ib a1 6) (some (r17.1, (u2 (u2 r17.2 6 9 a1) 6 10 (((u2 o 6 8 ((o 6 8) + (o 9 a1.toNatClampNeg))) 6 8) + ((u2 r17.2 6 9 a1) 8 a1.toNatClampNeg))))))))))))))
abbrev rmX0_sendOver : Room := { frames := 3, cells := 0, slots := 0, locals := 80 }
set_option maxHeartbeats 4000000 in
set_option maxRecDepth 100000 in
theorem c_X0_sendOver (l : Launch) (E : En) (aY : Nat → Nat → Nat) (ao : Nat → Nat) (Y : YS) (o : OS) (a1 : Int32) (r : YS × OS) (h : fX0_sendOver Y o a1 = some r) : Met l yX0_sendOver (kX0_sendOver :: BIG) rmX0_sendOver (Pk E [.ref (ao 6), .int a1] (CW E aY ao Y o)) (QW none (AC aY ao) (CW E aY ao r.1 r.2)) 0 0 (AC aY ao) := by
  refine Mb (by decide) (Nat.le_of_ble_eq_true rfl) ?_
  intro p e s m below meth c ls hx hb hr hlk hB hown hml _ hK hw hl
  have hS : va_S (AC aY ao) s.heap s.heap [] := va_S.rf
  have hl : lv_has ls 3 [(0, .ref (ao 6)), (1, .int a1)] := hl
  rw [fX0_sendOver] at h
  refine lv_aload_n hx hb dX0_sendOver_0 rfl (lv_at hl 0 rfl) ?_
  refine lv_iload_n hx hb dX0_sendOver_1 rfl (lv_at hl 1 rfl) ?_
  obtain ⟨r1, e1, h⟩ := ob h
  refine k_VR ⟨hx, hb, hml, hown, hB⟩ (c_X0_isGoer l E aY ao Y o a1 r1 e1) (clX0_64 hB rfl rfl ⟨Nat.le_of_ble_eq_true rfl, Nat.le_of_ble_eq_true rfl⟩) hK hw (rvO6 hK hw) rfl hl.1 rfl (Nat.le_of_ble_eq_true rfl) dX0_sendOver_2 ⟨Nat.zero_le _, Nat.zero_le _⟩ ?_
  refine lv_if_ne (tgt := 9) hx hb dX0_sendOver_5 (by decide) (fun g2 => ?_) (fun g2 => ?_)
  · rw [if_neg g2] at h
    refine lv_aload_n hx hb dX0_sendOver_9 rfl (lv_at hl 0 rfl) ?_
    obtain ⟨r3, e3, h⟩ := ob h
    refine k_VR ⟨hx, hb, hml, hown, hB⟩ (c_X0_isSomebodyYonder l E aY ao Y o r3 e3) (clX0_101 hB rfl rfl ⟨Nat.le_of_ble_eq_true rfl, Nat.le_of_ble_eq_true rfl⟩) hK hw (rvO6 hK hw) rfl hl.1 rfl (Nat.le_of_ble_eq_true rfl) dX0_sendOver_10 ⟨Nat.zero_le _, Nat.zero_le _⟩ ?_
    refine lv_if_eq (tgt := 38) hx hb dX0_sendOver_13 (by decide) (fun g4 => ?_) (fun g4 => ?_)
    · rw [if_pos g4] at h
      refine lv_aload_n hx hb dX0_sendOver_38 rfl (lv_at hl 0 rfl) ?_
      refine lv_dup hx hb dX0_sendOver_39 rfl ?_
      refine gX0_92 hx hb hB hown hK hw dX0_sendOver_40 ?_
      refine lv_aload_n hx hb dX0_sendOver_43 rfl (lv_at hl 0 rfl) ?_
      refine gX0_18 hx hb hB hown hK hw dX0_sendOver_44 ?_
      refine lv_iload_n hx hb dX0_sendOver_47 rfl (lv_at hl 1 rfl) ?_
      obtain ⟨g5, h⟩ := gB_ok h
      refine r_ald hx hb hK (aO9 hw) (ib_ok g5) dX0_sendOver_48 ?_
      refine lv_iadd hx hb dX0_sendOver_49 ?_
      refine pX0_92 hx hb hB hown hK hw hS (fun _ z => z) dX0_sendOver_50 (fun H6 L6 hw hS => ?_)
      refine lv_aload_n hx hb dX0_sendOver_53 rfl (lv_at hl 0 rfl) ?_
      refine gX0_92 hx hb hB hown hK hw dX0_sendOver_54 ?_
      refine lv_istore_n (lv' := [(2, .int ((u2 o 6 8 ((o 6 8) + (o 9 a1.toNatClampNeg))) 6 8)), (0, .ref (ao 6)), (1, .int a1)]) hx hb dX0_sendOver_57 rfl hl (by decide) rfl (fun ls hl => ?_)
      refine lv_aload_n hx hb dX0_sendOver_58 rfl (lv_at hl 1 rfl) ?_
      obtain ⟨r7, e7, h⟩ := ob h
      refine k_VWv ⟨hx, hb, hml, hown, hB⟩ (c_X0_bringBack l E aY ao Y (u2 o 6 8 ((o 6 8) + (o 9 a1.toNatClampNeg))) r7 e7) (clX0_105 hB rfl rfl ⟨Nat.le_of_ble_eq_true rfl, Nat.le_of_ble_eq_true rfl⟩) hK hw (rvO6 hK hw) rfl hl.1 rfl (Nat.le_of_ble_eq_true rfl) dX0_sendOver_59 ⟨Nat.zero_le _, Nat.zero_le _⟩ hS (fun _ z => z) (fun H8 L8 hw _ _ hS => ?_)
      refine lv_aload_n hx hb dX0_sendOver_62 rfl (lv_at hl 1 rfl) ?_
      refine lv_iload_n hx hb dX0_sendOver_63 rfl (lv_at hl 2 rfl) ?_
      refine pX0_95 hx hb hB hown hK hw hS (fun _ z => z) dX0_sendOver_64 (fun H9 L9 hw hS => ?_)
      refine lv_aload_n hx hb dX0_sendOver_67 rfl (lv_at hl 1 rfl) ?_
      refine lv_iload_n hx hb dX0_sendOver_68 rfl (lv_at hl 0 rfl) ?_
      refine lv_aload_n hx hb dX0_sendOver_69 rfl (lv_at hl 1 rfl) ?_
      refine gX0_15 hx hb hB hown hK hw dX0_sendOver_70 ?_
      refine lv_iload_n hx hb dX0_sendOver_73 rfl (lv_at hl 2 rfl) ?_
      obtain ⟨g10, h⟩ := gB_ok h
      refine r_ald hx hb hK (aO8 hw) (ib_ok g10) dX0_sendOver_74 ?_
      refine lv_iadd hx hb dX0_sendOver_75 ?_
      refine pX0_98 hx hb hB hown hK hw hS (fun _ z => z) dX0_sendOver_76 (fun H11 L11 hw hS => ?_)
      cases h
      exact e_vW hx hb hr hlk hw hS dX0_sendOver_79
    · rw [if_neg g4] at h
      refine lv_aload_n hx hb dX0_sendOver_16 rfl (lv_at hl 0 rfl) ?_
      refine gX0_9 hx hb hB hown hK hw dX0_sendOver_17 ?_
      refine lv_aload_n hx hb dX0_sendOver_20 rfl (lv_at hl 0 rfl) ?_
      refine gX0_95 hx hb hB hown hK hw dX0_sendOver_21 ?_
      obtain ⟨g12, h⟩ := gB_ok h
      refine r_ald hx hb hK (aO7 hw) (ib_ok g12) dX0_sendOver_24 ?_
      refine lv_aload_n hx hb dX0_sendOver_25 rfl (lv_at hl 0 rfl) ?_
      refine gX0_9 hx hb hB hown hK hw dX0_sendOver_26 ?_
      refine lv_iload_n hx hb dX0_sendOver_29 rfl (lv_at hl 1 rfl) ?_
      obtain ⟨g13, h⟩ := gB_ok h
      refine r_ald hx hb hK (aO7 hw) (ib_ok g13) dX0_sendOver_30 ?_
      refine lv_icmp_ne (tgt := 38) hx hb dX0_sendOver_31 (by decide) (fun g14 => ?_) (fun g14 => ?_)
      · rw [if_neg g14] at h
        refine lv_aload_n hx hb dX0_sendOver_38 rfl (lv_at hl 0 rfl) ?_
        refine lv_dup hx hb dX0_sendOver_39 rfl ?_
        refine gX0_92 hx hb hB hown hK hw dX0_sendOver_40 ?_
        refine lv_aload_n hx hb dX0_sendOver_43 rfl (lv_at hl 0 rfl) ?_
        refine gX0_18 hx hb hB hown hK hw dX0_sendOver_44 ?_
        refine lv_iload_n hx hb dX0_sendOver_47 rfl (lv_at hl 1 rfl) ?_
        obtain ⟨g15, h⟩ := gB_ok h
        refine r_ald hx hb hK (aO9 hw) (ib_ok g15) dX0_sendOver_48 ?_
        refine lv_iadd hx hb dX0_sendOver_49 ?_
        refine pX0_92 hx hb hB hown hK hw hS (fun _ z => z) dX0_sendOver_50 (fun H16 L16 hw hS => ?_)
        refine lv_aload_n hx hb dX0_sendOver_53 rfl (lv_at hl 0 rfl) ?_
        refine gX0_92 hx hb hB hown hK hw dX0_sendOver_54 ?_
        refine lv_istore_n (lv' := [(2, .int ((u2 o 6 8 ((o 6 8) + (o 9 a1.toNatClampNeg))) 6 8)), (0, .ref (ao 6)), (1, .int a1)]) hx hb dX0_sendOver_57 rfl hl (by decide) rfl (fun ls hl => ?_)
        refine lv_aload_n hx hb dX0_sendOver_58 rfl (lv_at hl 1 rfl) ?_
        obtain ⟨r17, e17, h⟩ := ob h
        refine k_VWv ⟨hx, hb, hml, hown, hB⟩ (c_X0_bringBack l E aY ao Y (u2 o 6 8 ((o 6 8) + (o 9 a1.toNatClampNeg))) r17 e17) (clX0_105 hB rfl rfl ⟨Nat.le_of_ble_eq_true rfl, Nat.le_of_ble_eq_true rfl⟩) hK hw (rvO6 hK hw) rfl hl.1 rfl (Nat.le_of_ble_eq_true rfl) dX0_sendOver_59 ⟨Nat.zero_le _, Nat.zero_le _⟩ hS (fun _ z => z) (fun H18 L18 hw _ _ hS => ?_)
        refine lv_aload_n hx hb dX0_sendOver_62 rfl (lv_at hl 1 rfl) ?_
        refine lv_iload_n hx hb dX0_sendOver_63 rfl (lv_at hl 2 rfl) ?_
        refine pX0_95 hx hb hB hown hK hw hS (fun _ z => z) dX0_sendOver_64 (fun H19 L19 hw hS => ?_)
        refine lv_aload_n hx hb dX0_sendOver_67 rfl (lv_at hl 1 rfl) ?_
        refine lv_iload_n hx hb dX0_sendOver_68 rfl (lv_at hl 0 rfl) ?_
        refine lv_aload_n hx hb dX0_sendOver_69 rfl (lv_at hl 1 rfl) ?_
        refine gX0_15 hx hb hB hown hK hw dX0_sendOver_70 ?_
        refine lv_iload_n hx hb dX0_sendOver_73 rfl (lv_at hl 2 rfl) ?_
        obtain ⟨g20, h⟩ := gB_ok h
        refine r_ald hx hb hK (aO8 hw) (ib_ok g20) dX0_sendOver_74 ?_
        refine lv_iadd hx hb dX0_sendOver_75 ?_
        refine pX0_98 hx hb hB hown hK hw hS (fun _ z => z) dX0_sendOver_76 (fun H21 L21 hw hS => ?_)
        cases h
        exact e_vW hx hb hr hlk hw hS dX0_sendOver_79
      · rw [if_pos g14] at h
        refine lv_aload_n hx hb dX0_sendOver_34 rfl (lv_at hl 0 rfl) ?_
        obtain ⟨r22, e22, h⟩ := ob h
        refine k_VWv ⟨hx, hb, hml, hown, hB⟩ (c_X0_bringBack l E aY ao Y o r22 e22) (clX0_105 hB rfl rfl ⟨Nat.le_of_ble_eq_true rfl, Nat.le_of_ble_eq_true rfl⟩) hK hw (rvO6 hK hw) rfl hl.1 rfl (Nat.le_of_ble_eq_true rfl) dX0_sendOver_35 ⟨Nat.zero_le _, Nat.zero_le _⟩ hS (fun _ z => z) (fun H23 L23 hw _ _ hS => ?_)
        refine lv_aload_n hx hb dX0_sendOver_38 rfl (lv_at hl 0 rfl) ?_
        refine lv_dup hx hb dX0_sendOver_39 rfl ?_
        refine gX0_92 hx hb hB hown hK hw dX0_sendOver_40 ?_
        refine lv_aload_n hx hb dX0_sendOver_43 rfl (lv_at hl 0 rfl) ?_
        refine gX0_18 hx hb hB hown hK hw dX0_sendOver_44 ?_
        refine lv_iload_n hx hb dX0_sendOver_47 rfl (lv_at hl 1 rfl) ?_
        obtain ⟨g24, h⟩ := gB_ok h
        refine r_ald hx hb hK (aO9 hw) (ib_ok g24) dX0_sendOver_48 ?_
        refine lv_iadd hx hb dX0_sendOver_49 ?_
        refine pX0_92 hx hb hB hown hK hw hS (fun _ z => z) dX0_sendOver_50 (fun H25 L25 hw hS => ?_)
        refine lv_aload_n hx hb dX0_sendOver_53 rfl (lv_at hl 0 rfl) ?_
        refine gX0_92 hx hb hB hown hK hw dX0_sendOver_54 ?_
        refine lv_istore_n (lv' := [(2, .int ((u2 r22.2 6 8 ((r22.2 6 8) + (r22.2 9 a1.toNatClampNeg))) 6 8)), (0, .ref (ao 6)), (1, .int a1)]) hx hb dX0_sendOver_57 rfl hl (by decide) rfl (fun ls hl => ?_)
        refine lv_aload_n hx hb dX0_sendOver_58 rfl (lv_at hl 1 rfl) ?_
        obtain ⟨r26, e26, h⟩ := ob h
        refine k_VWv ⟨hx, hb, hml, hown, hB⟩ (c_X0_bringBack l E aY ao r22.1 (u2 r22.2 6 8 ((r22.2 6 8) + (r22.2 9 a1.toNatClampNeg))) r26 e26) (clX0_105 hB rfl rfl ⟨Nat.le_of_ble_eq_true rfl, Nat.le_of_ble_eq_true rfl⟩) hK hw (rvO6 hK hw) rfl hl.1 rfl (Nat.le_of_ble_eq_true rfl) dX0_sendOver_59 ⟨Nat.zero_le _, Nat.zero_le _⟩ hS (fun _ z => z) (fun H27 L27 hw _ _ hS => ?_)
        refine lv_aload_n hx hb dX0_sendOver_62 rfl (lv_at hl 1 rfl) ?_
        refine lv_iload_n hx hb dX0_sendOver_63 rfl (lv_at hl 2 rfl) ?_
        refine pX0_95 hx hb hB hown hK hw hS (fun _ z => z) dX0_sendOver_64 (fun H28 L28 hw hS => ?_)
        refine lv_aload_n hx hb dX0_sendOver_67 rfl (lv_at hl 1 rfl) ?_
        refine lv_iload_n hx hb dX0_sendOver_68 rfl (lv_at hl 0 rfl) ?_
        refine lv_aload_n hx hb dX0_sendOver_69 rfl (lv_at hl 1 rfl) ?_
        refine gX0_15 hx hb hB hown hK hw dX0_sendOver_70 ?_
        refine lv_iload_n hx hb dX0_sendOver_73 rfl (lv_at hl 2 rfl) ?_
        obtain ⟨g29, h⟩ := gB_ok h
        refine r_ald hx hb hK (aO8 hw) (ib_ok g29) dX0_sendOver_74 ?_
        refine lv_iadd hx hb dX0_sendOver_75 ?_
        refine pX0_98 hx hb hB hown hK hw hS (fun _ z => z) dX0_sendOver_76 (fun H30 L30 hw hS => ?_)
        cases h
        exact e_vW hx hb hr hlk hw hS dX0_sendOver_79
  · rw [if_pos g2] at h
    cases h
    exact e_vW hx hb hr hlk hw hS dX0_sendOver_8
def fX0_minutesByNumber_L6 (v1_6 : Int32) : Nat → Int32 → YS → OS → Option (Int32 × YS × OS)
  | 0, _, _, _ => none
  | n_6 + 1, v2_6, Y_6, o_6 => if (o_6 6 1) ≤ v2_6 then (fX0_whenAllAreBack Y_6 o_6).bind (fun r2 => (some (r2, Y_6, o_6))) else if v1_6 = 0 then (fX0_isGoer Y_6 o_6 v2_6).bind (fun r4 => (if r4 = 0 then fX0_minutesByNumber_L6 v1_6 n_6 (v2_6 + 1) Y_6 o_6 else (fX0_sendOver Y_6 o_6 v2_6).bind (fun r6 => (fX0_minutesByNumber_L6 v1_6 n_6 (v2_6 + 1) r6.1 r6.2)))) else (fX0_isGoer Y_6 o_6 (((o_6 6 1) - 1) - v2_6)).bind (fun r8 => (if r8 = 0 then fX0_minutesByNumber_L6 v1_6 n_6 (v2_6 + 1) Y_6 o_6 else (fX0_sendOver Y_6 o_6 (((o_6 6 1) - 1) - v2_6)).bind (fun r10 => (fX0_minutesByNumber_L6 v1_6 n_6 (v2_6 + 1) r10.1 r10.2))))
def fX0_minutesByNumber (Y : YS) (o : OS) (a1 : Int32) : Option (Int32 × YS × OS) := (fX0_begin Y o).bind (fun r12 => (fX0_minutesByNumber_L6 a1 FU 0 r12.1 r12.2))
abbrev rmX0_minutesByNumber : Room := { frames := 4, cells := 0, slots := 0, locals := 102 }
set_option maxHeartbeats 4000000 in
set_option maxRecDepth 100000 in
theorem c_X0_minutesByNumber (l : Launch) (E : En) (aY : Nat → Nat → Nat) (ao : Nat → Nat) (Y : YS) (o : OS) (a1 : Int32) (r : Int32 × YS × OS) (h : fX0_minutesByNumber Y o a1 = some r) : Met l yX0_minutesByNumber (kX0_minutesByNumber :: BIG) rmX0_minutesByNumber (Pk E [.ref (ao 6), .int a1] (CW E aY ao Y o)) (QW (some (.int r.1)) (AC aY ao) (CW E aY ao r.2.1 r.2.2)) 0 0 (AC aY ao) := by
  refine Mb (by decide) (Nat.le_of_ble_eq_true rfl) ?_
  intro p e s m below meth c ls hx hb hr hlk hB hown hml _ hK hw hl
  have hS : va_S (AC aY ao) s.heap s.heap [] := va_S.rf
  have hl : lv_has ls 4 [(0, .ref (ao 6)), (1, .int a1)] := hl
  rw [fX0_minutesByNumber] at h
  have hL6 : ∀ (n_6 : Nat) (v1_6 : Int32) (v2_6 : Int32) (Y_6 : YS) (o_6 : OS) (H_6 : Heap) (L_6 : List Loc) (ls_6 : Array Slot), lv_has ls_6 4 [(0, .ref (ao 6)), (1, .int v1_6), (2, .int v2_6)] → CW E aY ao Y_6 o_6 H_6 → va_S (AC aY ao) s.heap H_6 L_6 → fX0_minutesByNumber_L6 v1_6 n_6 v2_6 Y_6 o_6 = some r → W p l e rmX0_minutesByNumber s m ([.ref (ao 6), .int a1] : List Value).toArray below meth c H_6 L_6 0 0 (MQ below (QW (some (.int r.1)) (AC aY ao) (CW E aY ao r.2.1 r.2.2)) ([.ref (ao 6), .int a1] : List Value).toArray s 0 0 (AC aY ao)) (F0 m 6 ls_6 []) := by
    intro n_6
    induction n_6 with
    | zero =>
      intro v1_6 v2_6 Y_6 o_6 H_6 L_6 ls_6 hl hw hS h
      exact nn h
    | succ n_6 ih_6 =>
      intro v1_6 v2_6 Y_6 o_6 H_6 L_6 ls_6 hl hw hS h
      rw [fX0_minutesByNumber_L6] at h
      refine lv_iload_n hx hb dX0_minutesByNumber_6 rfl (lv_at hl 2 rfl) ?_
      refine lv_aload_n hx hb dX0_minutesByNumber_7 rfl (lv_at hl 0 rfl) ?_
      refine gX0_45 hx hb hB hown hK hw dX0_minutesByNumber_8 ?_
      refine lv_icmp_ge (tgt := 50) hx hb dX0_minutesByNumber_11 (by decide) (fun g1 => ?_) (fun g1 => ?_)
      · rw [if_pos g1] at h
        refine lv_aload_n hx hb dX0_minutesByNumber_50 rfl (lv_at hl 0 rfl) ?_
        obtain ⟨r2, e2, h⟩ := ob h
        refine k_VR ⟨hx, hb, hml, hown, hB⟩ (c_X0_whenAllAreBack l E aY ao Y_6 o_6 r2 e2) (clX0_72 hB rfl rfl ⟨Nat.le_of_ble_eq_true rfl, Nat.le_of_ble_eq_true rfl⟩) hK hw (rvO6 hK hw) rfl hl.1 rfl (Nat.le_of_ble_eq_true rfl) dX0_minutesByNumber_51 ⟨Nat.zero_le _, Nat.zero_le _⟩ ?_
        cases h
        exact e_zW hx hb hr hlk rfl rfl hw hS dX0_minutesByNumber_54
      · rw [if_neg g1] at h
        refine lv_iload_n hx hb dX0_minutesByNumber_14 rfl (lv_at hl 1 rfl) ?_
        refine lv_if_eq (tgt := 29) hx hb dX0_minutesByNumber_15 (by decide) (fun g3 => ?_) (fun g3 => ?_)
        · rw [if_pos g3] at h
          refine lv_iload_n hx hb dX0_minutesByNumber_29 rfl (lv_at hl 2 rfl) ?_
          refine lv_istore_n (lv' := [(3, .int v2_6), (0, .ref (ao 6)), (1, .int v1_6), (2, .int v2_6)]) hx hb dX0_minutesByNumber_30 rfl hl (by decide) rfl (fun ls hl => ?_)
          refine lv_aload_n hx hb dX0_minutesByNumber_31 rfl (lv_at hl 1 rfl) ?_
          refine lv_iload_n hx hb dX0_minutesByNumber_32 rfl (lv_at hl 0 rfl) ?_
          obtain ⟨r4, e4, h⟩ := ob h
          refine k_VR ⟨hx, hb, hml, hown, hB⟩ (c_X0_isGoer l E aY ao Y_6 o_6 v2_6 r4 e4) (clX0_64 hB rfl rfl ⟨Nat.le_of_ble_eq_true rfl, Nat.le_of_ble_eq_true rfl⟩) hK hw (rvO6 hK hw) rfl hl.1 rfl (Nat.le_of_ble_eq_true rfl) dX0_minutesByNumber_33 ⟨Nat.zero_le _, Nat.zero_le _⟩ ?_
          refine lv_if_eq (tgt := 44) hx hb dX0_minutesByNumber_36 (by decide) (fun g5 => ?_) (fun g5 => ?_)
          · rw [if_pos g5] at h
            refine lv_iinc (v := (v2_6 + 1)) (lv' := [(2, .int (v2_6 + 1)), (3, .int v2_6), (0, .ref (ao 6)), (1, .int v1_6)]) hx hb dX0_minutesByNumber_44 hl (k := 3) rfl rfl (by decide) rfl (fun ls hl => ?_)
            refine lv_goto (tgt := 6) hx hb dX0_minutesByNumber_47 (by decide) ?_
            exact ih_6 v1_6 (v2_6 + 1) Y_6 o_6 _ _ _ (lv_sub hl [2, 3, 0] rfl) hw hS h
          · rw [if_neg g5] at h
            refine lv_aload_n hx hb dX0_minutesByNumber_39 rfl (lv_at hl 1 rfl) ?_
            refine lv_iload_n hx hb dX0_minutesByNumber_40 rfl (lv_at hl 0 rfl) ?_
            obtain ⟨r6, e6, h⟩ := ob h
            refine k_VWv ⟨hx, hb, hml, hown, hB⟩ (c_X0_sendOver l E aY ao Y_6 o_6 v2_6 r6 e6) (clX0_68 hB rfl rfl ⟨Nat.le_of_ble_eq_true rfl, Nat.le_of_ble_eq_true rfl⟩) hK hw (rvO6 hK hw) rfl hl.1 rfl (Nat.le_of_ble_eq_true rfl) dX0_minutesByNumber_41 ⟨Nat.zero_le _, Nat.zero_le _⟩ hS (fun _ z => z) (fun H7 L7 hw _ _ hS => ?_)
            refine lv_iinc (v := (v2_6 + 1)) (lv' := [(2, .int (v2_6 + 1)), (3, .int v2_6), (0, .ref (ao 6)), (1, .int v1_6)]) hx hb dX0_minutesByNumber_44 hl (k := 3) rfl rfl (by decide) rfl (fun ls hl => ?_)
            refine lv_goto (tgt := 6) hx hb dX0_minutesByNumber_47 (by decide) ?_
            exact ih_6 v1_6 (v2_6 + 1) r6.1 r6.2 _ _ _ (lv_sub hl [2, 3, 0] rfl) hw hS h
        · rw [if_neg g3] at h
          refine lv_aload_n hx hb dX0_minutesByNumber_18 rfl (lv_at hl 0 rfl) ?_
          refine gX0_45 hx hb hB hown hK hw dX0_minutesByNumber_19 ?_
          refine lv_iconst (v := 1) hx hb dX0_minutesByNumber_22 (by decide) ?_
          refine lv_isub hx hb dX0_minutesByNumber_23 ?_
          refine lv_iload_n hx hb dX0_minutesByNumber_24 rfl (lv_at hl 2 rfl) ?_
          refine lv_isub hx hb dX0_minutesByNumber_25 ?_
          refine lv_goto (tgt := 30) hx hb dX0_minutesByNumber_26 (by decide) ?_
          refine lv_istore_n (lv' := [(3, .int (((o_6 6 1) - 1) - v2_6)), (0, .ref (ao 6)), (1, .int v1_6), (2, .int v2_6)]) hx hb dX0_minutesByNumber_30 rfl hl (by decide) rfl (fun ls hl => ?_)
          refine lv_aload_n hx hb dX0_minutesByNumber_31 rfl (lv_at hl 1 rfl) ?_
          refine lv_iload_n hx hb dX0_minutesByNumber_32 rfl (lv_at hl 0 rfl) ?_
          obtain ⟨r8, e8, h⟩ := ob h
          refine k_VR ⟨hx, hb, hml, hown, hB⟩ (c_X0_isGoer l E aY ao Y_6 o_6 (((o_6 6 1) - 1) - v2_6) r8 e8) (clX0_64 hB rfl rfl ⟨Nat.le_of_ble_eq_true rfl, Nat.le_of_ble_eq_true rfl⟩) hK hw (rvO6 hK hw) rfl hl.1 rfl (Nat.le_of_ble_eq_true rfl) dX0_minutesByNumber_33 ⟨Nat.zero_le _, Nat.zero_le _⟩ ?_
          refine lv_if_eq (tgt := 44) hx hb dX0_minutesByNumber_36 (by decide) (fun g9 => ?_) (fun g9 => ?_)
          · rw [if_pos g9] at h
            refine lv_iinc (v := (v2_6 + 1)) (lv' := [(2, .int (v2_6 + 1)), (3, .int (((o_6 6 1) - 1) - v2_6)), (0, .ref (ao 6)), (1, .int v1_6)]) hx hb dX0_minutesByNumber_44 hl (k := 3) rfl rfl (by decide) rfl (fun ls hl => ?_)
            refine lv_goto (tgt := 6) hx hb dX0_minutesByNumber_47 (by decide) ?_
            exact ih_6 v1_6 (v2_6 + 1) Y_6 o_6 _ _ _ (lv_sub hl [2, 3, 0] rfl) hw hS h
          · rw [if_neg g9] at h
            refine lv_aload_n hx hb dX0_minutesByNumber_39 rfl (lv_at hl 1 rfl) ?_
            refine lv_iload_n hx hb dX0_minutesByNumber_40 rfl (lv_at hl 0 rfl) ?_
            obtain ⟨r10, e10, h⟩ := ob h
            refine k_VWv ⟨hx, hb, hml, hown, hB⟩ (c_X0_sendOver l E aY ao Y_6 o_6 (((o_6 6 1) - 1) - v2_6) r10 e10) (clX0_68 hB rfl rfl ⟨Nat.le_of_ble_eq_true rfl, Nat.le_of_ble_eq_true rfl⟩) hK hw (rvO6 hK hw) rfl hl.1 rfl (Nat.le_of_ble_eq_true rfl) dX0_minutesByNumber_41 ⟨Nat.zero_le _, Nat.zero_le _⟩ hS (fun _ z => z) (fun H11 L11 hw _ _ hS => ?_)
            refine lv_iinc (v := (v2_6 + 1)) (lv' := [(2, .int (v2_6 + 1)), (3, .int (((o_6 6 1) - 1) - v2_6)), (0, .ref (ao 6)), (1, .int v1_6)]) hx hb dX0_minutesByNumber_44 hl (k := 3) rfl rfl (by decide) rfl (fun ls hl => ?_)
            refine lv_goto (tgt := 6) hx hb dX0_minutesByNumber_47 (by decide) ?_
            exact ih_6 v1_6 (v2_6 + 1) r10.1 r10.2 _ _ _ (lv_sub hl [2, 3, 0] rfl) hw hS h
  refine lv_aload_n hx hb dX0_minutesByNumber_0 rfl (lv_at hl 0 rfl) ?_
  obtain ⟨r12, e12, h⟩ := ob h
  refine k_VWv ⟨hx, hb, hml, hown, hB⟩ (c_X0_begin l E aY ao Y o r12 e12) (clX0_61 hB rfl rfl ⟨Nat.le_of_ble_eq_true rfl, Nat.le_of_ble_eq_true rfl⟩) hK hw (rvO6 hK hw) rfl hl.1 rfl (Nat.le_of_ble_eq_true rfl) dX0_minutesByNumber_1 ⟨Nat.zero_le _, Nat.zero_le _⟩ hS (fun _ z => z) (fun H13 L13 hw _ _ hS => ?_)
  refine lv_iconst (v := 0) hx hb dX0_minutesByNumber_4 (by decide) ?_
  refine lv_istore_n (lv' := [(2, .int 0), (0, .ref (ao 6)), (1, .int a1)]) hx hb dX0_minutesByNumber_5 rfl hl (by decide) rfl (fun ls hl => ?_)
  exact hL6 FU a1 0 r12.1 r12.2 _ _ _ (lv_sub hl [1, 2, 0] rfl) hw hS h
def fX0_note_L36 (v1_36 : Int32) (v2_36 : Int32) : Nat → Int32 → YS → OS → Option (YS × OS)
  | 0, _, _, _ => none
  | n_36 + 1, v4_36, Y_36, o_36 => if v2_36 = (o_36 6 0) then if v1_36 ≤ v4_36 then some (Y_36, o_36) else if 6 ≤ v4_36 then some (Y_36, o_36) else gB (ib v4_36 6) (gB (ib v4_36 6) (fX0_note_L36 v1_36 v2_36 n_36 (v4_36 + 1) Y_36 (u2 o_36 12 v4_36.toNatClampNeg (o_36 11 v4_36.toNatClampNeg)))) else some (Y_36, o_36)
def fX0_note (Y : YS) (o : OS) (a1 : Int32) (a2 : Int32) : Option (YS × OS) := (fX0_whenAllAreBack Y o).bind (fun r7 => (if a2 < 0 then some (Y, o) else if 64 ≤ a2 then some (Y, o) else gB (ib a2 64) (if r7 < (o 10 a2.toNatClampNeg) then gB (ib a2 64) (fX0_note_L36 a1 a2 FU 0 Y (u2 o 10 a2.toNatClampNeg r7)) else some (Y, o))))
abbrev rmX0_note : Room := { frames := 2, cells := 0, slots := 0, locals := 60 }
set_option maxHeartbeats 4000000 in
set_option maxRecDepth 100000 in
theorem c_X0_note (l : Launch) (E : En) (aY : Nat → Nat → Nat) (ao : Nat → Nat) (Y : YS) (o : OS) (a1 : Int32) (a2 : Int32) (r : YS × OS) (h : fX0_note Y o a1 a2 = some r) : Met l yX0_note (kX0_note :: BIG) rmX0_note (Pk E [.ref (ao 6), .int a1, .int a2] (CW E aY ao Y o)) (QW none (AC aY ao) (CW E aY ao r.1 r.2)) 0 0 (AC aY ao) := by
  refine Mb (by decide) (Nat.le_of_ble_eq_true rfl) ?_
  intro p e s m below meth c ls hx hb hr hlk hB hown hml _ hK hw hl
  have hS : va_S (AC aY ao) s.heap s.heap [] := va_S.rf
  have hl : lv_has ls 5 [(0, .ref (ao 6)), (1, .int a1), (2, .int a2)] := hl
  rw [fX0_note] at h
  have hL36 : ∀ (n_36 : Nat) (v1_36 : Int32) (v2_36 : Int32) (v4_36 : Int32) (Y_36 : YS) (o_36 : OS) (H_36 : Heap) (L_36 : List Loc) (ls_36 : Array Slot), lv_has ls_36 5 [(0, .ref (ao 6)), (1, .int v1_36), (2, .int v2_36), (4, .int v4_36)] → CW E aY ao Y_36 o_36 H_36 → va_S (AC aY ao) s.heap H_36 L_36 → fX0_note_L36 v1_36 v2_36 n_36 v4_36 Y_36 o_36 = some r → W p l e rmX0_note s m ([.ref (ao 6), .int a1, .int a2] : List Value).toArray below meth c H_36 L_36 0 0 (MQ below (QW none (AC aY ao) (CW E aY ao r.1 r.2)) ([.ref (ao 6), .int a1, .int a2] : List Value).toArray s 0 0 (AC aY ao)) (F0 m 36 ls_36 []) := by
    intro n_36
    induction n_36 with
    | zero =>
      intro v1_36 v2_36 v4_36 Y_36 o_36 H_36 L_36 ls_36 hl hw hS h
      exact nn h
    | succ n_36 ih_36 =>
      intro v1_36 v2_36 v4_36 Y_36 o_36 H_36 L_36 ls_36 hl hw hS h
      rw [fX0_note_L36] at h
      refine lv_iload_n hx hb dX0_note_36 rfl (lv_at hl 2 rfl) ?_
      refine lv_aload_n hx hb dX0_note_37 rfl (lv_at hl 0 rfl) ?_
      refine gX0_30 hx hb hB hown hK hw dX0_note_38 ?_
      refine lv_icmp_ne (tgt := 77) hx hb dX0_note_41 (by decide) (fun g1 => ?_) (fun g1 => ?_)
      · rw [if_neg g1] at h
        cases h
        exact e_vW hx hb hr hlk hw hS dX0_note_77
      · rw [if_pos g1] at h
        refine lv_iload hx hb dX0_note_44 (lv_at hl 3 rfl) ?_
        refine lv_iload_n hx hb dX0_note_46 rfl (lv_at hl 1 rfl) ?_
        refine lv_icmp_ge (tgt := 77) hx hb dX0_note_47 (by decide) (fun g2 => ?_) (fun g2 => ?_)
        · rw [if_pos g2] at h
          cases h
          exact e_vW hx hb hr hlk hw hS dX0_note_77
        · rw [if_neg g2] at h
          refine lv_iload hx hb dX0_note_50 (lv_at hl 3 rfl) ?_
          refine lv_bipush (v := 6) hx hb dX0_note_52 (by decide) ?_
          refine lv_icmp_ge (tgt := 77) hx hb dX0_note_54 (by decide) (fun g3 => ?_) (fun g3 => ?_)
          · rw [if_pos g3] at h
            cases h
            exact e_vW hx hb hr hlk hw hS dX0_note_77
          · rw [if_neg g3] at h
            refine lv_aload_n hx hb dX0_note_57 rfl (lv_at hl 0 rfl) ?_
            refine gX0_27 hx hb hB hown hK hw dX0_note_58 ?_
            refine lv_iload hx hb dX0_note_61 (lv_at hl 3 rfl) ?_
            refine lv_aload_n hx hb dX0_note_63 rfl (lv_at hl 0 rfl) ?_
            refine gX0_24 hx hb hB hown hK hw dX0_note_64 ?_
            refine lv_iload hx hb dX0_note_67 (lv_at hl 3 rfl) ?_
            obtain ⟨g4, h⟩ := gB_ok h
            refine r_ald hx hb hK (aO11 hw) (ib_ok g4) dX0_note_69 ?_
            obtain ⟨g5, h⟩ := gB_ok h
            refine sO12 hx hb hK hw hS (fun _ z => z) (ib_ok g5) dX0_note_70 (fun H6 L6 hw hS => ?_)
            refine lv_iinc (v := (v4_36 + 1)) (lv' := [(4, .int (v4_36 + 1)), (0, .ref (ao 6)), (1, .int v1_36), (2, .int v2_36)]) hx hb dX0_note_71 hl (k := 3) rfl rfl (by decide) rfl (fun ls hl => ?_)
            refine lv_goto (tgt := 36) hx hb dX0_note_74 (by decide) ?_
            exact ih_36 v1_36 v2_36 (v4_36 + 1) Y_36 (u2 o_36 12 v4_36.toNatClampNeg (o_36 11 v4_36.toNatClampNeg)) _ _ _ (lv_sub hl [1, 2, 3, 0] rfl) hw hS h
  refine lv_aload_n hx hb dX0_note_0 rfl (lv_at hl 0 rfl) ?_
  obtain ⟨r7, e7, h⟩ := ob h
  refine k_VR ⟨hx, hb, hml, hown, hB⟩ (c_X0_whenAllAreBack l E aY ao Y o r7 e7) (clX0_72 hB rfl rfl ⟨Nat.le_of_ble_eq_true rfl, Nat.le_of_ble_eq_true rfl⟩) hK hw (rvO6 hK hw) rfl hl.1 rfl (Nat.le_of_ble_eq_true rfl) dX0_note_1 ⟨Nat.zero_le _, Nat.zero_le _⟩ ?_
  refine lv_istore_n (lv' := [(3, .int r7), (0, .ref (ao 6)), (1, .int a1), (2, .int a2)]) hx hb dX0_note_4 rfl hl (by decide) rfl (fun ls hl => ?_)
  refine lv_iload_n hx hb dX0_note_5 rfl (lv_at hl 3 rfl) ?_
  refine lv_if_lt (tgt := 25) hx hb dX0_note_6 (by decide) (fun g8 => ?_) (fun g8 => ?_)
  · rw [if_pos g8] at h
    cases h
    exact e_vW hx hb hr hlk hw hS dX0_note_25
  · rw [if_neg g8] at h
    refine lv_iload_n hx hb dX0_note_9 rfl (lv_at hl 3 rfl) ?_
    refine lv_bipush (v := 64) hx hb dX0_note_10 (by decide) ?_
    refine lv_icmp_ge (tgt := 25) hx hb dX0_note_12 (by decide) (fun g9 => ?_) (fun g9 => ?_)
    · rw [if_pos g9] at h
      cases h
      exact e_vW hx hb hr hlk hw hS dX0_note_25
    · rw [if_neg g9] at h
      refine lv_iload_n hx hb dX0_note_15 rfl (lv_at hl 0 rfl) ?_
      refine lv_aload_n hx hb dX0_note_16 rfl (lv_at hl 1 rfl) ?_
      refine gX0_21 hx hb hB hown hK hw dX0_note_17 ?_
      refine lv_iload_n hx hb dX0_note_20 rfl (lv_at hl 3 rfl) ?_
      obtain ⟨g10, h⟩ := gB_ok h
      refine r_ald hx hb hK (aO10 hw) (ib_ok g10) dX0_note_21 ?_
      refine lv_icmp_lt (tgt := 26) hx hb dX0_note_22 (by decide) (fun g11 => ?_) (fun g11 => ?_)
      · rw [if_pos g11] at h
        refine lv_aload_n hx hb dX0_note_26 rfl (lv_at hl 1 rfl) ?_
        refine gX0_21 hx hb hB hown hK hw dX0_note_27 ?_
        refine lv_iload_n hx hb dX0_note_30 rfl (lv_at hl 3 rfl) ?_
        refine lv_iload_n hx hb dX0_note_31 rfl (lv_at hl 0 rfl) ?_
        obtain ⟨g12, h⟩ := gB_ok h
        refine sO10 hx hb hK hw hS (fun _ z => z) (ib_ok g12) dX0_note_32 (fun H13 L13 hw hS => ?_)
        refine lv_iconst (v := 0) hx hb dX0_note_33 (by decide) ?_
        refine lv_istore (lv' := [(4, .int 0), (3, .int r7), (0, .ref (ao 6)), (1, .int a1), (2, .int a2)]) hx hb dX0_note_34 hl (by decide) rfl (fun ls hl => ?_)
        exact hL36 FU a1 a2 0 Y (u2 o 10 a2.toNatClampNeg r7) _ _ _ (lv_sub hl [2, 3, 4, 0] rfl) hw hS h
      · rw [if_neg g11] at h
        cases h
        exact e_vW hx hb hr hlk hw hS dX0_note_25
def fX0_tryBehind_L37 (R : Int32 → Int32 → YS → OS → Option (YS × OS)) (v1_37 : Int32) (v2_37 : Int32) (v3_37 : Int32) (v4_37 : Int32) (v5_37 : Int32) : Nat → Int32 → YS → OS → Option (YS × OS)
  | 0, _, _, _ => none
  | n_37 + 1, v6_37, Y_37, o_37 => if (o_37 6 1) ≤ v6_37 then some (Y_37, o_37) else (fX0_isGoer Y_37 o_37 v6_37).bind (fun r2 => (if r2 = 0 then fX0_tryBehind_L37 (R) v1_37 v2_37 v3_37 v4_37 v5_37 n_37 (v6_37 + 1) Y_37 o_37 else if ((v2_37 >>> (v6_37 &&& 31)) &&& 1) = 0 then gB (ib v1_37 6) ((fX0_sendOver Y_37 (u2 o_37 11 v1_37.toNatClampNeg v6_37) v6_37).bind (fun r7 => ((R (v1_37 + 1) (v2_37 ||| (1 <<< (v6_37 &&& 31))) r7.1 r7.2).bind (fun r9 => (fX0_tryBehind_L37 (R) v1_37 v2_37 v3_37 v4_37 v5_37 n_37 (v6_37 + 1) r9.1 (u2 (u2 (u2 r9.2 6 8 v3_37) 6 9 v4_37) 6 10 v5_37)))))) else fX0_tryBehind_L37 (R) v1_37 v2_37 v3_37 v4_37 v5_37 n_37 (v6_37 + 1) Y_37 o_37))
def fX0_tryBehindR : Nat → Int32 → Int32 → YS → OS → Option (YS × OS)
  | 0, _, _, _, _ => none
  | dp + 1, a1, a2, Y, o => (fX0_note Y o a1 a2).bind (fun r14 => (if a1 < 0 then some (r14.1, r14.2) else if a1 < 6 then fX0_tryBehind_L37 (fX0_tryBehindR dp) a1 a2 (r14.2 6 8) (r14.2 6 9) (r14.2 6 10) FU 0 r14.1 r14.2 else some (r14.1, r14.2)))
def fX0_tryBehind (dp : Nat) (Y : YS) (o : OS) (a1 a2 : Int32) : Option (YS × OS) := fX0_tryBehindR dp a1 a2 Y o
abbrev rmX0_tryBehind (dp : Nat) : Room := { frames := dp + 4, cells := 0, slots := 0, locals := dp * 40 + 102 }
set_option maxHeartbeats 4000000 in
set_option maxRecDepth 100000 in
theorem c_X0_tryBehind (l : Launch) (E : En) : ∀ (dp : Nat) (aY : Nat → Nat → Nat) (ao : Nat → Nat) (Y : YS) (o : OS) (a1 a2 : Int32) (r : YS × OS) (h : fX0_tryBehind dp Y o a1 a2 = some r), Met l yX0_tryBehind (kX0_tryBehind :: BIG) (rmX0_tryBehind dp) (Pk E [.ref (ao 6), .int a1, .int a2] (CW E aY ao Y o)) (QW none (AC aY ao) (CW E aY ao r.1 r.2)) 0 0 (AC aY ao) := by
  intro dp
  induction dp with
  | zero =>
    intro aY ao Y o a1 a2 r h
    exact nn h
  | succ dp ihd =>
    intro aY ao Y o a1 a2 r h
    refine Mb (by decide) (Nat.le_of_ble_eq_true rfl) ?_
    intro p e s m below meth c ls hx hb hr hlk hB hown hml _ hK hw hl
    have hS : va_S (AC aY ao) s.heap s.heap [] := va_S.rf
    have hl : lv_has ls 7 [(0, .ref (ao 6)), (1, .int a1), (2, .int a2)] := hl
    rw [fX0_tryBehind, fX0_tryBehindR] at h
    have hL37 : ∀ (n_37 : Nat) (v1_37 : Int32) (v2_37 : Int32) (v3_37 : Int32) (v4_37 : Int32) (v5_37 : Int32) (v6_37 : Int32) (Y_37 : YS) (o_37 : OS) (H_37 : Heap) (L_37 : List Loc) (ls_37 : Array Slot), lv_has ls_37 7 [(0, .ref (ao 6)), (1, .int v1_37), (2, .int v2_37), (3, .int v3_37), (4, .int v4_37), (5, .int v5_37), (6, .int v6_37)] → CW E aY ao Y_37 o_37 H_37 → va_S (AC aY ao) s.heap H_37 L_37 → fX0_tryBehind_L37 (fX0_tryBehindR dp) v1_37 v2_37 v3_37 v4_37 v5_37 n_37 v6_37 Y_37 o_37 = some r → W p l e (rmX0_tryBehind (dp + 1)) s m ([.ref (ao 6), .int a1, .int a2] : List Value).toArray below meth c H_37 L_37 0 0 (MQ below (QW none (AC aY ao) (CW E aY ao r.1 r.2)) ([.ref (ao 6), .int a1, .int a2] : List Value).toArray s 0 0 (AC aY ao)) (F0 m 37 ls_37 []) := by
      intro n_37
      induction n_37 with
      | zero =>
        intro v1_37 v2_37 v3_37 v4_37 v5_37 v6_37 Y_37 o_37 H_37 L_37 ls_37 hl hw hS h
        exact nn h
      | succ n_37 ih_37 =>
        intro v1_37 v2_37 v3_37 v4_37 v5_37 v6_37 Y_37 o_37 H_37 L_37 ls_37 hl hw hS h
        rw [fX0_tryBehind_L37] at h
        refine lv_iload hx hb dX0_tryBehind_37 (lv_at hl 6 rfl) ?_
        refine lv_aload_n hx hb dX0_tryBehind_39 rfl (lv_at hl 0 rfl) ?_
        refine gX0_45 hx hb hB hown hK hw dX0_tryBehind_40 ?_
        refine lv_icmp_ge (tgt := 114) hx hb dX0_tryBehind_43 (by decide) (fun g1 => ?_) (fun g1 => ?_)
        · rw [if_pos g1] at h
          cases h
          exact e_vW hx hb hr hlk hw hS dX0_tryBehind_114
        · rw [if_neg g1] at h
          refine lv_aload_n hx hb dX0_tryBehind_46 rfl (lv_at hl 0 rfl) ?_
          refine lv_iload hx hb dX0_tryBehind_47 (lv_at hl 6 rfl) ?_
          obtain ⟨r2, e2, h⟩ := ob h
          refine k_VR ⟨hx, hb, hml, hown, hB⟩ (c_X0_isGoer l E aY ao Y_37 o_37 v6_37 r2 e2) (clX0_64 hB rfl rfl ⟨by show 0 + 1 ≤ dp + 1 + 4; omega, by show 8 + (2 + 11) + 0 ≤ (dp + 1) * 40 + 102; omega⟩) hK hw (rvO6 hK hw) rfl hl.1 rfl (Nat.le_of_ble_eq_true rfl) dX0_tryBehind_49 ⟨Nat.zero_le _, Nat.zero_le _⟩ ?_
          refine lv_if_eq (tgt := 108) hx hb dX0_tryBehind_52 (by decide) (fun g3 => ?_) (fun g3 => ?_)
          · rw [if_pos g3] at h
            refine lv_iinc (v := (v6_37 + 1)) (lv' := [(6, .int (v6_37 + 1)), (0, .ref (ao 6)), (1, .int v1_37), (2, .int v2_37), (3, .int v3_37), (4, .int v4_37), (5, .int v5_37)]) hx hb dX0_tryBehind_108 hl (k := 6) rfl rfl (by decide) rfl (fun ls hl => ?_)
            refine lv_goto (tgt := 37) hx hb dX0_tryBehind_111 (by decide) ?_
            exact ih_37 v1_37 v2_37 v3_37 v4_37 v5_37 (v6_37 + 1) Y_37 o_37 _ _ _ (lv_sub hl [1, 2, 3, 4, 5, 6, 0] rfl) hw hS h
          · rw [if_neg g3] at h
            refine lv_iload_n hx hb dX0_tryBehind_55 rfl (lv_at hl 2 rfl) ?_
            refine lv_iload hx hb dX0_tryBehind_56 (lv_at hl 6 rfl) ?_
            refine lv_ishr hx hb dX0_tryBehind_58 ?_
            refine lv_iconst (v := 1) hx hb dX0_tryBehind_59 (by decide) ?_
            refine lv_iand hx hb dX0_tryBehind_60 ?_
            refine lv_if_ne (tgt := 108) hx hb dX0_tryBehind_61 (by decide) (fun g4 => ?_) (fun g4 => ?_)
            · rw [if_neg g4] at h
              refine lv_iinc (v := (v6_37 + 1)) (lv' := [(6, .int (v6_37 + 1)), (0, .ref (ao 6)), (1, .int v1_37), (2, .int v2_37), (3, .int v3_37), (4, .int v4_37), (5, .int v5_37)]) hx hb dX0_tryBehind_108 hl (k := 6) rfl rfl (by decide) rfl (fun ls hl => ?_)
              refine lv_goto (tgt := 37) hx hb dX0_tryBehind_111 (by decide) ?_
              exact ih_37 v1_37 v2_37 v3_37 v4_37 v5_37 (v6_37 + 1) Y_37 o_37 _ _ _ (lv_sub hl [1, 2, 3, 4, 5, 6, 0] rfl) hw hS h
            · rw [if_pos g4] at h
              refine lv_aload_n hx hb dX0_tryBehind_64 rfl (lv_at hl 0 rfl) ?_
              refine gX0_24 hx hb hB hown hK hw dX0_tryBehind_65 ?_
              refine lv_iload_n hx hb dX0_tryBehind_68 rfl (lv_at hl 1 rfl) ?_
              refine lv_iload hx hb dX0_tryBehind_69 (lv_at hl 6 rfl) ?_
              obtain ⟨g5, h⟩ := gB_ok h
              refine sO11 hx hb hK hw hS (fun _ z => z) (ib_ok g5) dX0_tryBehind_71 (fun H6 L6 hw hS => ?_)
              refine lv_aload_n hx hb dX0_tryBehind_72 rfl (lv_at hl 0 rfl) ?_
              refine lv_iload hx hb dX0_tryBehind_73 (lv_at hl 6 rfl) ?_
              obtain ⟨r7, e7, h⟩ := ob h
              refine k_VWv ⟨hx, hb, hml, hown, hB⟩ (c_X0_sendOver l E aY ao Y_37 (u2 o_37 11 v1_37.toNatClampNeg v6_37) v6_37 r7 e7) (clX0_68 hB rfl rfl ⟨by show 3 + 1 ≤ dp + 1 + 4; omega, by show 8 + (3 + 11) + 80 ≤ (dp + 1) * 40 + 102; omega⟩) hK hw (rvO6 hK hw) rfl hl.1 rfl (Nat.le_of_ble_eq_true rfl) dX0_tryBehind_75 ⟨Nat.zero_le _, Nat.zero_le _⟩ hS (fun _ z => z) (fun H8 L8 hw _ _ hS => ?_)
              refine lv_aload_n hx hb dX0_tryBehind_78 rfl (lv_at hl 0 rfl) ?_
              refine lv_iload_n hx hb dX0_tryBehind_79 rfl (lv_at hl 1 rfl) ?_
              refine lv_iconst (v := 1) hx hb dX0_tryBehind_80 (by decide) ?_
              refine lv_iadd hx hb dX0_tryBehind_81 ?_
              refine lv_iload_n hx hb dX0_tryBehind_82 rfl (lv_at hl 2 rfl) ?_
              refine lv_iconst (v := 1) hx hb dX0_tryBehind_83 (by decide) ?_
              refine lv_iload hx hb dX0_tryBehind_84 (lv_at hl 6 rfl) ?_
              refine lv_ishl hx hb dX0_tryBehind_86 ?_
              refine lv_ior hx hb dX0_tryBehind_87 ?_
              obtain ⟨r9, e9, h⟩ := ob h
              refine k_VWv ⟨hx, hb, hml, hown, hB⟩ (ihd aY ao r7.1 r7.2 (v1_37 + 1) (v2_37 ||| (1 <<< (v6_37 &&& 31))) r9 e9) (clX0_77 hB rfl rfl ⟨by show dp + 4 + 1 ≤ dp + 1 + 4; omega, by show 8 + (7 + 11) + (dp * 40 + 102) ≤ (dp + 1) * 40 + 102; omega⟩) hK hw (rvO6 hK hw) rfl hl.1 rfl (Nat.le_of_ble_eq_true rfl) dX0_tryBehind_88 ⟨Nat.zero_le _, Nat.zero_le _⟩ hS (fun _ z => z) (fun H10 L10 hw _ _ hS => ?_)
              refine lv_aload_n hx hb dX0_tryBehind_91 rfl (lv_at hl 0 rfl) ?_
              refine lv_iload_n hx hb dX0_tryBehind_92 rfl (lv_at hl 3 rfl) ?_
              refine pX0_92 hx hb hB hown hK hw hS (fun _ z => z) dX0_tryBehind_93 (fun H11 L11 hw hS => ?_)
              refine lv_aload_n hx hb dX0_tryBehind_96 rfl (lv_at hl 0 rfl) ?_
              refine lv_iload hx hb dX0_tryBehind_97 (lv_at hl 4 rfl) ?_
              refine pX0_95 hx hb hB hown hK hw hS (fun _ z => z) dX0_tryBehind_99 (fun H12 L12 hw hS => ?_)
              refine lv_aload_n hx hb dX0_tryBehind_102 rfl (lv_at hl 0 rfl) ?_
              refine lv_iload hx hb dX0_tryBehind_103 (lv_at hl 5 rfl) ?_
              refine pX0_98 hx hb hB hown hK hw hS (fun _ z => z) dX0_tryBehind_105 (fun H13 L13 hw hS => ?_)
              refine lv_iinc (v := (v6_37 + 1)) (lv' := [(6, .int (v6_37 + 1)), (0, .ref (ao 6)), (1, .int v1_37), (2, .int v2_37), (3, .int v3_37), (4, .int v4_37), (5, .int v5_37)]) hx hb dX0_tryBehind_108 hl (k := 6) rfl rfl (by decide) rfl (fun ls hl => ?_)
              refine lv_goto (tgt := 37) hx hb dX0_tryBehind_111 (by decide) ?_
              exact ih_37 v1_37 v2_37 v3_37 v4_37 v5_37 (v6_37 + 1) r9.1 (u2 (u2 (u2 r9.2 6 8 v3_37) 6 9 v4_37) 6 10 v5_37) _ _ _ (lv_sub hl [1, 2, 3, 4, 5, 6, 0] rfl) hw hS h
    refine lv_aload_n hx hb dX0_tryBehind_0 rfl (lv_at hl 0 rfl) ?_
    refine lv_iload_n hx hb dX0_tryBehind_1 rfl (lv_at hl 1 rfl) ?_
    refine lv_iload_n hx hb dX0_tryBehind_2 rfl (lv_at hl 2 rfl) ?_
    obtain ⟨r14, e14, h⟩ := ob h
    refine k_VWv ⟨hx, hb, hml, hown, hB⟩ (c_X0_note l E aY ao Y o a1 a2 r14 e14) (clX0_89 hB rfl rfl ⟨by show 2 + 1 ≤ dp + 1 + 4; omega, by show 8 + (5 + 11) + 60 ≤ (dp + 1) * 40 + 102; omega⟩) hK hw (rvO6 hK hw) rfl hl.1 rfl (Nat.le_of_ble_eq_true rfl) dX0_tryBehind_3 ⟨Nat.zero_le _, Nat.zero_le _⟩ hS (fun _ z => z) (fun H15 L15 hw _ _ hS => ?_)
    refine lv_iload_n hx hb dX0_tryBehind_6 rfl (lv_at hl 1 rfl) ?_
    refine lv_if_lt (tgt := 16) hx hb dX0_tryBehind_7 (by decide) (fun g16 => ?_) (fun g16 => ?_)
    · rw [if_pos g16] at h
      cases h
      exact e_vW hx hb hr hlk hw hS dX0_tryBehind_16
    · rw [if_neg g16] at h
      refine lv_iload_n hx hb dX0_tryBehind_10 rfl (lv_at hl 1 rfl) ?_
      refine lv_bipush (v := 6) hx hb dX0_tryBehind_11 (by decide) ?_
      refine lv_icmp_lt (tgt := 17) hx hb dX0_tryBehind_13 (by decide) (fun g17 => ?_) (fun g17 => ?_)
      · rw [if_pos g17] at h
        refine lv_aload_n hx hb dX0_tryBehind_17 rfl (lv_at hl 0 rfl) ?_
        refine gX0_92 hx hb hB hown hK hw dX0_tryBehind_18 ?_
        refine lv_istore_n (lv' := [(3, .int (r14.2 6 8)), (0, .ref (ao 6)), (1, .int a1), (2, .int a2)]) hx hb dX0_tryBehind_21 rfl hl (by decide) rfl (fun ls hl => ?_)
        refine lv_aload_n hx hb dX0_tryBehind_22 rfl (lv_at hl 1 rfl) ?_
        refine gX0_95 hx hb hB hown hK hw dX0_tryBehind_23 ?_
        refine lv_istore (lv' := [(4, .int (r14.2 6 9)), (3, .int (r14.2 6 8)), (0, .ref (ao 6)), (1, .int a1), (2, .int a2)]) hx hb dX0_tryBehind_26 hl (by decide) rfl (fun ls hl => ?_)
        refine lv_aload_n hx hb dX0_tryBehind_28 rfl (lv_at hl 2 rfl) ?_
        refine gX0_98 hx hb hB hown hK hw dX0_tryBehind_29 ?_
        refine lv_istore (lv' := [(5, .int (r14.2 6 10)), (4, .int (r14.2 6 9)), (3, .int (r14.2 6 8)), (0, .ref (ao 6)), (1, .int a1), (2, .int a2)]) hx hb dX0_tryBehind_32 hl (by decide) rfl (fun ls hl => ?_)
        refine lv_iconst (v := 0) hx hb dX0_tryBehind_34 (by decide) ?_
        refine lv_istore (lv' := [(6, .int 0), (5, .int (r14.2 6 10)), (4, .int (r14.2 6 9)), (3, .int (r14.2 6 8)), (0, .ref (ao 6)), (1, .int a1), (2, .int a2)]) hx hb dX0_tryBehind_35 hl (by decide) rfl (fun ls hl => ?_)
        exact hL37 FU a1 a2 (r14.2 6 8) (r14.2 6 9) (r14.2 6 10) 0 r14.1 r14.2 _ _ _ (lv_sub hl [4, 5, 6, 3, 2, 1, 0] rfl) hw hS h
      · rw [if_neg g17] at h
        cases h
        exact e_vW hx hb hr hlk hw hS dX0_tryBehind_16
def fX0_tryAllOrders_L2 : Nat → Int32 → YS → OS → Option (YS × OS)
  | 0, _, _, _ => none
  | n_2 + 1, v1_2, Y_2, o_2 => if 64 ≤ v1_2 then (fX0_begin Y_2 o_2).bind (fun r2 => ((fX0_tryBehind 8 r2.1 r2.2 0 0).bind (fun r4 => (some (r4.1, r4.2))))) else gB (ib v1_2 64) (fX0_tryAllOrders_L2 n_2 (v1_2 + 1) Y_2 (u2 o_2 10 v1_2.toNatClampNeg 1000000))
def fX0_tryAllOrders (Y : YS) (o : OS) : Option (YS × OS) := fX0_tryAllOrders_L2 FU 0 Y o
abbrev rmX0_tryAllOrders : Room := { frames := 13, cells := 0, slots := 0, locals := 448 }
set_option maxHeartbeats 4000000 in
set_option maxRecDepth 100000 in
theorem c_X0_tryAllOrders (l : Launch) (E : En) (aY : Nat → Nat → Nat) (ao : Nat → Nat) (Y : YS) (o : OS) (r : YS × OS) (h : fX0_tryAllOrders Y o = some r) : Met l yX0_tryAllOrders (kX0_tryAllOrders :: BIG) rmX0_tryAllOrders (Pk E [.ref (ao 6)] (CW E aY ao Y o)) (QW none (AC aY ao) (CW E aY ao r.1 r.2)) 0 0 (AC aY ao) := by
  refine Mb (by decide) (Nat.le_of_ble_eq_true rfl) ?_
  intro p e s m below meth c ls hx hb hr hlk hB hown hml _ hK hw hl
  have hS : va_S (AC aY ao) s.heap s.heap [] := va_S.rf
  have hl : lv_has ls 2 [(0, .ref (ao 6))] := hl
  rw [fX0_tryAllOrders] at h
  have hL2 : ∀ (n_2 : Nat) (v1_2 : Int32) (Y_2 : YS) (o_2 : OS) (H_2 : Heap) (L_2 : List Loc) (ls_2 : Array Slot), lv_has ls_2 2 [(0, .ref (ao 6)), (1, .int v1_2)] → CW E aY ao Y_2 o_2 H_2 → va_S (AC aY ao) s.heap H_2 L_2 → fX0_tryAllOrders_L2 n_2 v1_2 Y_2 o_2 = some r → W p l e rmX0_tryAllOrders s m ([.ref (ao 6)] : List Value).toArray below meth c H_2 L_2 0 0 (MQ below (QW none (AC aY ao) (CW E aY ao r.1 r.2)) ([.ref (ao 6)] : List Value).toArray s 0 0 (AC aY ao)) (F0 m 2 ls_2 []) := by
    intro n_2
    induction n_2 with
    | zero =>
      intro v1_2 Y_2 o_2 H_2 L_2 ls_2 hl hw hS h
      exact nn h
    | succ n_2 ih_2 =>
      intro v1_2 Y_2 o_2 H_2 L_2 ls_2 hl hw hS h
      rw [fX0_tryAllOrders_L2] at h
      refine lv_iload_n hx hb dX0_tryAllOrders_2 rfl (lv_at hl 1 rfl) ?_
      refine lv_bipush (v := 64) hx hb dX0_tryAllOrders_3 (by decide) ?_
      refine lv_icmp_ge (tgt := 22) hx hb dX0_tryAllOrders_5 (by decide) (fun g1 => ?_) (fun g1 => ?_)
      · rw [if_pos g1] at h
        refine lv_aload_n hx hb dX0_tryAllOrders_22 rfl (lv_at hl 0 rfl) ?_
        obtain ⟨r2, e2, h⟩ := ob h
        refine k_VWv ⟨hx, hb, hml, hown, hB⟩ (c_X0_begin l E aY ao Y_2 o_2 r2 e2) (clX0_61 hB rfl rfl ⟨Nat.le_of_ble_eq_true rfl, Nat.le_of_ble_eq_true rfl⟩) hK hw (rvO6 hK hw) rfl hl.1 rfl (Nat.le_of_ble_eq_true rfl) dX0_tryAllOrders_23 ⟨Nat.zero_le _, Nat.zero_le _⟩ hS (fun _ z => z) (fun H3 L3 hw _ _ hS => ?_)
        refine lv_aload_n hx hb dX0_tryAllOrders_26 rfl (lv_at hl 0 rfl) ?_
        refine lv_iconst (v := 0) hx hb dX0_tryAllOrders_27 (by decide) ?_
        refine lv_iconst (v := 0) hx hb dX0_tryAllOrders_28 (by decide) ?_
        obtain ⟨r4, e4, h⟩ := ob h
        refine k_VWv ⟨hx, hb, hml, hown, hB⟩ (c_X0_tryBehind l E 8 aY ao r2.1 r2.2 0 0 r4 e4) (clX0_77 hB rfl rfl ⟨Nat.le_of_ble_eq_true rfl, Nat.le_of_ble_eq_true rfl⟩) hK hw (rvO6 hK hw) rfl hl.1 rfl (Nat.le_of_ble_eq_true rfl) dX0_tryAllOrders_29 ⟨Nat.zero_le _, Nat.zero_le _⟩ hS (fun _ z => z) (fun H5 L5 hw _ _ hS => ?_)
        cases h
        exact e_vW hx hb hr hlk hw hS dX0_tryAllOrders_32
      · rw [if_neg g1] at h
        refine lv_aload_n hx hb dX0_tryAllOrders_8 rfl (lv_at hl 0 rfl) ?_
        refine gX0_21 hx hb hB hown hK hw dX0_tryAllOrders_9 ?_
        refine lv_iload_n hx hb dX0_tryAllOrders_12 rfl (lv_at hl 1 rfl) ?_
        refine lv_ldc hx hb hown (hB _ kcX0_76) dX0_tryAllOrders_13 ?_
        obtain ⟨g6, h⟩ := gB_ok h
        refine sO10 hx hb hK hw hS (fun _ z => z) (ib_ok g6) dX0_tryAllOrders_15 (fun H7 L7 hw hS => ?_)
        refine lv_iinc (v := (v1_2 + 1)) (lv' := [(1, .int (v1_2 + 1)), (0, .ref (ao 6))]) hx hb dX0_tryAllOrders_16 hl (k := 1) rfl rfl (by decide) rfl (fun ls hl => ?_)
        refine lv_goto (tgt := 2) hx hb dX0_tryAllOrders_19 (by decide) ?_
        exact ih_2 (v1_2 + 1) Y_2 (u2 o_2 10 v1_2.toNatClampNeg 1000000) _ _ _ (lv_sub hl [1, 0] rfl) hw hS h
  refine lv_iconst (v := 0) hx hb dX0_tryAllOrders_0 (by decide) ?_
  refine lv_istore_n (lv' := [(1, .int 0), (0, .ref (ao 6))]) hx hb dX0_tryAllOrders_1 rfl hl (by decide) rfl (fun ls hl => ?_)
  exact hL2 FU 0 Y o _ _ _ (lv_sub hl [1, 0] rfl) hw hS h
def fX0_soonestOf (Y : YS) (o : OS) (a1 : Int32) : Option (Int32) := if a1 < 0 then some 1000000 else if 64 ≤ a1 then some 1000000 else gB (ib a1 64) (some (o 10 a1.toNatClampNeg))
abbrev rmX0_soonestOf : Room := { frames := 0, cells := 0, slots := 0, locals := 0 }
set_option maxHeartbeats 4000000 in
set_option maxRecDepth 100000 in
theorem c_X0_soonestOf (l : Launch) (E : En) (aY : Nat → Nat → Nat) (ao : Nat → Nat) (Y : YS) (o : OS) (a1 : Int32) (r : Int32) (h : fX0_soonestOf Y o a1 = some r) : Met l yX0_soonestOf (kX0_soonestOf :: BIG) rmX0_soonestOf (Pk E [.ref (ao 6), .int a1] (CW E aY ao Y o)) (QcRead r) 0 0 (fun _ => False) := by
  refine Mb (by decide) (Nat.le_of_ble_eq_true rfl) ?_
  intro p e s m below meth c ls hx hb hr hlk hB hown hml _ hK hw hl
  have hl : lv_has ls 2 [(0, .ref (ao 6)), (1, .int a1)] := hl
  rw [fX0_soonestOf] at h
  refine lv_iload_n hx hb dX0_soonestOf_0 rfl (lv_at hl 1 rfl) ?_
  refine lv_if_lt (tgt := 19) hx hb dX0_soonestOf_1 (by decide) (fun g1 => ?_) (fun g1 => ?_)
  · rw [if_pos g1] at h
    refine lv_ldc hx hb hown (hB _ kcX0_76) dX0_soonestOf_19 ?_
    exact e_zR hx hb hr hlk rfl h dX0_soonestOf_21
  · rw [if_neg g1] at h
    refine lv_iload_n hx hb dX0_soonestOf_4 rfl (lv_at hl 1 rfl) ?_
    refine lv_bipush (v := 64) hx hb dX0_soonestOf_5 (by decide) ?_
    refine lv_icmp_ge (tgt := 19) hx hb dX0_soonestOf_7 (by decide) (fun g2 => ?_) (fun g2 => ?_)
    · rw [if_pos g2] at h
      refine lv_ldc hx hb hown (hB _ kcX0_76) dX0_soonestOf_19 ?_
      exact e_zR hx hb hr hlk rfl h dX0_soonestOf_21
    · rw [if_neg g2] at h
      refine lv_aload_n hx hb dX0_soonestOf_10 rfl (lv_at hl 0 rfl) ?_
      refine gX0_21 hx hb hB hown hK hw dX0_soonestOf_11 ?_
      refine lv_iload_n hx hb dX0_soonestOf_14 rfl (lv_at hl 1 rfl) ?_
      obtain ⟨g3, h⟩ := gB_ok h
      refine r_ald hx hb hK (aO10 hw) (ib_ok g3) dX0_soonestOf_15 ?_
      refine lv_goto (tgt := 21) hx hb dX0_soonestOf_16 (by decide) ?_
      exact e_zR hx hb hr hlk rfl h dX0_soonestOf_21
def fX0_inBestOrder (Y : YS) (o : OS) (a1 : Int32) : Option (Int32) := if a1 < 0 then some (-4) else (fJ6_bitCount_0f7a4 (o 6 0)).bind (fun r2 => (if r2 ≤ a1 then some (-4) else if 6 ≤ a1 then some (-4) else gB (ib a1 6) (some (o 12 a1.toNatClampNeg))))
abbrev rmX0_inBestOrder : Room := { frames := 1, cells := 0, slots := 0, locals := 20 }
set_option maxHeartbeats 4000000 in
set_option maxRecDepth 100000 in
theorem c_X0_inBestOrder (l : Launch) (E : En) (aY : Nat → Nat → Nat) (ao : Nat → Nat) (Y : YS) (o : OS) (a1 : Int32) (r : Int32) (h : fX0_inBestOrder Y o a1 = some r) : Met l yX0_inBestOrder (kX0_inBestOrder :: BIG) rmX0_inBestOrder (Pk E [.ref (ao 6), .int a1] (CW E aY ao Y o)) (QcRead r) 0 0 (fun _ => False) := by
  refine Mb (by decide) (Nat.le_of_ble_eq_true rfl) ?_
  intro p e s m below meth c ls hx hb hr hlk hB hown hml _ hK hw hl
  have hl : lv_has ls 2 [(0, .ref (ao 6)), (1, .int a1)] := hl
  rw [fX0_inBestOrder] at h
  refine lv_iload_n hx hb dX0_inBestOrder_0 rfl (lv_at hl 1 rfl) ?_
  refine lv_if_lt (tgt := 30) hx hb dX0_inBestOrder_1 (by decide) (fun g1 => ?_) (fun g1 => ?_)
  · rw [if_pos g1] at h
    refine lv_bipush (v := (-4)) hx hb dX0_inBestOrder_30 (by decide) ?_
    exact e_zR hx hb hr hlk rfl h dX0_inBestOrder_32
  · rw [if_neg g1] at h
    refine lv_iload_n hx hb dX0_inBestOrder_4 rfl (lv_at hl 1 rfl) ?_
    refine lv_aload_n hx hb dX0_inBestOrder_5 rfl (lv_at hl 0 rfl) ?_
    refine gX0_30 hx hb hB hown hK hw dX0_inBestOrder_6 ?_
    obtain ⟨r2, e2, h⟩ := ob h
    refine k_SR ⟨hx, hb, hml, hown, hB⟩ (c_J6_bitCount_0f7a4 l E (o 6 0) r2 e2) (clX0_81 hB rfl rfl ⟨Nat.le_of_ble_eq_true rfl, Nat.le_of_ble_eq_true rfl⟩) hK trivial rfl hl.1 rfl (Nat.le_of_ble_eq_true rfl) dX0_inBestOrder_9 ⟨Nat.zero_le _, Nat.zero_le _⟩ ?_
    refine lv_icmp_ge (tgt := 30) hx hb dX0_inBestOrder_12 (by decide) (fun g3 => ?_) (fun g3 => ?_)
    · rw [if_pos g3] at h
      refine lv_bipush (v := (-4)) hx hb dX0_inBestOrder_30 (by decide) ?_
      exact e_zR hx hb hr hlk rfl h dX0_inBestOrder_32
    · rw [if_neg g3] at h
      refine lv_iload_n hx hb dX0_inBestOrder_15 rfl (lv_at hl 1 rfl) ?_
      refine lv_bipush (v := 6) hx hb dX0_inBestOrder_16 (by decide) ?_
      refine lv_icmp_ge (tgt := 30) hx hb dX0_inBestOrder_18 (by decide) (fun g4 => ?_) (fun g4 => ?_)
      · rw [if_pos g4] at h
        refine lv_bipush (v := (-4)) hx hb dX0_inBestOrder_30 (by decide) ?_
        exact e_zR hx hb hr hlk rfl h dX0_inBestOrder_32
      · rw [if_neg g4] at h
        refine lv_aload_n hx hb dX0_inBestOrder_21 rfl (lv_at hl 0 rfl) ?_
        refine gX0_27 hx hb hB hown hK hw dX0_inBestOrder_22 ?_
        refine lv_iload_n hx hb dX0_inBestOrder_25 rfl (lv_at hl 1 rfl) ?_
        obtain ⟨g5, h⟩ := gB_ok h
        refine r_ald hx hb hK (aO12 hw) (ib_ok g5) dX0_inBestOrder_26 ?_
        refine lv_goto (tgt := 32) hx hb dX0_inBestOrder_27 (by decide) ?_
        exact e_zR hx hb hr hlk rfl h dX0_inBestOrder_32
def fX0_fewestToStay_L7 (Y : YS) (o : OS) (v1_7 : Int32) : Nat → Int32 → Int32 → Option (Int32)
  | 0, _, _ => none
  | n_7 + 1, v2_7, v3_7 => if 64 ≤ v3_7 then some v2_7 else if (v3_7 &&& ((o 6 0) ^^^ (-1))) = 0 then (fJ6_bitCount_0f7a4 v3_7).bind (fun r6 => ((fJ6_bitCount_0f7a4 v2_7).bind (fun r7 => (if r7 ≤ r6 then fX0_fewestToStay_L7 Y o v1_7 n_7 v2_7 (v3_7 + 1) else (fX0_soonestOf Y o ((o 6 0) &&& (v3_7 ^^^ (-1)))).bind (fun r9 => (if v1_7 < r9 then fX0_fewestToStay_L7 Y o v1_7 n_7 v2_7 (v3_7 + 1) else fX0_fewestToStay_L7 Y o v1_7 n_7 v3_7 (v3_7 + 1))))))) else (fJ6_bitCount_0f7a4 v3_7).bind (fun r3 => ((fJ6_bitCount_0f7a4 v2_7).bind (fun r4 => (if r4 ≤ r3 then fX0_fewestToStay_L7 Y o v1_7 n_7 v2_7 (v3_7 + 1) else fX0_fewestToStay_L7 Y o v1_7 n_7 v2_7 (v3_7 + 1)))))
def fX0_fewestToStay (Y : YS) (o : OS) (a1 : Int32) : Option (Int32) := fX0_fewestToStay_L7 Y o a1 FU (o 6 0) 0
abbrev rmX0_fewestToStay : Room := { frames := 1, cells := 0, slots := 0, locals := 21 }
set_option maxHeartbeats 4000000 in
set_option maxRecDepth 100000 in
theorem c_X0_fewestToStay (l : Launch) (E : En) (aY : Nat → Nat → Nat) (ao : Nat → Nat) (Y : YS) (o : OS) (a1 : Int32) (r : Int32) (h : fX0_fewestToStay Y o a1 = some r) : Met l yX0_fewestToStay (kX0_fewestToStay :: BIG) rmX0_fewestToStay (Pk E [.ref (ao 6), .int a1] (CW E aY ao Y o)) (QcRead r) 0 0 (fun _ => False) := by
  refine Mb (by decide) (Nat.le_of_ble_eq_true rfl) ?_
  intro p e s m below meth c ls hx hb hr hlk hB hown hml _ hK hw hl
  have hl : lv_has ls 6 [(0, .ref (ao 6)), (1, .int a1)] := hl
  rw [fX0_fewestToStay] at h
  have hL7 : ∀ (n_7 : Nat) (v1_7 : Int32) (v2_7 : Int32) (v3_7 : Int32) (ls_7 : Array Slot), lv_has ls_7 6 [(0, .ref (ao 6)), (1, .int v1_7), (2, .int v2_7), (3, .int v3_7)] → fX0_fewestToStay_L7 Y o v1_7 n_7 v2_7 v3_7 = some r → W p l e rmX0_fewestToStay s m ([.ref (ao 6), .int a1] : List Value).toArray below meth c s.heap [] 0 0 (MQ below (QcRead r) ([.ref (ao 6), .int a1] : List Value).toArray s 0 0 (fun _ => False)) (F0 m 7 ls_7 []) := by
    intro n_7
    induction n_7 with
    | zero =>
      intro v1_7 v2_7 v3_7 ls_7 hl h
      exact nn h
    | succ n_7 ih_7 =>
      intro v1_7 v2_7 v3_7 ls_7 hl h
      rw [fX0_fewestToStay_L7] at h
      refine lv_iload_n hx hb dX0_fewestToStay_7 rfl (lv_at hl 3 rfl) ?_
      refine lv_bipush (v := 64) hx hb dX0_fewestToStay_8 (by decide) ?_
      refine lv_icmp_ge (tgt := 83) hx hb dX0_fewestToStay_10 (by decide) (fun g1 => ?_) (fun g1 => ?_)
      · rw [if_pos g1] at h
        refine lv_iload_n hx hb dX0_fewestToStay_83 rfl (lv_at hl 2 rfl) ?_
        exact e_zR hx hb hr hlk rfl h dX0_fewestToStay_84
      · rw [if_neg g1] at h
        refine lv_iload_n hx hb dX0_fewestToStay_13 rfl (lv_at hl 3 rfl) ?_
        refine lv_aload_n hx hb dX0_fewestToStay_14 rfl (lv_at hl 0 rfl) ?_
        refine gX0_30 hx hb hB hown hK hw dX0_fewestToStay_15 ?_
        refine lv_iconst (v := (-1)) hx hb dX0_fewestToStay_18 (by decide) ?_
        refine lv_ixor hx hb dX0_fewestToStay_19 ?_
        refine lv_iand hx hb dX0_fewestToStay_20 ?_
        refine lv_if_ne (tgt := 28) hx hb dX0_fewestToStay_21 (by decide) (fun g2 => ?_) (fun g2 => ?_)
        · rw [if_neg g2] at h
          refine lv_iconst (v := 0) hx hb dX0_fewestToStay_28 (by decide) ?_
          refine lv_istore (lv' := [(4, .int 0), (0, .ref (ao 6)), (1, .int v1_7), (2, .int v2_7), (3, .int v3_7)]) hx hb dX0_fewestToStay_29 hl (by decide) rfl (fun ls hl => ?_)
          refine lv_iload_n hx hb dX0_fewestToStay_31 rfl (lv_at hl 4 rfl) ?_
          obtain ⟨r3, e3, h⟩ := ob h
          refine k_SR ⟨hx, hb, hml, hown, hB⟩ (c_J6_bitCount_0f7a4 l E v3_7 r3 e3) (clX0_81 hB rfl rfl ⟨Nat.le_of_ble_eq_true rfl, Nat.le_of_ble_eq_true rfl⟩) hK trivial rfl hl.1 rfl (Nat.le_of_ble_eq_true rfl) dX0_fewestToStay_32 ⟨Nat.zero_le _, Nat.zero_le _⟩ ?_
          refine lv_iload_n hx hb dX0_fewestToStay_35 rfl (lv_at hl 3 rfl) ?_
          obtain ⟨r4, e4, h⟩ := ob h
          refine k_SR ⟨hx, hb, hml, hown, hB⟩ (c_J6_bitCount_0f7a4 l E v2_7 r4 e4) (clX0_81 hB rfl rfl ⟨Nat.le_of_ble_eq_true rfl, Nat.le_of_ble_eq_true rfl⟩) hK trivial rfl hl.1 rfl (Nat.le_of_ble_eq_true rfl) dX0_fewestToStay_36 ⟨Nat.zero_le _, Nat.zero_le _⟩ ?_
          refine lv_icmp_ge (tgt := 46) hx hb dX0_fewestToStay_39 (by decide) (fun g5 => ?_) (fun g5 => ?_)
          · rw [if_pos g5] at h
            refine lv_iconst (v := 0) hx hb dX0_fewestToStay_46 (by decide) ?_
            refine lv_istore (lv' := [(5, .int 0), (4, .int 0), (0, .ref (ao 6)), (1, .int v1_7), (2, .int v2_7), (3, .int v3_7)]) hx hb dX0_fewestToStay_47 hl (by decide) rfl (fun ls hl => ?_)
            refine lv_iload hx hb dX0_fewestToStay_49 (lv_at hl 1 rfl) ?_
            refine lv_if_eq (tgt := 77) hx hb dX0_fewestToStay_51 (by decide) (fun _ => ?_) (fun g => absurd (by decide) g)
            refine lv_iinc (v := (v3_7 + 1)) (lv' := [(3, .int (v3_7 + 1)), (5, .int 0), (4, .int 0), (0, .ref (ao 6)), (1, .int v1_7), (2, .int v2_7)]) hx hb dX0_fewestToStay_77 hl (k := 5) rfl rfl (by decide) rfl (fun ls hl => ?_)
            refine lv_goto (tgt := 7) hx hb dX0_fewestToStay_80 (by decide) ?_
            exact ih_7 v1_7 v2_7 (v3_7 + 1) _ (lv_sub hl [3, 4, 5, 0] rfl) h
          · rw [if_neg g5] at h
            refine lv_iconst (v := 1) hx hb dX0_fewestToStay_42 (by decide) ?_
            refine lv_goto (tgt := 47) hx hb dX0_fewestToStay_43 (by decide) ?_
            refine lv_istore (lv' := [(5, .int 1), (4, .int 0), (0, .ref (ao 6)), (1, .int v1_7), (2, .int v2_7), (3, .int v3_7)]) hx hb dX0_fewestToStay_47 hl (by decide) rfl (fun ls hl => ?_)
            refine lv_iload hx hb dX0_fewestToStay_49 (lv_at hl 1 rfl) ?_
            refine lv_if_eq (tgt := 77) hx hb dX0_fewestToStay_51 (by decide) (fun _ => ?_) (fun g => absurd (by decide) g)
            refine lv_iinc (v := (v3_7 + 1)) (lv' := [(3, .int (v3_7 + 1)), (5, .int 1), (4, .int 0), (0, .ref (ao 6)), (1, .int v1_7), (2, .int v2_7)]) hx hb dX0_fewestToStay_77 hl (k := 5) rfl rfl (by decide) rfl (fun ls hl => ?_)
            refine lv_goto (tgt := 7) hx hb dX0_fewestToStay_80 (by decide) ?_
            exact ih_7 v1_7 v2_7 (v3_7 + 1) _ (lv_sub hl [3, 4, 5, 0] rfl) h
        · rw [if_pos g2] at h
          refine lv_iconst (v := 1) hx hb dX0_fewestToStay_24 (by decide) ?_
          refine lv_goto (tgt := 29) hx hb dX0_fewestToStay_25 (by decide) ?_
          refine lv_istore (lv' := [(4, .int 1), (0, .ref (ao 6)), (1, .int v1_7), (2, .int v2_7), (3, .int v3_7)]) hx hb dX0_fewestToStay_29 hl (by decide) rfl (fun ls hl => ?_)
          refine lv_iload_n hx hb dX0_fewestToStay_31 rfl (lv_at hl 4 rfl) ?_
          obtain ⟨r6, e6, h⟩ := ob h
          refine k_SR ⟨hx, hb, hml, hown, hB⟩ (c_J6_bitCount_0f7a4 l E v3_7 r6 e6) (clX0_81 hB rfl rfl ⟨Nat.le_of_ble_eq_true rfl, Nat.le_of_ble_eq_true rfl⟩) hK trivial rfl hl.1 rfl (Nat.le_of_ble_eq_true rfl) dX0_fewestToStay_32 ⟨Nat.zero_le _, Nat.zero_le _⟩ ?_
          refine lv_iload_n hx hb dX0_fewestToStay_35 rfl (lv_at hl 3 rfl) ?_
          obtain ⟨r7, e7, h⟩ := ob h
          refine k_SR ⟨hx, hb, hml, hown, hB⟩ (c_J6_bitCount_0f7a4 l E v2_7 r7 e7) (clX0_81 hB rfl rfl ⟨Nat.le_of_ble_eq_true rfl, Nat.le_of_ble_eq_true rfl⟩) hK trivial rfl hl.1 rfl (Nat.le_of_ble_eq_true rfl) dX0_fewestToStay_36 ⟨Nat.zero_le _, Nat.zero_le _⟩ ?_
          refine lv_icmp_ge (tgt := 46) hx hb dX0_fewestToStay_39 (by decide) (fun g8 => ?_) (fun g8 => ?_)
          · rw [if_pos g8] at h
            refine lv_iconst (v := 0) hx hb dX0_fewestToStay_46 (by decide) ?_
            refine lv_istore (lv' := [(5, .int 0), (4, .int 1), (0, .ref (ao 6)), (1, .int v1_7), (2, .int v2_7), (3, .int v3_7)]) hx hb dX0_fewestToStay_47 hl (by decide) rfl (fun ls hl => ?_)
            refine lv_iload hx hb dX0_fewestToStay_49 (lv_at hl 1 rfl) ?_
            refine lv_if_eq (tgt := 77) hx hb dX0_fewestToStay_51 (by decide) (fun g => absurd g (by decide)) (fun _ => ?_)
            refine lv_iload hx hb dX0_fewestToStay_54 (lv_at hl 0 rfl) ?_
            refine lv_if_eq (tgt := 77) hx hb dX0_fewestToStay_56 (by decide) (fun _ => ?_) (fun g => absurd (by decide) g)
            refine lv_iinc (v := (v3_7 + 1)) (lv' := [(3, .int (v3_7 + 1)), (5, .int 0), (4, .int 1), (0, .ref (ao 6)), (1, .int v1_7), (2, .int v2_7)]) hx hb dX0_fewestToStay_77 hl (k := 5) rfl rfl (by decide) rfl (fun ls hl => ?_)
            refine lv_goto (tgt := 7) hx hb dX0_fewestToStay_80 (by decide) ?_
            exact ih_7 v1_7 v2_7 (v3_7 + 1) _ (lv_sub hl [3, 4, 5, 0] rfl) h
          · rw [if_neg g8] at h
            refine lv_iconst (v := 1) hx hb dX0_fewestToStay_42 (by decide) ?_
            refine lv_goto (tgt := 47) hx hb dX0_fewestToStay_43 (by decide) ?_
            refine lv_istore (lv' := [(5, .int 1), (4, .int 1), (0, .ref (ao 6)), (1, .int v1_7), (2, .int v2_7), (3, .int v3_7)]) hx hb dX0_fewestToStay_47 hl (by decide) rfl (fun ls hl => ?_)
            refine lv_iload hx hb dX0_fewestToStay_49 (lv_at hl 1 rfl) ?_
            refine lv_if_eq (tgt := 77) hx hb dX0_fewestToStay_51 (by decide) (fun g => absurd g (by decide)) (fun _ => ?_)
            refine lv_iload hx hb dX0_fewestToStay_54 (lv_at hl 0 rfl) ?_
            refine lv_if_eq (tgt := 77) hx hb dX0_fewestToStay_56 (by decide) (fun g => absurd g (by decide)) (fun _ => ?_)
            refine lv_aload_n hx hb dX0_fewestToStay_59 rfl (lv_at hl 2 rfl) ?_
            refine lv_aload_n hx hb dX0_fewestToStay_60 rfl (lv_at hl 2 rfl) ?_
            refine gX0_30 hx hb hB hown hK hw dX0_fewestToStay_61 ?_
            refine lv_iload_n hx hb dX0_fewestToStay_64 rfl (lv_at hl 5 rfl) ?_
            refine lv_iconst (v := (-1)) hx hb dX0_fewestToStay_65 (by decide) ?_
            refine lv_ixor hx hb dX0_fewestToStay_66 ?_
            refine lv_iand hx hb dX0_fewestToStay_67 ?_
            obtain ⟨r9, e9, h⟩ := ob h
            refine k_VR ⟨hx, hb, hml, hown, hB⟩ (c_X0_soonestOf l E aY ao Y o ((o 6 0) &&& (v3_7 ^^^ (-1))) r9 e9) (clX0_86 hB rfl rfl ⟨Nat.le_of_ble_eq_true rfl, Nat.le_of_ble_eq_true rfl⟩) hK hw (rvO6 hK hw) rfl hl.1 rfl (Nat.le_of_ble_eq_true rfl) dX0_fewestToStay_68 ⟨Nat.zero_le _, Nat.zero_le _⟩ ?_
            refine lv_iload_n hx hb dX0_fewestToStay_71 rfl (lv_at hl 3 rfl) ?_
            refine lv_icmp_gt (tgt := 77) hx hb dX0_fewestToStay_72 (by decide) (fun g10 => ?_) (fun g10 => ?_)
            · rw [if_pos g10] at h
              refine lv_iinc (v := (v3_7 + 1)) (lv' := [(3, .int (v3_7 + 1)), (5, .int 1), (4, .int 1), (0, .ref (ao 6)), (1, .int v1_7), (2, .int v2_7)]) hx hb dX0_fewestToStay_77 hl (k := 5) rfl rfl (by decide) rfl (fun ls hl => ?_)
              refine lv_goto (tgt := 7) hx hb dX0_fewestToStay_80 (by decide) ?_
              exact ih_7 v1_7 v2_7 (v3_7 + 1) _ (lv_sub hl [3, 4, 5, 0] rfl) h
            · rw [if_neg g10] at h
              refine lv_iload_n hx hb dX0_fewestToStay_75 rfl (lv_at hl 5 rfl) ?_
              refine lv_istore_n (lv' := [(2, .int v3_7), (5, .int 1), (4, .int 1), (0, .ref (ao 6)), (1, .int v1_7), (3, .int v3_7)]) hx hb dX0_fewestToStay_76 rfl hl (by decide) rfl (fun ls hl => ?_)
              refine lv_iinc (v := (v3_7 + 1)) (lv' := [(3, .int (v3_7 + 1)), (2, .int v3_7), (5, .int 1), (4, .int 1), (0, .ref (ao 6)), (1, .int v1_7)]) hx hb dX0_fewestToStay_77 hl (k := 5) rfl rfl (by decide) rfl (fun ls hl => ?_)
              refine lv_goto (tgt := 7) hx hb dX0_fewestToStay_80 (by decide) ?_
              exact ih_7 v1_7 v3_7 (v3_7 + 1) _ (lv_sub hl [4, 5, 1, 0] rfl) h
  refine lv_aload_n hx hb dX0_fewestToStay_0 rfl (lv_at hl 0 rfl) ?_
  refine gX0_30 hx hb hB hown hK hw dX0_fewestToStay_1 ?_
  refine lv_istore_n (lv' := [(2, .int (o 6 0)), (0, .ref (ao 6)), (1, .int a1)]) hx hb dX0_fewestToStay_4 rfl hl (by decide) rfl (fun ls hl => ?_)
  refine lv_iconst (v := 0) hx hb dX0_fewestToStay_5 (by decide) ?_
  refine lv_istore_n (lv' := [(3, .int 0), (2, .int (o 6 0)), (0, .ref (ao 6)), (1, .int a1)]) hx hb dX0_fewestToStay_6 rfl hl (by decide) rfl (fun ls hl => ?_)
  exact hL7 FU a1 (o 6 0) 0 _ (lv_sub hl [2, 3, 1, 0] rfl) h
def fX1_clear_p (Y : YS) (o : OS) : Option (YS × OS) := some (Y, (u2 o 13 0 0))
abbrev rmX1_clear : Room := { frames := 0, cells := 0, slots := 0, locals := 0 }
set_option maxHeartbeats 4000000 in
set_option maxRecDepth 100000 in
theorem c_X1_clear_p (l : Launch) (E : En) (aY : Nat → Nat → Nat) (ao : Nat → Nat) (Y : YS) (o : OS) (r : YS × OS) (h : fX1_clear_p Y o = some r) : Met l yX1_clear (kX1_clear :: BIG) rmX1_clear (Pk E [.ref (ao 13)] (CW E aY ao Y o)) (QW none (AC aY ao) (CW E aY ao r.1 r.2)) 0 0 (AC aY ao) := by
  refine Mb (by decide) (Nat.le_of_ble_eq_true rfl) ?_
  intro p e s m below meth c ls hx hb hr hlk hB hown hml _ hK hw hl
  have hS : va_S (AC aY ao) s.heap s.heap [] := va_S.rf
  have hl : lv_has ls 1 [(0, .ref (ao 13))] := hl
  rw [fX1_clear_p] at h
  refine lv_aload_n hx hb dX1_clear_0 rfl (lv_at hl 0 rfl) ?_
  refine lv_iconst (v := 0) hx hb dX1_clear_1 (by decide) ?_
  refine ppX1_22 hx hb hB hown hK hw hS (fun _ z => z) dX1_clear_2 (fun H1 L1 hw hS => ?_)
  cases h
  exact e_vW hx hb hr hlk hw hS dX1_clear_5
def fX1_clear_k (Y : YS) (o : OS) : Option (YS × OS) := some (Y, (u2 o 15 0 0))
set_option maxHeartbeats 4000000 in
set_option maxRecDepth 100000 in
theorem c_X1_clear_k (l : Launch) (E : En) (aY : Nat → Nat → Nat) (ao : Nat → Nat) (Y : YS) (o : OS) (r : YS × OS) (h : fX1_clear_k Y o = some r) : Met l yX1_clear (kX1_clear :: BIG) rmX1_clear (Pk E [.ref (ao 15)] (CW E aY ao Y o)) (QW none (AC aY ao) (CW E aY ao r.1 r.2)) 0 0 (AC aY ao) := by
  refine Mb (by decide) (Nat.le_of_ble_eq_true rfl) ?_
  intro p e s m below meth c ls hx hb hr hlk hB hown hml _ hK hw hl
  have hS : va_S (AC aY ao) s.heap s.heap [] := va_S.rf
  have hl : lv_has ls 1 [(0, .ref (ao 15))] := hl
  rw [fX1_clear_k] at h
  refine lv_aload_n hx hb dX1_clear_0 rfl (lv_at hl 0 rfl) ?_
  refine lv_iconst (v := 0) hx hb dX1_clear_1 (by decide) ?_
  refine pkX1_22 hx hb hB hown hK hw hS (fun _ z => z) dX1_clear_2 (fun H1 L1 hw hS => ?_)
  cases h
  exact e_vW hx hb hr hlk hw hS dX1_clear_5
def fX1_dropOldest_p_L9 (v1_9 : Int32) : Nat → Int32 → YS → OS → Option (YS × OS)
  | 0, _, _, _ => none
  | n_9 + 1, v2_9, Y_9, o_9 => if 8 ≤ v2_9 then gB (ib ((8 : Int32) - 1) 8) (some (Y_9, (u2 (u2 o_9 14 ((8 : Int32) - 1).toNatClampNeg v1_9) 13 0 ((8 : Int32) - 1)))) else gB (ib v2_9 8) (gB (decide ((o_9 14 v2_9.toNatClampNeg).toNatClampNeg < 13)) (gB (ib (v2_9 - 1) 8) (fX1_dropOldest_p_L9 v1_9 n_9 (v2_9 + 1) Y_9 (u2 o_9 14 (v2_9 - 1).toNatClampNeg (o_9 14 v2_9.toNatClampNeg)))))
def fX1_dropOldest_p (Y : YS) (o : OS) : Option (YS × OS) := gB (decide ((o 14 (0 : Int32).toNatClampNeg).toNatClampNeg < 13)) (fX1_dropOldest_p_L9 (o 14 (0 : Int32).toNatClampNeg) FU 1 Y o)
abbrev rmX1_dropOldest : Room := { frames := 0, cells := 0, slots := 0, locals := 0 }
set_option maxHeartbeats 4000000 in
set_option maxRecDepth 100000 in
theorem c_X1_dropOldest_p (l : Launch) (E : En) (aY : Nat → Nat → Nat) (ao : Nat → Nat) (Y : YS) (o : OS) (r : YS × OS) (h : fX1_dropOldest_p Y o = some r) : Met l yX1_dropOldest (kX1_dropOldest :: BIG) rmX1_dropOldest (Pk E [.ref (ao 13)] (CW E aY ao Y o)) (QW none (AC aY ao) (CW E aY ao r.1 r.2)) 0 0 (AC aY ao) := by
  refine Mb (by decide) (Nat.le_of_ble_eq_true rfl) ?_
  intro p e s m below meth c ls hx hb hr hlk hB hown hml _ hK hw hl
  have hS : va_S (AC aY ao) s.heap s.heap [] := va_S.rf
  have hl : lv_has ls 3 [(0, .ref (ao 13))] := hl
  rw [fX1_dropOldest_p] at h
  have hL9 : ∀ (n_9 : Nat) (v1_9 : Int32) (v2_9 : Int32) (Y_9 : YS) (o_9 : OS) (H_9 : Heap) (L_9 : List Loc) (ls_9 : Array Slot), lv_has ls_9 3 [(0, .ref (ao 13)), (1, .ref (aY v1_9.toNatClampNeg 0)), (2, .int v2_9)] → v1_9.toNatClampNeg < 13 → CW E aY ao Y_9 o_9 H_9 → va_S (AC aY ao) s.heap H_9 L_9 → fX1_dropOldest_p_L9 v1_9 n_9 v2_9 Y_9 o_9 = some r → W p l e rmX1_dropOldest s m ([.ref (ao 13)] : List Value).toArray below meth c H_9 L_9 0 0 (MQ below (QW none (AC aY ao) (CW E aY ao r.1 r.2)) ([.ref (ao 13)] : List Value).toArray s 0 0 (AC aY ao)) (F0 m 9 ls_9 []) := by
    intro n_9
    induction n_9 with
    | zero =>
      intro v1_9 v2_9 Y_9 o_9 H_9 L_9 ls_9 hl hv1_9 hw hS h
      exact nn h
    | succ n_9 ih_9 =>
      intro v1_9 v2_9 Y_9 o_9 H_9 L_9 ls_9 hl hv1_9 hw hS h
      rw [fX1_dropOldest_p_L9] at h
      refine lv_iload_n hx hb dX1_dropOldest_9 rfl (lv_at hl 2 rfl) ?_
      refine lv_aload_n hx hb dX1_dropOldest_10 rfl (lv_at hl 0 rfl) ?_
      refine gpX1_15 hx hb hB hown hK hw dX1_dropOldest_11 ?_
      refine r_alen (v := 8) hx hb hK 2 (aO14 hw) rfl rfl dX1_dropOldest_14 ?_
      refine lv_icmp_ge (tgt := 38) hx hb dX1_dropOldest_15 (by decide) (fun g1 => ?_) (fun g1 => ?_)
      · rw [if_pos g1] at h
        refine lv_aload_n hx hb dX1_dropOldest_38 rfl (lv_at hl 0 rfl) ?_
        refine gpX1_15 hx hb hB hown hK hw dX1_dropOldest_39 ?_
        refine lv_aload_n hx hb dX1_dropOldest_42 rfl (lv_at hl 0 rfl) ?_
        refine gpX1_15 hx hb hB hown hK hw dX1_dropOldest_43 ?_
        refine r_alen (v := 8) hx hb hK 2 (aO14 hw) rfl rfl dX1_dropOldest_46 ?_
        refine lv_iconst (v := 1) hx hb dX1_dropOldest_47 (by decide) ?_
        refine lv_isub hx hb dX1_dropOldest_48 ?_
        refine lv_aload_n hx hb dX1_dropOldest_49 rfl (lv_at hl 1 rfl) ?_
        obtain ⟨g2, h⟩ := gB_ok h
        refine sO14 (x := v1_9) hx hb hK hw hS (fun _ z => z) (ib_ok g2) hv1_9 dX1_dropOldest_50 (fun H3 L3 hw hS => ?_)
        refine lv_aload_n hx hb dX1_dropOldest_51 rfl (lv_at hl 0 rfl) ?_
        refine lv_aload_n hx hb dX1_dropOldest_52 rfl (lv_at hl 0 rfl) ?_
        refine gpX1_15 hx hb hB hown hK hw dX1_dropOldest_53 ?_
        refine r_alen (v := 8) hx hb hK 2 (aO14 hw) rfl rfl dX1_dropOldest_56 ?_
        refine lv_iconst (v := 1) hx hb dX1_dropOldest_57 (by decide) ?_
        refine lv_isub hx hb dX1_dropOldest_58 ?_
        refine ppX1_22 hx hb hB hown hK hw hS (fun _ z => z) dX1_dropOldest_59 (fun H4 L4 hw hS => ?_)
        cases h
        exact e_vW hx hb hr hlk hw hS dX1_dropOldest_62
      · rw [if_neg g1] at h
        refine lv_aload_n hx hb dX1_dropOldest_18 rfl (lv_at hl 0 rfl) ?_
        refine gpX1_15 hx hb hB hown hK hw dX1_dropOldest_19 ?_
        refine lv_iload_n hx hb dX1_dropOldest_22 rfl (lv_at hl 2 rfl) ?_
        refine lv_iconst (v := 1) hx hb dX1_dropOldest_23 (by decide) ?_
        refine lv_isub hx hb dX1_dropOldest_24 ?_
        refine lv_aload_n hx hb dX1_dropOldest_25 rfl (lv_at hl 0 rfl) ?_
        refine gpX1_15 hx hb hB hown hK hw dX1_dropOldest_26 ?_
        refine lv_iload_n hx hb dX1_dropOldest_29 rfl (lv_at hl 2 rfl) ?_
        obtain ⟨g5, h⟩ := gB_ok h
        refine lO14 hx hb hK hw (ib_ok g5) dX1_dropOldest_30 ?_
        obtain ⟨g6, h⟩ := gB_ok h
        obtain ⟨g7, h⟩ := gB_ok h
        refine sO14 (x := (o_9 14 v2_9.toNatClampNeg)) hx hb hK hw hS (fun _ z => z) (ib_ok g7) (of_decide_eq_true g6) dX1_dropOldest_31 (fun H8 L8 hw hS => ?_)
        refine lv_iinc (v := (v2_9 + 1)) (lv' := [(2, .int (v2_9 + 1)), (0, .ref (ao 13)), (1, .ref (aY v1_9.toNatClampNeg 0))]) hx hb dX1_dropOldest_32 hl (k := 2) rfl rfl (by decide) rfl (fun ls hl => ?_)
        refine lv_goto (tgt := 9) hx hb dX1_dropOldest_35 (by decide) ?_
        exact ih_9 v1_9 (v2_9 + 1) Y_9 (u2 o_9 14 (v2_9 - 1).toNatClampNeg (o_9 14 v2_9.toNatClampNeg)) _ _ _ (lv_sub hl [1, 2, 0] rfl) hv1_9 hw hS h
  refine lv_aload_n hx hb dX1_dropOldest_0 rfl (lv_at hl 0 rfl) ?_
  refine gpX1_15 hx hb hB hown hK hw dX1_dropOldest_1 ?_
  refine lv_iconst (v := 0) hx hb dX1_dropOldest_4 (by decide) ?_
  refine lO14 hx hb hK hw (ib_ok (by decide)) dX1_dropOldest_5 ?_
  obtain ⟨g9, h⟩ := gB_ok h
  refine lv_astore_n (lv' := [(1, .ref (aY ((o 14 (0 : Int32).toNatClampNeg).toNatClampNeg) 0)), (0, .ref (ao 13))]) hx hb dX1_dropOldest_6 rfl hl (by decide) rfl (fun ls hl => ?_)
  refine lv_iconst (v := 1) hx hb dX1_dropOldest_7 (by decide) ?_
  refine lv_istore_n (lv' := [(2, .int 1), (1, .ref (aY ((o 14 (0 : Int32).toNatClampNeg).toNatClampNeg) 0)), (0, .ref (ao 13))]) hx hb dX1_dropOldest_8 rfl hl (by decide) rfl (fun ls hl => ?_)
  exact hL9 FU (o 14 (0 : Int32).toNatClampNeg) 1 Y o _ _ _ (lv_sub hl [2, 1, 0] rfl) (of_decide_eq_true g9) hw hS h
def fX1_dropOldest_k_L9 (v1_9 : Int32) : Nat → Int32 → YS → OS → Option (YS × OS)
  | 0, _, _, _ => none
  | n_9 + 1, v2_9, Y_9, o_9 => if 2 ≤ v2_9 then gB (ib ((2 : Int32) - 1) 2) (some (Y_9, (u2 (u2 o_9 16 ((2 : Int32) - 1).toNatClampNeg v1_9) 15 0 ((2 : Int32) - 1)))) else gB (ib v2_9 2) (gB (decide ((o_9 16 v2_9.toNatClampNeg).toNatClampNeg < 13)) (gB (ib (v2_9 - 1) 2) (fX1_dropOldest_k_L9 v1_9 n_9 (v2_9 + 1) Y_9 (u2 o_9 16 (v2_9 - 1).toNatClampNeg (o_9 16 v2_9.toNatClampNeg)))))
def fX1_dropOldest_k (Y : YS) (o : OS) : Option (YS × OS) := gB (decide ((o 16 (0 : Int32).toNatClampNeg).toNatClampNeg < 13)) (fX1_dropOldest_k_L9 (o 16 (0 : Int32).toNatClampNeg) FU 1 Y o)
set_option maxHeartbeats 4000000 in
set_option maxRecDepth 100000 in
theorem c_X1_dropOldest_k (l : Launch) (E : En) (aY : Nat → Nat → Nat) (ao : Nat → Nat) (Y : YS) (o : OS) (r : YS × OS) (h : fX1_dropOldest_k Y o = some r) : Met l yX1_dropOldest (kX1_dropOldest :: BIG) rmX1_dropOldest (Pk E [.ref (ao 15)] (CW E aY ao Y o)) (QW none (AC aY ao) (CW E aY ao r.1 r.2)) 0 0 (AC aY ao) := by
  refine Mb (by decide) (Nat.le_of_ble_eq_true rfl) ?_
  intro p e s m below meth c ls hx hb hr hlk hB hown hml _ hK hw hl
  have hS : va_S (AC aY ao) s.heap s.heap [] := va_S.rf
  have hl : lv_has ls 3 [(0, .ref (ao 15))] := hl
  rw [fX1_dropOldest_k] at h
  have hL9 : ∀ (n_9 : Nat) (v1_9 : Int32) (v2_9 : Int32) (Y_9 : YS) (o_9 : OS) (H_9 : Heap) (L_9 : List Loc) (ls_9 : Array Slot), lv_has ls_9 3 [(0, .ref (ao 15)), (1, .ref (aY v1_9.toNatClampNeg 0)), (2, .int v2_9)] → v1_9.toNatClampNeg < 13 → CW E aY ao Y_9 o_9 H_9 → va_S (AC aY ao) s.heap H_9 L_9 → fX1_dropOldest_k_L9 v1_9 n_9 v2_9 Y_9 o_9 = some r → W p l e rmX1_dropOldest s m ([.ref (ao 15)] : List Value).toArray below meth c H_9 L_9 0 0 (MQ below (QW none (AC aY ao) (CW E aY ao r.1 r.2)) ([.ref (ao 15)] : List Value).toArray s 0 0 (AC aY ao)) (F0 m 9 ls_9 []) := by
    intro n_9
    induction n_9 with
    | zero =>
      intro v1_9 v2_9 Y_9 o_9 H_9 L_9 ls_9 hl hv1_9 hw hS h
      exact nn h
    | succ n_9 ih_9 =>
      intro v1_9 v2_9 Y_9 o_9 H_9 L_9 ls_9 hl hv1_9 hw hS h
      rw [fX1_dropOldest_k_L9] at h
      refine lv_iload_n hx hb dX1_dropOldest_9 rfl (lv_at hl 2 rfl) ?_
      refine lv_aload_n hx hb dX1_dropOldest_10 rfl (lv_at hl 0 rfl) ?_
      refine gkX1_15 hx hb hB hown hK hw dX1_dropOldest_11 ?_
      refine r_alen (v := 2) hx hb hK 2 (aO16 hw) rfl rfl dX1_dropOldest_14 ?_
      refine lv_icmp_ge (tgt := 38) hx hb dX1_dropOldest_15 (by decide) (fun g1 => ?_) (fun g1 => ?_)
      · rw [if_pos g1] at h
        refine lv_aload_n hx hb dX1_dropOldest_38 rfl (lv_at hl 0 rfl) ?_
        refine gkX1_15 hx hb hB hown hK hw dX1_dropOldest_39 ?_
        refine lv_aload_n hx hb dX1_dropOldest_42 rfl (lv_at hl 0 rfl) ?_
        refine gkX1_15 hx hb hB hown hK hw dX1_dropOldest_43 ?_
        refine r_alen (v := 2) hx hb hK 2 (aO16 hw) rfl rfl dX1_dropOldest_46 ?_
        refine lv_iconst (v := 1) hx hb dX1_dropOldest_47 (by decide) ?_
        refine lv_isub hx hb dX1_dropOldest_48 ?_
        refine lv_aload_n hx hb dX1_dropOldest_49 rfl (lv_at hl 1 rfl) ?_
        obtain ⟨g2, h⟩ := gB_ok h
        refine sO16 (x := v1_9) hx hb hK hw hS (fun _ z => z) (ib_ok g2) hv1_9 dX1_dropOldest_50 (fun H3 L3 hw hS => ?_)
        refine lv_aload_n hx hb dX1_dropOldest_51 rfl (lv_at hl 0 rfl) ?_
        refine lv_aload_n hx hb dX1_dropOldest_52 rfl (lv_at hl 0 rfl) ?_
        refine gkX1_15 hx hb hB hown hK hw dX1_dropOldest_53 ?_
        refine r_alen (v := 2) hx hb hK 2 (aO16 hw) rfl rfl dX1_dropOldest_56 ?_
        refine lv_iconst (v := 1) hx hb dX1_dropOldest_57 (by decide) ?_
        refine lv_isub hx hb dX1_dropOldest_58 ?_
        refine pkX1_22 hx hb hB hown hK hw hS (fun _ z => z) dX1_dropOldest_59 (fun H4 L4 hw hS => ?_)
        cases h
        exact e_vW hx hb hr hlk hw hS dX1_dropOldest_62
      · rw [if_neg g1] at h
        refine lv_aload_n hx hb dX1_dropOldest_18 rfl (lv_at hl 0 rfl) ?_
        refine gkX1_15 hx hb hB hown hK hw dX1_dropOldest_19 ?_
        refine lv_iload_n hx hb dX1_dropOldest_22 rfl (lv_at hl 2 rfl) ?_
        refine lv_iconst (v := 1) hx hb dX1_dropOldest_23 (by decide) ?_
        refine lv_isub hx hb dX1_dropOldest_24 ?_
        refine lv_aload_n hx hb dX1_dropOldest_25 rfl (lv_at hl 0 rfl) ?_
        refine gkX1_15 hx hb hB hown hK hw dX1_dropOldest_26 ?_
        refine lv_iload_n hx hb dX1_dropOldest_29 rfl (lv_at hl 2 rfl) ?_
        obtain ⟨g5, h⟩ := gB_ok h
        refine lO16 hx hb hK hw (ib_ok g5) dX1_dropOldest_30 ?_
        obtain ⟨g6, h⟩ := gB_ok h
        obtain ⟨g7, h⟩ := gB_ok h
        refine sO16 (x := (o_9 16 v2_9.toNatClampNeg)) hx hb hK hw hS (fun _ z => z) (ib_ok g7) (of_decide_eq_true g6) dX1_dropOldest_31 (fun H8 L8 hw hS => ?_)
        refine lv_iinc (v := (v2_9 + 1)) (lv' := [(2, .int (v2_9 + 1)), (0, .ref (ao 15)), (1, .ref (aY v1_9.toNatClampNeg 0))]) hx hb dX1_dropOldest_32 hl (k := 2) rfl rfl (by decide) rfl (fun ls hl => ?_)
        refine lv_goto (tgt := 9) hx hb dX1_dropOldest_35 (by decide) ?_
        exact ih_9 v1_9 (v2_9 + 1) Y_9 (u2 o_9 16 (v2_9 - 1).toNatClampNeg (o_9 16 v2_9.toNatClampNeg)) _ _ _ (lv_sub hl [1, 2, 0] rfl) hv1_9 hw hS h
  refine lv_aload_n hx hb dX1_dropOldest_0 rfl (lv_at hl 0 rfl) ?_
  refine gkX1_15 hx hb hB hown hK hw dX1_dropOldest_1 ?_
  refine lv_iconst (v := 0) hx hb dX1_dropOldest_4 (by decide) ?_
  refine lO16 hx hb hK hw (ib_ok (by decide)) dX1_dropOldest_5 ?_
  obtain ⟨g9, h⟩ := gB_ok h
  refine lv_astore_n (lv' := [(1, .ref (aY ((o 16 (0 : Int32).toNatClampNeg).toNatClampNeg) 0)), (0, .ref (ao 15))]) hx hb dX1_dropOldest_6 rfl hl (by decide) rfl (fun ls hl => ?_)
  refine lv_iconst (v := 1) hx hb dX1_dropOldest_7 (by decide) ?_
  refine lv_istore_n (lv' := [(2, .int 1), (1, .ref (aY ((o 16 (0 : Int32).toNatClampNeg).toNatClampNeg) 0)), (0, .ref (ao 15))]) hx hb dX1_dropOldest_8 rfl hl (by decide) rfl (fun ls hl => ?_)
  exact hL9 FU (o 16 (0 : Int32).toNatClampNeg) 1 Y o _ _ _ (lv_sub hl [2, 1, 0] rfl) (of_decide_eq_true g9) hw hS h
def fX3_copyFrom_L110 (i0 : Nat) (i1 : Nat) : Nat → Int32 → YS → OS → Option (YS × OS)
  | 0, _, _, _ => none
  | n_110 + 1, v2_110, Y_110, o_110 => if 6 ≤ v2_110 then some (Y_110, o_110) else gB (ib v2_110 6) (gB (ib v2_110 6) (gB (ib v2_110 6) (gB (ib v2_110 6) (fX3_copyFrom_L110 i0 i1 n_110 (v2_110 + 1) (va_up (va_up Y_110 i0 (u2 (Y_110 i0) 5 v2_110.toNatClampNeg (Y_110 i1 5 v2_110.toNatClampNeg))) i0 (u2 ((va_up Y_110 i0 (u2 (Y_110 i0) 5 v2_110.toNatClampNeg (Y_110 i1 5 v2_110.toNatClampNeg))) i0) 6 v2_110.toNatClampNeg ((va_up Y_110 i0 (u2 (Y_110 i0) 5 v2_110.toNatClampNeg (Y_110 i1 5 v2_110.toNatClampNeg))) i1 6 v2_110.toNatClampNeg))) o_110))))
def fX3_copyFrom_L84 (i0 : Nat) (i1 : Nat) : Nat → Int32 → YS → OS → Option (YS × OS)
  | 0, _, _, _ => none
  | n_84 + 1, v2_84, Y_84, o_84 => if 16 ≤ v2_84 then fX3_copyFrom_L110 i0 i1 FU 0 Y_84 o_84 else gB (ib v2_84 16) (gB (ib v2_84 16) (fX3_copyFrom_L84 i0 i1 n_84 (v2_84 + 1) (va_up Y_84 i0 (u2 (Y_84 i0) 4 v2_84.toNatClampNeg (Y_84 i1 4 v2_84.toNatClampNeg))) o_84))
def fX3_copyFrom_L34 (i0 : Nat) (i1 : Nat) : Nat → Int32 → YS → OS → Option (YS × OS)
  | 0, _, _, _ => none
  | n_34 + 1, v2_34, Y_34, o_34 => if 12 ≤ v2_34 then fX3_copyFrom_L84 i0 i1 FU 0 Y_34 o_34 else gB (ib v2_34 12) (gB (ib v2_34 12) (gB (ib v2_34 12) (gB (ib v2_34 12) (gB (ib v2_34 12) (gB (ib v2_34 12) (fX3_copyFrom_L34 i0 i1 n_34 (v2_34 + 1) (va_up (va_up (va_up Y_34 i0 (u2 (Y_34 i0) 1 v2_34.toNatClampNeg (Y_34 i1 1 v2_34.toNatClampNeg))) i0 (u2 ((va_up Y_34 i0 (u2 (Y_34 i0) 1 v2_34.toNatClampNeg (Y_34 i1 1 v2_34.toNatClampNeg))) i0) 2 v2_34.toNatClampNeg ((va_up Y_34 i0 (u2 (Y_34 i0) 1 v2_34.toNatClampNeg (Y_34 i1 1 v2_34.toNatClampNeg))) i1 2 v2_34.toNatClampNeg))) i0 (u2 ((va_up (va_up Y_34 i0 (u2 (Y_34 i0) 1 v2_34.toNatClampNeg (Y_34 i1 1 v2_34.toNatClampNeg))) i0 (u2 ((va_up Y_34 i0 (u2 (Y_34 i0) 1 v2_34.toNatClampNeg (Y_34 i1 1 v2_34.toNatClampNeg))) i0) 2 v2_34.toNatClampNeg ((va_up Y_34 i0 (u2 (Y_34 i0) 1 v2_34.toNatClampNeg (Y_34 i1 1 v2_34.toNatClampNeg))) i1 2 v2_34.toNatClampNeg))) i0) 3 v2_34.toNatClampNeg ((va_up (va_up Y_34 i0 (u2 (Y_34 i0) 1 v2_34.toNatClampNeg (Y_34 i1 1 v2_34.toNatClampNeg))) i0 (u2 ((va_up Y_34 i0 (u2 (Y_34 i0) 1 v2_34.toNatClampNeg (Y_34 i1 1 v2_34.toNatClampNeg))) i0) 2 v2_34.toNatClampNeg ((va_up Y_34 i0 (u2 (Y_34 i0) 1 v2_34.toNatClampNeg (Y_34 i1 1 v2_34.toNatClampNeg))) i1 2 v2_34.toNatClampNeg))) i1 3 v2_34.toNatClampNeg))) o_34))))))
def fX3_copyFrom (Y : YS) (o : OS) (i0 : Nat) (i1 : Nat) : Option (YS × OS) := fX3_copyFrom_L34 i0 i1 FU 0 (va_up (va_up (va_up (va_up Y i0 (u2 (Y i0) 0 0 (Y i1 0 0))) i0 (u2 ((va_up Y i0 (u2 (Y i0) 0 0 (Y i1 0 0))) i0) 0 1 ((va_up Y i0 (u2 (Y i0) 0 0 (Y i1 0 0))) i1 0 1))) i0 (u2 ((va_up (va_up Y i0 (u2 (Y i0) 0 0 (Y i1 0 0))) i0 (u2 ((va_up Y i0 (u2 (Y i0) 0 0 (Y i1 0 0))) i0) 0 1 ((va_up Y i0 (u2 (Y i0) 0 0 (Y i1 0 0))) i1 0 1))) i0) 0 2 ((va_up (va_up Y i0 (u2 (Y i0) 0 0 (Y i1 0 0))) i0 (u2 ((va_up Y i0 (u2 (Y i0) 0 0 (Y i1 0 0))) i0) 0 1 ((va_up Y i0 (u2 (Y i0) 0 0 (Y i1 0 0))) i1 0 1))) i1 0 2))) i0 (u2 ((va_up (va_up (va_up Y i0 (u2 (Y i0) 0 0 (Y i1 0 0))) i0 (u2 ((va_up Y i0 (u2 (Y i0) 0 0 (Y i1 0 0))) i0) 0 1 ((va_up Y i0 (u2 (Y i0) 0 0 (Y i1 0 0))) i1 0 1))) i0 (u2 ((va_up (va_up Y i0 (u2 (Y i0) 0 0 (Y i1 0 0))) i0 (u2 ((va_up Y i0 (u2 (Y i0) 0 0 (Y i1 0 0))) i0) 0 1 ((va_up Y i0 (u2 (Y i0) 0 0 (Y i1 0 0))) i1 0 1))) i0) 0 2 ((va_up (va_up Y i0 (u2 (Y i0) 0 0 (Y i1 0 0))) i0 (u2 ((va_up Y i0 (u2 (Y i0) 0 0 (Y i1 0 0))) i0) 0 1 ((va_up Y i0 (u2 (Y i0) 0 0 (Y i1 0 0))) i1 0 1))) i1 0 2))) i0) 0 3 ((va_up (va_up (va_up Y i0 (u2 (Y i0) 0 0 (Y i1 0 0))) i0 (u2 ((va_up Y i0 (u2 (Y i0) 0 0 (Y i1 0 0))) i0) 0 1 ((va_up Y i0 (u2 (Y i0) 0 0 (Y i1 0 0))) i1 0 1))) i0 (u2 ((va_up (va_up Y i0 (u2 (Y i0) 0 0 (Y i1 0 0))) i0 (u2 ((va_up Y i0 (u2 (Y i0) 0 0 (Y i1 0 0))) i0) 0 1 ((va_up Y i0 (u2 (Y i0) 0 0 (Y i1 0 0))) i1 0 1))) i0) 0 2 ((va_up (va_up Y i0 (u2 (Y i0) 0 0 (Y i1 0 0))) i0 (u2 ((va_up Y i0 (u2 (Y i0) 0 0 (Y i1 0 0))) i0) 0 1 ((va_up Y i0 (u2 (Y i0) 0 0 (Y i1 0 0))) i1 0 1))) i1 0 2))) i1 0 3))) o
abbrev rmX3_copyFrom : Room := { frames := 0, cells := 0, slots := 0, locals := 0 }
set_option maxHeartbeats 4000000 in
set_option maxRecDepth 100000 in
theorem c_X3_copyFrom (l : Launch) (E : En) (aY : Nat → Nat → Nat) (ao : Nat → Nat) (Y : YS) (o : OS) (i0 : Nat) (i1 : Nat) (hi0 : i0 < 13) (hi1 : i1 < 13) (r : YS × OS) (h : fX3_copyFrom Y o i0 i1 = some r) : Met l yX3_copyFrom (kX3_copyFrom :: BIG) rmX3_copyFrom (Pk E [.ref (aY i0 0), .ref (aY i1 0)] (CW E aY ao Y o)) (QW none (AC aY ao) (CW E aY ao r.1 r.2)) 0 0 (AC aY ao) := by
  refine Mb (by decide) (Nat.le_of_ble_eq_true rfl) ?_
  intro p e s m below meth c ls hx hb hr hlk hB hown hml _ hK hw hl
  have hS : va_S (AC aY ao) s.heap s.heap [] := va_S.rf
  have hl : lv_has ls 3 [(0, .ref (aY i0 0)), (1, .ref (aY i1 0))] := hl
  rw [fX3_copyFrom] at h
  have hL110 : ∀ (n_110 : Nat) (v2_110 : Int32) (Y_110 : YS) (o_110 : OS) (H_110 : Heap) (L_110 : List Loc) (ls_110 : Array Slot), lv_has ls_110 3 [(0, .ref (aY i0 0)), (1, .ref (aY i1 0)), (2, .int v2_110)] → CW E aY ao Y_110 o_110 H_110 → va_S (AC aY ao) s.heap H_110 L_110 → fX3_copyFrom_L110 i0 i1 n_110 v2_110 Y_110 o_110 = some r → W p l e rmX3_copyFrom s m ([.ref (aY i0 0), .ref (aY i1 0)] : List Value).toArray below meth c H_110 L_110 0 0 (MQ below (QW none (AC aY ao) (CW E aY ao r.1 r.2)) ([.ref (aY i0 0), .ref (aY i1 0)] : List Value).toArray s 0 0 (AC aY ao)) (F0 m 110 ls_110 []) := by
    intro n_110
    induction n_110 with
    | zero =>
      intro v2_110 Y_110 o_110 H_110 L_110 ls_110 hl hw hS h
      exact nn h
    | succ n_110 ih_110 =>
      intro v2_110 Y_110 o_110 H_110 L_110 ls_110 hl hw hS h
      rw [fX3_copyFrom_L110] at h
      refine lv_iload_n hx hb dX3_copyFrom_110 rfl (lv_at hl 2 rfl) ?_
      refine lv_bipush (v := 6) hx hb dX3_copyFrom_111 (by decide) ?_
      refine lv_icmp_ge (tgt := 146) hx hb dX3_copyFrom_113 (by decide) (fun g1 => ?_) (fun g1 => ?_)
      · rw [if_pos g1] at h
        cases h
        exact e_vW hx hb hr hlk hw hS dX3_copyFrom_146
      · rw [if_neg g1] at h
        refine lv_aload_n hx hb dX3_copyFrom_116 rfl (lv_at hl 0 rfl) ?_
        refine gX3_24 hx hb hB hown hK (hw.yd hi0) dX3_copyFrom_117 ?_
        refine lv_iload_n hx hb dX3_copyFrom_120 rfl (lv_at hl 2 rfl) ?_
        refine lv_aload_n hx hb dX3_copyFrom_121 rfl (lv_at hl 1 rfl) ?_
        refine gX3_24 hx hb hB hown hK (hw.yd hi1) dX3_copyFrom_122 ?_
        refine lv_iload_n hx hb dX3_copyFrom_125 rfl (lv_at hl 2 rfl) ?_
        obtain ⟨g2, h⟩ := gB_ok h
        refine r_ald hx hb hK (aY5 (hw.yd hi1)) (ib_ok g2) dX3_copyFrom_126 ?_
        obtain ⟨g3, h⟩ := gB_ok h
        refine sY5 hx hb hK (hw.yd hi0) hS (AC.ofY hi0) (ib_ok g3) dX3_copyFrom_127 (fun H4 L4 hy ho hS => ?_)
        have hw := hw.wy1 (c := 5) hi0 (by decide) hy ho
        refine lv_aload_n hx hb dX3_copyFrom_128 rfl (lv_at hl 0 rfl) ?_
        refine gX3_27 hx hb hB hown hK (hw.yd hi0) dX3_copyFrom_129 ?_
        refine lv_iload_n hx hb dX3_copyFrom_132 rfl (lv_at hl 2 rfl) ?_
        refine lv_aload_n hx hb dX3_copyFrom_133 rfl (lv_at hl 1 rfl) ?_
        refine gX3_27 hx hb hB hown hK (hw.yd hi1) dX3_copyFrom_134 ?_
        refine lv_iload_n hx hb dX3_copyFrom_137 rfl (lv_at hl 2 rfl) ?_
        obtain ⟨g5, h⟩ := gB_ok h
        refine r_ald hx hb hK (aY6 (hw.yd hi1)) (ib_ok g5) dX3_copyFrom_138 ?_
        obtain ⟨g6, h⟩ := gB_ok h
        refine sY6 hx hb hK (hw.yd hi0) hS (AC.ofY hi0) (ib_ok g6) dX3_copyFrom_139 (fun H7 L7 hy ho hS => ?_)
        have hw := hw.wy1 (c := 6) hi0 (by decide) hy ho
        refine lv_iinc (v := (v2_110 + 1)) (lv' := [(2, .int (v2_110 + 1)), (0, .ref (aY i0 0)), (1, .ref (aY i1 0))]) hx hb dX3_copyFrom_140 hl (k := 2) rfl rfl (by decide) rfl (fun ls hl => ?_)
        refine lv_goto (tgt := 110) hx hb dX3_copyFrom_143 (by decide) ?_
        exact ih_110 (v2_110 + 1) (va_up (va_up Y_110 i0 (u2 (Y_110 i0) 5 v2_110.toNatClampNeg (Y_110 i1 5 v2_110.toNatClampNeg))) i0 (u2 ((va_up Y_110 i0 (u2 (Y_110 i0) 5 v2_110.toNatClampNeg (Y_110 i1 5 v2_110.toNatClampNeg))) i0) 6 v2_110.toNatClampNeg ((va_up Y_110 i0 (u2 (Y_110 i0) 5 v2_110.toNatClampNeg (Y_110 i1 5 v2_110.toNatClampNeg))) i1 6 v2_110.toNatClampNeg))) o_110 _ _ _ (lv_sub hl [1, 2, 0] rfl) hw hS h
  have hL84 : ∀ (n_84 : Nat) (v2_84 : Int32) (Y_84 : YS) (o_84 : OS) (H_84 : Heap) (L_84 : List Loc) (ls_84 : Array Slot), lv_has ls_84 3 [(0, .ref (aY i0 0)), (1, .ref (aY i1 0)), (2, .int v2_84)] → CW E aY ao Y_84 o_84 H_84 → va_S (AC aY ao) s.heap H_84 L_84 → fX3_copyFrom_L84 i0 i1 n_84 v2_84 Y_84 o_84 = some r → W p l e rmX3_copyFrom s m ([.ref (aY i0 0), .ref (aY i1 0)] : List Value).toArray below meth c H_84 L_84 0 0 (MQ below (QW none (AC aY ao) (CW E aY ao r.1 r.2)) ([.ref (aY i0 0), .ref (aY i1 0)] : List Value).toArray s 0 0 (AC aY ao)) (F0 m 84 ls_84 []) := by
    intro n_84
    induction n_84 with
    | zero =>
      intro v2_84 Y_84 o_84 H_84 L_84 ls_84 hl hw hS h
      exact nn h
    | succ n_84 ih_84 =>
      intro v2_84 Y_84 o_84 H_84 L_84 ls_84 hl hw hS h
      rw [fX3_copyFrom_L84] at h
      refine lv_iload_n hx hb dX3_copyFrom_84 rfl (lv_at hl 2 rfl) ?_
      refine lv_bipush (v := 16) hx hb dX3_copyFrom_85 (by decide) ?_
      refine lv_icmp_ge (tgt := 108) hx hb dX3_copyFrom_87 (by decide) (fun g8 => ?_) (fun g8 => ?_)
      · rw [if_pos g8] at h
        refine lv_iconst (v := 0) hx hb dX3_copyFrom_108 (by decide) ?_
        refine lv_istore_n (lv' := [(2, .int 0), (0, .ref (aY i0 0)), (1, .ref (aY i1 0))]) hx hb dX3_copyFrom_109 rfl hl (by decide) rfl (fun ls hl => ?_)
        exact hL110 FU 0 Y_84 o_84 _ _ _ (lv_sub hl [1, 2, 0] rfl) hw hS h
      · rw [if_neg g8] at h
        refine lv_aload_n hx hb dX3_copyFrom_90 rfl (lv_at hl 0 rfl) ?_
        refine gX3_21 hx hb hB hown hK (hw.yd hi0) dX3_copyFrom_91 ?_
        refine lv_iload_n hx hb dX3_copyFrom_94 rfl (lv_at hl 2 rfl) ?_
        refine lv_aload_n hx hb dX3_copyFrom_95 rfl (lv_at hl 1 rfl) ?_
        refine gX3_21 hx hb hB hown hK (hw.yd hi1) dX3_copyFrom_96 ?_
        refine lv_iload_n hx hb dX3_copyFrom_99 rfl (lv_at hl 2 rfl) ?_
        obtain ⟨g9, h⟩ := gB_ok h
        refine r_ald hx hb hK (aY4 (hw.yd hi1)) (ib_ok g9) dX3_copyFrom_100 ?_
        obtain ⟨g10, h⟩ := gB_ok h
        refine sY4 hx hb hK (hw.yd hi0) hS (AC.ofY hi0) (ib_ok g10) dX3_copyFrom_101 (fun H11 L11 hy ho hS => ?_)
        have hw := hw.wy1 (c := 4) hi0 (by decide) hy ho
        refine lv_iinc (v := (v2_84 + 1)) (lv' := [(2, .int (v2_84 + 1)), (0, .ref (aY i0 0)), (1, .ref (aY i1 0))]) hx hb dX3_copyFrom_102 hl (k := 2) rfl rfl (by decide) rfl (fun ls hl => ?_)
        refine lv_goto (tgt := 84) hx hb dX3_copyFrom_105 (by decide) ?_
        exact ih_84 (v2_84 + 1) (va_up Y_84 i0 (u2 (Y_84 i0) 4 v2_84.toNatClampNeg (Y_84 i1 4 v2_84.toNatClampNeg))) o_84 _ _ _ (lv_sub hl [1, 2, 0] rfl) hw hS h
  have hL34 : ∀ (n_34 : Nat) (v2_34 : Int32) (Y_34 : YS) (o_34 : OS) (H_34 : Heap) (L_34 : List Loc) (ls_34 : Array Slot), lv_has ls_34 3 [(0, .ref (aY i0 0)), (1, .ref (aY i1 0)), (2, .int v2_34)] → CW E aY ao Y_34 o_34 H_34 → va_S (AC aY ao) s.heap H_34 L_34 → fX3_copyFrom_L34 i0 i1 n_34 v2_34 Y_34 o_34 = some r → W p l e rmX3_copyFrom s m ([.ref (aY i0 0), .ref (aY i1 0)] : List Value).toArray below meth c H_34 L_34 0 0 (MQ below (QW none (AC aY ao) (CW E aY ao r.1 r.2)) ([.ref (aY i0 0), .ref (aY i1 0)] : List Value).toArray s 0 0 (AC aY ao)) (F0 m 34 ls_34 []) := by
    intro n_34
    induction n_34 with
    | zero =>
      intro v2_34 Y_34 o_34 H_34 L_34 ls_34 hl hw hS h
      exact nn h
    | succ n_34 ih_34 =>
      intro v2_34 Y_34 o_34 H_34 L_34 ls_34 hl hw hS h
      rw [fX3_copyFrom_L34] at h
      refine lv_iload_n hx hb dX3_copyFrom_34 rfl (lv_at hl 2 rfl) ?_
      refine lv_bipush (v := 12) hx hb dX3_copyFrom_35 (by decide) ?_
      refine lv_icmp_ge (tgt := 82) hx hb dX3_copyFrom_37 (by decide) (fun g12 => ?_) (fun g12 => ?_)
      · rw [if_pos g12] at h
        refine lv_iconst (v := 0) hx hb dX3_copyFrom_82 (by decide) ?_
        refine lv_istore_n (lv' := [(2, .int 0), (0, .ref (aY i0 0)), (1, .ref (aY i1 0))]) hx hb dX3_copyFrom_83 rfl hl (by decide) rfl (fun ls hl => ?_)
        exact hL84 FU 0 Y_34 o_34 _ _ _ (lv_sub hl [1, 2, 0] rfl) hw hS h
      · rw [if_neg g12] at h
        refine lv_aload_n hx hb dX3_copyFrom_40 rfl (lv_at hl 0 rfl) ?_
        refine gX3_9 hx hb hB hown hK (hw.yd hi0) dX3_copyFrom_41 ?_
        refine lv_iload_n hx hb dX3_copyFrom_44 rfl (lv_at hl 2 rfl) ?_
        refine lv_aload_n hx hb dX3_copyFrom_45 rfl (lv_at hl 1 rfl) ?_
        refine gX3_9 hx hb hB hown hK (hw.yd hi1) dX3_copyFrom_46 ?_
        refine lv_iload_n hx hb dX3_copyFrom_49 rfl (lv_at hl 2 rfl) ?_
        obtain ⟨g13, h⟩ := gB_ok h
        refine r_ald hx hb hK (aY1 (hw.yd hi1)) (ib_ok g13) dX3_copyFrom_50 ?_
        obtain ⟨g14, h⟩ := gB_ok h
        refine sY1 hx hb hK (hw.yd hi0) hS (AC.ofY hi0) (ib_ok g14) dX3_copyFrom_51 (fun H15 L15 hy ho hS => ?_)
        have hw := hw.wy1 (c := 1) hi0 (by decide) hy ho
        refine lv_aload_n hx hb dX3_copyFrom_52 rfl (lv_at hl 0 rfl) ?_
        refine gX3_15 hx hb hB hown hK (hw.yd hi0) dX3_copyFrom_53 ?_
        refine lv_iload_n hx hb dX3_copyFrom_56 rfl (lv_at hl 2 rfl) ?_
        refine lv_aload_n hx hb dX3_copyFrom_57 rfl (lv_at hl 1 rfl) ?_
        refine gX3_15 hx hb hB hown hK (hw.yd hi1) dX3_copyFrom_58 ?_
        refine lv_iload_n hx hb dX3_copyFrom_61 rfl (lv_at hl 2 rfl) ?_
        obtain ⟨g16, h⟩ := gB_ok h
        refine r_ald hx hb hK (aY2 (hw.yd hi1)) (ib_ok g16) dX3_copyFrom_62 ?_
        obtain ⟨g17, h⟩ := gB_ok h
        refine sY2 hx hb hK (hw.yd hi0) hS (AC.ofY hi0) (ib_ok g17) dX3_copyFrom_63 (fun H18 L18 hy ho hS => ?_)
        have hw := hw.wy1 (c := 2) hi0 (by decide) hy ho
        refine lv_aload_n hx hb dX3_copyFrom_64 rfl (lv_at hl 0 rfl) ?_
        refine gX3_18 hx hb hB hown hK (hw.yd hi0) dX3_copyFrom_65 ?_
        refine lv_iload_n hx hb dX3_copyFrom_68 rfl (lv_at hl 2 rfl) ?_
        refine lv_aload_n hx hb dX3_copyFrom_69 rfl (lv_at hl 1 rfl) ?_
        refine gX3_18 hx hb hB hown hK (hw.yd hi1) dX3_copyFrom_70 ?_
        refine lv_iload_n hx hb dX3_copyFrom_73 rfl (lv_at hl 2 rfl) ?_
        obtain ⟨g19, h⟩ := gB_ok h
        refine r_ald hx hb hK (aY3 (hw.yd hi1)) (ib_ok g19) dX3_copyFrom_74 ?_
        obtain ⟨g20, h⟩ := gB_ok h
        refine sY3 hx hb hK (hw.yd hi0) hS (AC.ofY hi0) (ib_ok g20) dX3_copyFrom_75 (fun H21 L21 hy ho hS => ?_)
        have hw := hw.wy1 (c := 3) hi0 (by decide) hy ho
        refine lv_iinc (v := (v2_34 + 1)) (lv' := [(2, .int (v2_34 + 1)), (0, .ref (aY i0 0)), (1, .ref (aY i1 0))]) hx hb dX3_copyFrom_76 hl (k := 2) rfl rfl (by decide) rfl (fun ls hl => ?_)
        refine lv_goto (tgt := 34) hx hb dX3_copyFrom_79 (by decide) ?_
        exact ih_34 (v2_34 + 1) (va_up (va_up (va_up Y_34 i0 (u2 (Y_34 i0) 1 v2_34.toNatClampNeg (Y_34 i1 1 v2_34.toNatClampNeg))) i0 (u2 ((va_up Y_34 i0 (u2 (Y_34 i0) 1 v2_34.toNatClampNeg (Y_34 i1 1 v2_34.toNatClampNeg))) i0) 2 v2_34.toNatClampNeg ((va_up Y_34 i0 (u2 (Y_34 i0) 1 v2_34.toNatClampNeg (Y_34 i1 1 v2_34.toNatClampNeg))) i1 2 v2_34.toNatClampNeg))) i0 (u2 ((va_up (va_up Y_34 i0 (u2 (Y_34 i0) 1 v2_34.toNatClampNeg (Y_34 i1 1 v2_34.toNatClampNeg))) i0 (u2 ((va_up Y_34 i0 (u2 (Y_34 i0) 1 v2_34.toNatClampNeg (Y_34 i1 1 v2_34.toNatClampNeg))) i0) 2 v2_34.toNatClampNeg ((va_up Y_34 i0 (u2 (Y_34 i0) 1 v2_34.toNatClampNeg (Y_34 i1 1 v2_34.toNatClampNeg))) i1 2 v2_34.toNatClampNeg))) i0) 3 v2_34.toNatClampNeg ((va_up (va_up Y_34 i0 (u2 (Y_34 i0) 1 v2_34.toNatClampNeg (Y_34 i1 1 v2_34.toNatClampNeg))) i0 (u2 ((va_up Y_34 i0 (u2 (Y_34 i0) 1 v2_34.toNatClampNeg (Y_34 i1 1 v2_34.toNatClampNeg))) i0) 2 v2_34.toNatClampNeg ((va_up Y_34 i0 (u2 (Y_34 i0) 1 v2_34.toNatClampNeg (Y_34 i1 1 v2_34.toNatClampNeg))) i1 2 v2_34.toNatClampNeg))) i1 3 v2_34.toNatClampNeg))) o_34 _ _ _ (lv_sub hl [1, 2, 0] rfl) hw hS h
  refine lv_aload_n hx hb dX3_copyFrom_0 rfl (lv_at hl 0 rfl) ?_
  refine lv_aload_n hx hb dX3_copyFrom_1 rfl (lv_at hl 1 rfl) ?_
  refine gX3_33 hx hb hB hown hK (hw.yd hi1) dX3_copyFrom_2 ?_
  refine pX3_33 hx hb hB hown hK (hw.yd hi0) hS (AC.ofY hi0) dX3_copyFrom_5 (fun H22 L22 hy ho hS => ?_)
  have hw := hw.wy1 (c := 0) hi0 (by decide) hy ho
  refine lv_aload_n hx hb dX3_copyFrom_8 rfl (lv_at hl 0 rfl) ?_
  refine lv_aload_n hx hb dX3_copyFrom_9 rfl (lv_at hl 1 rfl) ?_
  refine gX3_37 hx hb hB hown hK (hw.yd hi1) dX3_copyFrom_10 ?_
  refine pX3_37 hx hb hB hown hK (hw.yd hi0) hS (AC.ofY hi0) dX3_copyFrom_13 (fun H23 L23 hy ho hS => ?_)
  have hw := hw.wy1 (c := 0) hi0 (by decide) hy ho
  refine lv_aload_n hx hb dX3_copyFrom_16 rfl (lv_at hl 0 rfl) ?_
  refine lv_aload_n hx hb dX3_copyFrom_17 rfl (lv_at hl 1 rfl) ?_
  refine gX3_40 hx hb hB hown hK (hw.yd hi1) dX3_copyFrom_18 ?_
  refine pX3_40 hx hb hB hown hK (hw.yd hi0) hS (AC.ofY hi0) dX3_copyFrom_21 (fun H24 L24 hy ho hS => ?_)
  have hw := hw.wy1 (c := 0) hi0 (by decide) hy ho
  refine lv_aload_n hx hb dX3_copyFrom_24 rfl (lv_at hl 0 rfl) ?_
  refine lv_aload_n hx hb dX3_copyFrom_25 rfl (lv_at hl 1 rfl) ?_
  refine gX3_43 hx hb hB hown hK (hw.yd hi1) dX3_copyFrom_26 ?_
  refine pX3_43 hx hb hB hown hK (hw.yd hi0) hS (AC.ofY hi0) dX3_copyFrom_29 (fun H25 L25 hy ho hS => ?_)
  have hw := hw.wy1 (c := 0) hi0 (by decide) hy ho
  refine lv_iconst (v := 0) hx hb dX3_copyFrom_32 (by decide) ?_
  refine lv_istore_n (lv' := [(2, .int 0), (0, .ref (aY i0 0)), (1, .ref (aY i1 0))]) hx hb dX3_copyFrom_33 rfl hl (by decide) rfl (fun ls hl => ?_)
  exact hL34 FU 0 (va_up (va_up (va_up (va_up Y i0 (u2 (Y i0) 0 0 (Y i1 0 0))) i0 (u2 ((va_up Y i0 (u2 (Y i0) 0 0 (Y i1 0 0))) i0) 0 1 ((va_up Y i0 (u2 (Y i0) 0 0 (Y i1 0 0))) i1 0 1))) i0 (u2 ((va_up (va_up Y i0 (u2 (Y i0) 0 0 (Y i1 0 0))) i0 (u2 ((va_up Y i0 (u2 (Y i0) 0 0 (Y i1 0 0))) i0) 0 1 ((va_up Y i0 (u2 (Y i0) 0 0 (Y i1 0 0))) i1 0 1))) i0) 0 2 ((va_up (va_up Y i0 (u2 (Y i0) 0 0 (Y i1 0 0))) i0 (u2 ((va_up Y i0 (u2 (Y i0) 0 0 (Y i1 0 0))) i0) 0 1 ((va_up Y i0 (u2 (Y i0) 0 0 (Y i1 0 0))) i1 0 1))) i1 0 2))) i0 (u2 ((va_up (va_up (va_up Y i0 (u2 (Y i0) 0 0 (Y i1 0 0))) i0 (u2 ((va_up Y i0 (u2 (Y i0) 0 0 (Y i1 0 0))) i0) 0 1 ((va_up Y i0 (u2 (Y i0) 0 0 (Y i1 0 0))) i1 0 1))) i0 (u2 ((va_up (va_up Y i0 (u2 (Y i0) 0 0 (Y i1 0 0))) i0 (u2 ((va_up Y i0 (u2 (Y i0) 0 0 (Y i1 0 0))) i0) 0 1 ((va_up Y i0 (u2 (Y i0) 0 0 (Y i1 0 0))) i1 0 1))) i0) 0 2 ((va_up (va_up Y i0 (u2 (Y i0) 0 0 (Y i1 0 0))) i0 (u2 ((va_up Y i0 (u2 (Y i0) 0 0 (Y i1 0 0))) i0) 0 1 ((va_up Y i0 (u2 (Y i0) 0 0 (Y i1 0 0))) i1 0 1))) i1 0 2))) i0) 0 3 ((va_up (va_up (va_up Y i0 (u2 (Y i0) 0 0 (Y i1 0 0))) i0 (u2 ((va_up Y i0 (u2 (Y i0) 0 0 (Y i1 0 0))) i0) 0 1 ((va_up Y i0 (u2 (Y i0) 0 0 (Y i1 0 0))) i1 0 1))) i0 (u2 ((va_up (va_up Y i0 (u2 (Y i0) 0 0 (Y i1 0 0))) i0 (u2 ((va_up Y i0 (u2 (Y i0) 0 0 (Y i1 0 0))) i0) 0 1 ((va_up Y i0 (u2 (Y i0) 0 0 (Y i1 0 0))) i1 0 1))) i0) 0 2 ((va_up (va_up Y i0 (u2 (Y i0) 0 0 (Y i1 0 0))) i0 (u2 ((va_up Y i0 (u2 (Y i0) 0 0 (Y i1 0 0))) i0) 0 1 ((va_up Y i0 (u2 (Y i0) 0 0 (Y i1 0 0))) i1 0 1))) i1 0 2))) i1 0 3))) o _ _ _ (lv_sub hl [1, 2, 0] rfl) hw hS h
def fX1_put_p (Y : YS) (o : OS) (i1 : Nat) : Option (YS × OS) := if (o 13 0) < 8 then if (o 13 0) < 0 then some (Y, o) else if 8 ≤ (o 13 0) then some (Y, o) else gB (ib (o 13 0) 8) (gB (decide ((o 14 (o 13 0).toNatClampNeg).toNatClampNeg < 13)) (gB (ib (o 13 0) 8) (gB (decide ((o 14 (o 13 0).toNatClampNeg).toNatClampNeg < 13)) ((fX3_copyFrom Y o ((o 14 (o 13 0).toNatClampNeg).toNatClampNeg) i1).bind (fun r8 => (some (r8.1, (u2 r8.2 13 0 ((r8.2 13 0) + 1))))))))) else (fX1_dropOldest_p Y o).bind (fun r11 => (if (r11.2 13 0) < 0 then some (r11.1, r11.2) else if 8 ≤ (r11.2 13 0) then some (r11.1, r11.2) else gB (ib (r11.2 13 0) 8) (gB (decide ((r11.2 14 (r11.2 13 0).toNatClampNeg).toNatClampNeg < 13)) (gB (ib (r11.2 13 0) 8) (gB (decide ((r11.2 14 (r11.2 13 0).toNatClampNeg).toNatClampNeg < 13)) ((fX3_copyFrom r11.1 r11.2 ((r11.2 14 (r11.2 13 0).toNatClampNeg).toNatClampNeg) i1).bind (fun r19 => (some (r19.1, (u2 r19.2 13 0 ((r19.2 13 0) + 1)))))))))))
abbrev rmX1_put : Room := { frames := 1, cells := 0, slots := 0, locals := 22 }
set_option maxHeartbeats 4000000 in
set_option maxRecDepth 100000 in
theorem c_X1_put_p (l : Launch) (E : En) (aY : Nat → Nat → Nat) (ao : Nat → Nat) (Y : YS) (o : OS) (i1 : Nat) (hi1 : i1 < 13) (r : YS × OS) (h : fX1_put_p Y o i1 = some r) : Met l yX1_put (kX1_put :: BIG) rmX1_put (Pk E [.ref (ao 13), .ref (aY i1 0)] (CW E aY ao Y o)) (QW none (AC aY ao) (CW E aY ao r.1 r.2)) 0 0 (AC aY ao) := by
  refine Mb (by decide) (Nat.le_of_ble_eq_true rfl) ?_
  intro p e s m below meth c ls hx hb hr hlk hB hown hml _ hK hw hl
  have hS : va_S (AC aY ao) s.heap s.heap [] := va_S.rf
  have hl : lv_has ls 2 [(0, .ref (ao 13)), (1, .ref (aY i1 0))] := hl
  rw [fX1_put_p] at h
  refine lv_aload_n hx hb dX1_put_0 rfl (lv_at hl 0 rfl) ?_
  refine gpX1_22 hx hb hB hown hK hw dX1_put_1 ?_
  refine lv_aload_n hx hb dX1_put_4 rfl (lv_at hl 0 rfl) ?_
  refine gpX1_15 hx hb hB hown hK hw dX1_put_5 ?_
  refine r_alen (v := 8) hx hb hK 2 (aO14 hw) rfl rfl dX1_put_8 ?_
  refine lv_icmp_lt (tgt := 16) hx hb dX1_put_9 (by decide) (fun g1 => ?_) (fun g1 => ?_)
  · rw [if_pos g1] at h
    refine lv_aload_n hx hb dX1_put_16 rfl (lv_at hl 0 rfl) ?_
    refine gpX1_22 hx hb hB hown hK hw dX1_put_17 ?_
    refine lv_if_lt (tgt := 70) hx hb dX1_put_20 (by decide) (fun g2 => ?_) (fun g2 => ?_)
    · rw [if_pos g2] at h
      cases h
      exact e_vW hx hb hr hlk hw hS dX1_put_70
    · rw [if_neg g2] at h
      refine lv_aload_n hx hb dX1_put_23 rfl (lv_at hl 0 rfl) ?_
      refine gpX1_22 hx hb hB hown hK hw dX1_put_24 ?_
      refine lv_aload_n hx hb dX1_put_27 rfl (lv_at hl 0 rfl) ?_
      refine gpX1_15 hx hb hB hown hK hw dX1_put_28 ?_
      refine r_alen (v := 8) hx hb hK 2 (aO14 hw) rfl rfl dX1_put_31 ?_
      refine lv_icmp_ge (tgt := 70) hx hb dX1_put_32 (by decide) (fun g3 => ?_) (fun g3 => ?_)
      · rw [if_pos g3] at h
        cases h
        exact e_vW hx hb hr hlk hw hS dX1_put_70
      · rw [if_neg g3] at h
        refine lv_aload_n hx hb dX1_put_35 rfl (lv_at hl 0 rfl) ?_
        refine gpX1_15 hx hb hB hown hK hw dX1_put_36 ?_
        refine lv_aload_n hx hb dX1_put_39 rfl (lv_at hl 0 rfl) ?_
        refine gpX1_22 hx hb hB hown hK hw dX1_put_40 ?_
        obtain ⟨g4, h⟩ := gB_ok h
        refine lO14 hx hb hK hw (ib_ok g4) dX1_put_43 ?_
        obtain ⟨g5, h⟩ := gB_ok h
        refine lv_ifnull hx hb dX1_put_44 ?_
        refine lv_aload_n hx hb dX1_put_47 rfl (lv_at hl 0 rfl) ?_
        refine gpX1_15 hx hb hB hown hK hw dX1_put_48 ?_
        refine lv_aload_n hx hb dX1_put_51 rfl (lv_at hl 0 rfl) ?_
        refine gpX1_22 hx hb hB hown hK hw dX1_put_52 ?_
        obtain ⟨g6, h⟩ := gB_ok h
        refine lO14 hx hb hK hw (ib_ok g6) dX1_put_55 ?_
        obtain ⟨g7, h⟩ := gB_ok h
        refine lv_aload_n hx hb dX1_put_56 rfl (lv_at hl 1 rfl) ?_
        obtain ⟨r8, e8, h⟩ := ob h
        refine k_VWv ⟨hx, hb, hml, hown, hB⟩ (c_X3_copyFrom l E aY ao Y o ((o 14 (o 13 0).toNatClampNeg).toNatClampNeg) i1 (of_decide_eq_true g7) hi1 r8 e8) (clX1_29 hB rfl rfl ⟨Nat.le_of_ble_eq_true rfl, Nat.le_of_ble_eq_true rfl⟩) hK hw (rvY hK (hw.yd (of_decide_eq_true g7))) rfl hl.1 rfl (Nat.le_of_ble_eq_true rfl) dX1_put_57 ⟨Nat.zero_le _, Nat.zero_le _⟩ hS (fun _ z => z) (fun H9 L9 hw _ _ hS => ?_)
        refine lv_aload_n hx hb dX1_put_60 rfl (lv_at hl 0 rfl) ?_
        refine lv_dup hx hb dX1_put_61 rfl ?_
        refine gpX1_22 hx hb hB hown hK hw dX1_put_62 ?_
        refine lv_iconst (v := 1) hx hb dX1_put_65 (by decide) ?_
        refine lv_iadd hx hb dX1_put_66 ?_
        refine ppX1_22 hx hb hB hown hK hw hS (fun _ z => z) dX1_put_67 (fun H10 L10 hw hS => ?_)
        cases h
        exact e_vW hx hb hr hlk hw hS dX1_put_70
  · rw [if_neg g1] at h
    refine lv_aload_n hx hb dX1_put_12 rfl (lv_at hl 0 rfl) ?_
    obtain ⟨r11, e11, h⟩ := ob h
    refine k_VWv ⟨hx, hb, hml, hown, hB⟩ (c_X1_dropOldest_p l E aY ao Y o r11 e11) (clX1_26 hB rfl rfl ⟨Nat.le_of_ble_eq_true rfl, Nat.le_of_ble_eq_true rfl⟩) hK hw (rvO13 hK hw) rfl hl.1 rfl (Nat.le_of_ble_eq_true rfl) dX1_put_13 ⟨Nat.zero_le _, Nat.zero_le _⟩ hS (fun _ z => z) (fun H12 L12 hw _ _ hS => ?_)
    refine lv_aload_n hx hb dX1_put_16 rfl (lv_at hl 0 rfl) ?_
    refine gpX1_22 hx hb hB hown hK hw dX1_put_17 ?_
    refine lv_if_lt (tgt := 70) hx hb dX1_put_20 (by decide) (fun g13 => ?_) (fun g13 => ?_)
    · rw [if_pos g13] at h
      cases h
      exact e_vW hx hb hr hlk hw hS dX1_put_70
    · rw [if_neg g13] at h
      refine lv_aload_n hx hb dX1_put_23 rfl (lv_at hl 0 rfl) ?_
      refine gpX1_22 hx hb hB hown hK hw dX1_put_24 ?_
      refine lv_aload_n hx hb dX1_put_27 rfl (lv_at hl 0 rfl) ?_
      refine gpX1_15 hx hb hB hown hK hw dX1_put_28 ?_
      refine r_alen (v := 8) hx hb hK 2 (aO14 hw) rfl rfl dX1_put_31 ?_
      refine lv_icmp_ge (tgt := 70) hx hb dX1_put_32 (by decide) (fun g14 => ?_) (fun g14 => ?_)
      · rw [if_pos g14] at h
        cases h
        exact e_vW hx hb hr hlk hw hS dX1_put_70
      · rw [if_neg g14] at h
        refine lv_aload_n hx hb dX1_put_35 rfl (lv_at hl 0 rfl) ?_
        refine gpX1_15 hx hb hB hown hK hw dX1_put_36 ?_
        refine lv_aload_n hx hb dX1_put_39 rfl (lv_at hl 0 rfl) ?_
        refine gpX1_22 hx hb hB hown hK hw dX1_put_40 ?_
        obtain ⟨g15, h⟩ := gB_ok h
        refine lO14 hx hb hK hw (ib_ok g15) dX1_put_43 ?_
        obtain ⟨g16, h⟩ := gB_ok h
        refine lv_ifnull hx hb dX1_put_44 ?_
        refine lv_aload_n hx hb dX1_put_47 rfl (lv_at hl 0 rfl) ?_
        refine gpX1_15 hx hb hB hown hK hw dX1_put_48 ?_
        refine lv_aload_n hx hb dX1_put_51 rfl (lv_at hl 0 rfl) ?_
        refine gpX1_22 hx hb hB hown hK hw dX1_put_52 ?_
        obtain ⟨g17, h⟩ := gB_ok h
        refine lO14 hx hb hK hw (ib_ok g17) dX1_put_55 ?_
        obtain ⟨g18, h⟩ := gB_ok h
        refine lv_aload_n hx hb dX1_put_56 rfl (lv_at hl 1 rfl) ?_
        obtain ⟨r19, e19, h⟩ := ob h
        refine k_VWv ⟨hx, hb, hml, hown, hB⟩ (c_X3_copyFrom l E aY ao r11.1 r11.2 ((r11.2 14 (r11.2 13 0).toNatClampNeg).toNatClampNeg) i1 (of_decide_eq_true g18) hi1 r19 e19) (clX1_29 hB rfl rfl ⟨Nat.le_of_ble_eq_true rfl, Nat.le_of_ble_eq_true rfl⟩) hK hw (rvY hK (hw.yd (of_decide_eq_true g18))) rfl hl.1 rfl (Nat.le_of_ble_eq_true rfl) dX1_put_57 ⟨Nat.zero_le _, Nat.zero_le _⟩ hS (fun _ z => z) (fun H20 L20 hw _ _ hS => ?_)
        refine lv_aload_n hx hb dX1_put_60 rfl (lv_at hl 0 rfl) ?_
        refine lv_dup hx hb dX1_put_61 rfl ?_
        refine gpX1_22 hx hb hB hown hK hw dX1_put_62 ?_
        refine lv_iconst (v := 1) hx hb dX1_put_65 (by decide) ?_
        refine lv_iadd hx hb dX1_put_66 ?_
        refine ppX1_22 hx hb hB hown hK hw hS (fun _ z => z) dX1_put_67 (fun H21 L21 hw hS => ?_)
        cases h
        exact e_vW hx hb hr hlk hw hS dX1_put_70
def fX1_put_k (Y : YS) (o : OS) (i1 : Nat) : Option (YS × OS) := if (o 15 0) < 2 then if (o 15 0) < 0 then some (Y, o) else if 2 ≤ (o 15 0) then some (Y, o) else gB (ib (o 15 0) 2) (gB (decide ((o 16 (o 15 0).toNatClampNeg).toNatClampNeg < 13)) (gB (ib (o 15 0) 2) (gB (decide ((o 16 (o 15 0).toNatClampNeg).toNatClampNeg < 13)) ((fX3_copyFrom Y o ((o 16 (o 15 0).toNatClampNeg).toNatClampNeg) i1).bind (fun r8 => (some (r8.1, (u2 r8.2 15 0 ((r8.2 15 0) + 1))))))))) else (fX1_dropOldest_k Y o).bind (fun r11 => (if (r11.2 15 0) < 0 then some (r11.1, r11.2) else if 2 ≤ (r11.2 15 0) then some (r11.1, r11.2) else gB (ib (r11.2 15 0) 2) (gB (decide ((r11.2 16 (r11.2 15 0).toNatClampNeg).toNatClampNeg < 13)) (gB (ib (r11.2 15 0) 2) (gB (decide ((r11.2 16 (r11.2 15 0).toNatClampNeg).toNatClampNeg < 13)) ((fX3_copyFrom r11.1 r11.2 ((r11.2 16 (r11.2 15 0).toNatClampNeg).toNatClampNeg) i1).bind (fun r19 => (some (r19.1, (u2 r19.2 15 0 ((r19.2 15 0) + 1)))))))))))
set_option maxHeartbeats 4000000 in
set_option maxRecDepth 100000 in
theorem c_X1_put_k (l : Launch) (E : En) (aY : Nat → Nat → Nat) (ao : Nat → Nat) (Y : YS) (o : OS) (i1 : Nat) (hi1 : i1 < 13) (r : YS × OS) (h : fX1_put_k Y o i1 = some r) : Met l yX1_put (kX1_put :: BIG) rmX1_put (Pk E [.ref (ao 15), .ref (aY i1 0)] (CW E aY ao Y o)) (QW none (AC aY ao) (CW E aY ao r.1 r.2)) 0 0 (AC aY ao) := by
  refine Mb (by decide) (Nat.le_of_ble_eq_true rfl) ?_
  intro p e s m below meth c ls hx hb hr hlk hB hown hml _ hK hw hl
  have hS : va_S (AC aY ao) s.heap s.heap [] := va_S.rf
  have hl : lv_has ls 2 [(0, .ref (ao 15)), (1, .ref (aY i1 0))] := hl
  rw [fX1_put_k] at h
  refine lv_aload_n hx hb dX1_put_0 rfl (lv_at hl 0 rfl) ?_
  refine gkX1_22 hx hb hB hown hK hw dX1_put_1 ?_
  refine lv_aload_n hx hb dX1_put_4 rfl (lv_at hl 0 rfl) ?_
  refine gkX1_15 hx hb hB hown hK hw dX1_put_5 ?_
  refine r_alen (v := 2) hx hb hK 2 (aO16 hw) rfl rfl dX1_put_8 ?_
  refine lv_icmp_lt (tgt := 16) hx hb dX1_put_9 (by decide) (fun g1 => ?_) (fun g1 => ?_)
  · rw [if_pos g1] at h
    refine lv_aload_n hx hb dX1_put_16 rfl (lv_at hl 0 rfl) ?_
    refine gkX1_22 hx hb hB hown hK hw dX1_put_17 ?_
    refine lv_if_lt (tgt := 70) hx hb dX1_put_20 (by decide) (fun g2 => ?_) (fun g2 => ?_)
    · rw [if_pos g2] at h
      cases h
      exact e_vW hx hb hr hlk hw hS dX1_put_70
    · rw [if_neg g2] at h
      refine lv_aload_n hx hb dX1_put_23 rfl (lv_at hl 0 rfl) ?_
      refine gkX1_22 hx hb hB hown hK hw dX1_put_24 ?_
      refine lv_aload_n hx hb dX1_put_27 rfl (lv_at hl 0 rfl) ?_
      refine gkX1_15 hx hb hB hown hK hw dX1_put_28 ?_
      refine r_alen (v := 2) hx hb hK 2 (aO16 hw) rfl rfl dX1_put_31 ?_
      refine lv_icmp_ge (tgt := 70) hx hb dX1_put_32 (by decide) (fun g3 => ?_) (fun g3 => ?_)
      · rw [if_pos g3] at h
        cases h
        exact e_vW hx hb hr hlk hw hS dX1_put_70
      · rw [if_neg g3] at h
        refine lv_aload_n hx hb dX1_put_35 rfl (lv_at hl 0 rfl) ?_
        refine gkX1_15 hx hb hB hown hK hw dX1_put_36 ?_
        refine lv_aload_n hx hb dX1_put_39 rfl (lv_at hl 0 rfl) ?_
        refine gkX1_22 hx hb hB hown hK hw dX1_put_40 ?_
        obtain ⟨g4, h⟩ := gB_ok h
        refine lO16 hx hb hK hw (ib_ok g4) dX1_put_43 ?_
        obtain ⟨g5, h⟩ := gB_ok h
        refine lv_ifnull hx hb dX1_put_44 ?_
        refine lv_aload_n hx hb dX1_put_47 rfl (lv_at hl 0 rfl) ?_
        refine gkX1_15 hx hb hB hown hK hw dX1_put_48 ?_
        refine lv_aload_n hx hb dX1_put_51 rfl (lv_at hl 0 rfl) ?_
        refine gkX1_22 hx hb hB hown hK hw dX1_put_52 ?_
        obtain ⟨g6, h⟩ := gB_ok h
        refine lO16 hx hb hK hw (ib_ok g6) dX1_put_55 ?_
        obtain ⟨g7, h⟩ := gB_ok h
        refine lv_aload_n hx hb dX1_put_56 rfl (lv_at hl 1 rfl) ?_
        obtain ⟨r8, e8, h⟩ := ob h
        refine k_VWv ⟨hx, hb, hml, hown, hB⟩ (c_X3_copyFrom l E aY ao Y o ((o 16 (o 15 0).toNatClampNeg).toNatClampNeg) i1 (of_decide_eq_true g7) hi1 r8 e8) (clX1_29 hB rfl rfl ⟨Nat.le_of_ble_eq_true rfl, Nat.le_of_ble_eq_true rfl⟩) hK hw (rvY hK (hw.yd (of_decide_eq_true g7))) rfl hl.1 rfl (Nat.le_of_ble_eq_true rfl) dX1_put_57 ⟨Nat.zero_le _, Nat.zero_le _⟩ hS (fun _ z => z) (fun H9 L9 hw _ _ hS => ?_)
        refine lv_aload_n hx hb dX1_put_60 rfl (lv_at hl 0 rfl) ?_
        refine lv_dup hx hb dX1_put_61 rfl ?_
        refine gkX1_22 hx hb hB hown hK hw dX1_put_62 ?_
        refine lv_iconst (v := 1) hx hb dX1_put_65 (by decide) ?_
        refine lv_iadd hx hb dX1_put_66 ?_
        refine pkX1_22 hx hb hB hown hK hw hS (fun _ z => z) dX1_put_67 (fun H10 L10 hw hS => ?_)
        cases h
        exact e_vW hx hb hr hlk hw hS dX1_put_70
  · rw [if_neg g1] at h
    refine lv_aload_n hx hb dX1_put_12 rfl (lv_at hl 0 rfl) ?_
    obtain ⟨r11, e11, h⟩ := ob h
    refine k_VWv ⟨hx, hb, hml, hown, hB⟩ (c_X1_dropOldest_k l E aY ao Y o r11 e11) (clX1_26 hB rfl rfl ⟨Nat.le_of_ble_eq_true rfl, Nat.le_of_ble_eq_true rfl⟩) hK hw (rvO15 hK hw) rfl hl.1 rfl (Nat.le_of_ble_eq_true rfl) dX1_put_13 ⟨Nat.zero_le _, Nat.zero_le _⟩ hS (fun _ z => z) (fun H12 L12 hw _ _ hS => ?_)
    refine lv_aload_n hx hb dX1_put_16 rfl (lv_at hl 0 rfl) ?_
    refine gkX1_22 hx hb hB hown hK hw dX1_put_17 ?_
    refine lv_if_lt (tgt := 70) hx hb dX1_put_20 (by decide) (fun g13 => ?_) (fun g13 => ?_)
    · rw [if_pos g13] at h
      cases h
      exact e_vW hx hb hr hlk hw hS dX1_put_70
    · rw [if_neg g13] at h
      refine lv_aload_n hx hb dX1_put_23 rfl (lv_at hl 0 rfl) ?_
      refine gkX1_22 hx hb hB hown hK hw dX1_put_24 ?_
      refine lv_aload_n hx hb dX1_put_27 rfl (lv_at hl 0 rfl) ?_
      refine gkX1_15 hx hb hB hown hK hw dX1_put_28 ?_
      refine r_alen (v := 2) hx hb hK 2 (aO16 hw) rfl rfl dX1_put_31 ?_
      refine lv_icmp_ge (tgt := 70) hx hb dX1_put_32 (by decide) (fun g14 => ?_) (fun g14 => ?_)
      · rw [if_pos g14] at h
        cases h
        exact e_vW hx hb hr hlk hw hS dX1_put_70
      · rw [if_neg g14] at h
        refine lv_aload_n hx hb dX1_put_35 rfl (lv_at hl 0 rfl) ?_
        refine gkX1_15 hx hb hB hown hK hw dX1_put_36 ?_
        refine lv_aload_n hx hb dX1_put_39 rfl (lv_at hl 0 rfl) ?_
        refine gkX1_22 hx hb hB hown hK hw dX1_put_40 ?_
        obtain ⟨g15, h⟩ := gB_ok h
        refine lO16 hx hb hK hw (ib_ok g15) dX1_put_43 ?_
        obtain ⟨g16, h⟩ := gB_ok h
        refine lv_ifnull hx hb dX1_put_44 ?_
        refine lv_aload_n hx hb dX1_put_47 rfl (lv_at hl 0 rfl) ?_
        refine gkX1_15 hx hb hB hown hK hw dX1_put_48 ?_
        refine lv_aload_n hx hb dX1_put_51 rfl (lv_at hl 0 rfl) ?_
        refine gkX1_22 hx hb hB hown hK hw dX1_put_52 ?_
        obtain ⟨g17, h⟩ := gB_ok h
        refine lO16 hx hb hK hw (ib_ok g17) dX1_put_55 ?_
        obtain ⟨g18, h⟩ := gB_ok h
        refine lv_aload_n hx hb dX1_put_56 rfl (lv_at hl 1 rfl) ?_
        obtain ⟨r19, e19, h⟩ := ob h
        refine k_VWv ⟨hx, hb, hml, hown, hB⟩ (c_X3_copyFrom l E aY ao r11.1 r11.2 ((r11.2 16 (r11.2 15 0).toNatClampNeg).toNatClampNeg) i1 (of_decide_eq_true g18) hi1 r19 e19) (clX1_29 hB rfl rfl ⟨Nat.le_of_ble_eq_true rfl, Nat.le_of_ble_eq_true rfl⟩) hK hw (rvY hK (hw.yd (of_decide_eq_true g18))) rfl hl.1 rfl (Nat.le_of_ble_eq_true rfl) dX1_put_57 ⟨Nat.zero_le _, Nat.zero_le _⟩ hS (fun _ z => z) (fun H20 L20 hw _ _ hS => ?_)
        refine lv_aload_n hx hb dX1_put_60 rfl (lv_at hl 0 rfl) ?_
        refine lv_dup hx hb dX1_put_61 rfl ?_
        refine gkX1_22 hx hb hB hown hK hw dX1_put_62 ?_
        refine lv_iconst (v := 1) hx hb dX1_put_65 (by decide) ?_
        refine lv_iadd hx hb dX1_put_66 ?_
        refine pkX1_22 hx hb hB hown hK hw hS (fun _ z => z) dX1_put_67 (fun H21 L21 hw hS => ?_)
        cases h
        exact e_vW hx hb hr hlk hw hS dX1_put_70
def fX1_take_p (Y : YS) (o : OS) (i1 : Nat) : Option (YS × OS) := if (o 13 0) ≤ 0 then some (Y, o) else if 8 < (o 13 0) then some (Y, o) else gB (ib ((o 13 0) - 1) 8) (gB (decide ((o 14 ((o 13 0) - 1).toNatClampNeg).toNatClampNeg < 13)) (gB (ib ((u2 o 13 0 ((o 13 0) - 1)) 13 0) 8) (gB (decide (((u2 o 13 0 ((o 13 0) - 1)) 14 ((u2 o 13 0 ((o 13 0) - 1)) 13 0).toNatClampNeg).toNatClampNeg < 13)) ((fX3_copyFrom Y (u2 o 13 0 ((o 13 0) - 1)) i1 (((u2 o 13 0 ((o 13 0) - 1)) 14 ((u2 o 13 0 ((o 13 0) - 1)) 13 0).toNatClampNeg).toNatClampNeg)).bind (fun r8 => (some (r8.1, r8.2)))))))
abbrev rmX1_take : Room := { frames := 1, cells := 0, slots := 0, locals := 22 }
set_option maxHeartbeats 4000000 in
set_option maxRecDepth 100000 in
theorem c_X1_take_p (l : Launch) (E : En) (aY : Nat → Nat → Nat) (ao : Nat → Nat) (Y : YS) (o : OS) (i1 : Nat) (hi1 : i1 < 13) (r : YS × OS) (h : fX1_take_p Y o i1 = some r) : Met l yX1_take (kX1_take :: BIG) rmX1_take (Pk E [.ref (ao 13), .ref (aY i1 0)] (CW E aY ao Y o)) (QW none (AC aY ao) (CW E aY ao r.1 r.2)) 0 0 (AC aY ao) := by
  refine Mb (by decide) (Nat.le_of_ble_eq_true rfl) ?_
  intro p e s m below meth c ls hx hb hr hlk hB hown hml _ hK hw hl
  have hS : va_S (AC aY ao) s.heap s.heap [] := va_S.rf
  have hl : lv_has ls 2 [(0, .ref (ao 13)), (1, .ref (aY i1 0))] := hl
  rw [fX1_take_p] at h
  refine lv_aload_n hx hb dX1_take_0 rfl (lv_at hl 0 rfl) ?_
  refine gpX1_22 hx hb hB hown hK hw dX1_take_1 ?_
  refine lv_if_le (tgt := 56) hx hb dX1_take_4 (by decide) (fun g1 => ?_) (fun g1 => ?_)
  · rw [if_pos g1] at h
    cases h
    exact e_vW hx hb hr hlk hw hS dX1_take_56
  · rw [if_neg g1] at h
    refine lv_aload_n hx hb dX1_take_7 rfl (lv_at hl 0 rfl) ?_
    refine gpX1_22 hx hb hB hown hK hw dX1_take_8 ?_
    refine lv_aload_n hx hb dX1_take_11 rfl (lv_at hl 0 rfl) ?_
    refine gpX1_15 hx hb hB hown hK hw dX1_take_12 ?_
    refine r_alen (v := 8) hx hb hK 2 (aO14 hw) rfl rfl dX1_take_15 ?_
    refine lv_icmp_gt (tgt := 56) hx hb dX1_take_16 (by decide) (fun g2 => ?_) (fun g2 => ?_)
    · rw [if_pos g2] at h
      cases h
      exact e_vW hx hb hr hlk hw hS dX1_take_56
    · rw [if_neg g2] at h
      refine lv_aload_n hx hb dX1_take_19 rfl (lv_at hl 0 rfl) ?_
      refine gpX1_15 hx hb hB hown hK hw dX1_take_20 ?_
      refine lv_aload_n hx hb dX1_take_23 rfl (lv_at hl 0 rfl) ?_
      refine gpX1_22 hx hb hB hown hK hw dX1_take_24 ?_
      refine lv_iconst (v := 1) hx hb dX1_take_27 (by decide) ?_
      refine lv_isub hx hb dX1_take_28 ?_
      obtain ⟨g3, h⟩ := gB_ok h
      refine lO14 hx hb hK hw (ib_ok g3) dX1_take_29 ?_
      obtain ⟨g4, h⟩ := gB_ok h
      refine lv_ifnull hx hb dX1_take_30 ?_
      refine lv_aload_n hx hb dX1_take_33 rfl (lv_at hl 0 rfl) ?_
      refine lv_dup hx hb dX1_take_34 rfl ?_
      refine gpX1_22 hx hb hB hown hK hw dX1_take_35 ?_
      refine lv_iconst (v := 1) hx hb dX1_take_38 (by decide) ?_
      refine lv_isub hx hb dX1_take_39 ?_
      refine ppX1_22 hx hb hB hown hK hw hS (fun _ z => z) dX1_take_40 (fun H5 L5 hw hS => ?_)
      refine lv_aload_n hx hb dX1_take_43 rfl (lv_at hl 1 rfl) ?_
      refine lv_aload_n hx hb dX1_take_44 rfl (lv_at hl 0 rfl) ?_
      refine gpX1_15 hx hb hB hown hK hw dX1_take_45 ?_
      refine lv_aload_n hx hb dX1_take_48 rfl (lv_at hl 0 rfl) ?_
      refine gpX1_22 hx hb hB hown hK hw dX1_take_49 ?_
      obtain ⟨g6, h⟩ := gB_ok h
      refine lO14 hx hb hK hw (ib_ok g6) dX1_take_52 ?_
      obtain ⟨g7, h⟩ := gB_ok h
      obtain ⟨r8, e8, h⟩ := ob h
      refine k_VWv ⟨hx, hb, hml, hown, hB⟩ (c_X3_copyFrom l E aY ao Y (u2 o 13 0 ((o 13 0) - 1)) i1 (((u2 o 13 0 ((o 13 0) - 1)) 14 ((u2 o 13 0 ((o 13 0) - 1)) 13 0).toNatClampNeg).toNatClampNeg) hi1 (of_decide_eq_true g7) r8 e8) (clX1_29 hB rfl rfl ⟨Nat.le_of_ble_eq_true rfl, Nat.le_of_ble_eq_true rfl⟩) hK hw (rvY hK (hw.yd hi1)) rfl hl.1 rfl (Nat.le_of_ble_eq_true rfl) dX1_take_53 ⟨Nat.zero_le _, Nat.zero_le _⟩ hS (fun _ z => z) (fun H9 L9 hw _ _ hS => ?_)
      cases h
      exact e_vW hx hb hr hlk hw hS dX1_take_56
def fX1_take_k (Y : YS) (o : OS) (i1 : Nat) : Option (YS × OS) := if (o 15 0) ≤ 0 then some (Y, o) else if 2 < (o 15 0) then some (Y, o) else gB (ib ((o 15 0) - 1) 2) (gB (decide ((o 16 ((o 15 0) - 1).toNatClampNeg).toNatClampNeg < 13)) (gB (ib ((u2 o 15 0 ((o 15 0) - 1)) 15 0) 2) (gB (decide (((u2 o 15 0 ((o 15 0) - 1)) 16 ((u2 o 15 0 ((o 15 0) - 1)) 15 0).toNatClampNeg).toNatClampNeg < 13)) ((fX3_copyFrom Y (u2 o 15 0 ((o 15 0) - 1)) i1 (((u2 o 15 0 ((o 15 0) - 1)) 16 ((u2 o 15 0 ((o 15 0) - 1)) 15 0).toNatClampNeg).toNatClampNeg)).bind (fun r8 => (some (r8.1, r8.2)))))))
set_option maxHeartbeats 4000000 in
set_option maxRecDepth 100000 in
theorem c_X1_take_k (l : Launch) (E : En) (aY : Nat → Nat → Nat) (ao : Nat → Nat) (Y : YS) (o : OS) (i1 : Nat) (hi1 : i1 < 13) (r : YS × OS) (h : fX1_take_k Y o i1 = some r) : Met l yX1_take (kX1_take :: BIG) rmX1_take (Pk E [.ref (ao 15), .ref (aY i1 0)] (CW E aY ao Y o)) (QW none (AC aY ao) (CW E aY ao r.1 r.2)) 0 0 (AC aY ao) := by
  refine Mb (by decide) (Nat.le_of_ble_eq_true rfl) ?_
  intro p e s m below meth c ls hx hb hr hlk hB hown hml _ hK hw hl
  have hS : va_S (AC aY ao) s.heap s.heap [] := va_S.rf
  have hl : lv_has ls 2 [(0, .ref (ao 15)), (1, .ref (aY i1 0))] := hl
  rw [fX1_take_k] at h
  refine lv_aload_n hx hb dX1_take_0 rfl (lv_at hl 0 rfl) ?_
  refine gkX1_22 hx hb hB hown hK hw dX1_take_1 ?_
  refine lv_if_le (tgt := 56) hx hb dX1_take_4 (by decide) (fun g1 => ?_) (fun g1 => ?_)
  · rw [if_pos g1] at h
    cases h
    exact e_vW hx hb hr hlk hw hS dX1_take_56
  · rw [if_neg g1] at h
    refine lv_aload_n hx hb dX1_take_7 rfl (lv_at hl 0 rfl) ?_
    refine gkX1_22 hx hb hB hown hK hw dX1_take_8 ?_
    refine lv_aload_n hx hb dX1_take_11 rfl (lv_at hl 0 rfl) ?_
    refine gkX1_15 hx hb hB hown hK hw dX1_take_12 ?_
    refine r_alen (v := 2) hx hb hK 2 (aO16 hw) rfl rfl dX1_take_15 ?_
    refine lv_icmp_gt (tgt := 56) hx hb dX1_take_16 (by decide) (fun g2 => ?_) (fun g2 => ?_)
    · rw [if_pos g2] at h
      cases h
      exact e_vW hx hb hr hlk hw hS dX1_take_56
    · rw [if_neg g2] at h
      refine lv_aload_n hx hb dX1_take_19 rfl (lv_at hl 0 rfl) ?_
      refine gkX1_15 hx hb hB hown hK hw dX1_take_20 ?_
      refine lv_aload_n hx hb dX1_take_23 rfl (lv_at hl 0 rfl) ?_
      refine gkX1_22 hx hb hB hown hK hw dX1_take_24 ?_
      refine lv_iconst (v := 1) hx hb dX1_take_27 (by decide) ?_
      refine lv_isub hx hb dX1_take_28 ?_
      obtain ⟨g3, h⟩ := gB_ok h
      refine lO16 hx hb hK hw (ib_ok g3) dX1_take_29 ?_
      obtain ⟨g4, h⟩ := gB_ok h
      refine lv_ifnull hx hb dX1_take_30 ?_
      refine lv_aload_n hx hb dX1_take_33 rfl (lv_at hl 0 rfl) ?_
      refine lv_dup hx hb dX1_take_34 rfl ?_
      refine gkX1_22 hx hb hB hown hK hw dX1_take_35 ?_
      refine lv_iconst (v := 1) hx hb dX1_take_38 (by decide) ?_
      refine lv_isub hx hb dX1_take_39 ?_
      refine pkX1_22 hx hb hB hown hK hw hS (fun _ z => z) dX1_take_40 (fun H5 L5 hw hS => ?_)
      refine lv_aload_n hx hb dX1_take_43 rfl (lv_at hl 1 rfl) ?_
      refine lv_aload_n hx hb dX1_take_44 rfl (lv_at hl 0 rfl) ?_
      refine gkX1_15 hx hb hB hown hK hw dX1_take_45 ?_
      refine lv_aload_n hx hb dX1_take_48 rfl (lv_at hl 0 rfl) ?_
      refine gkX1_22 hx hb hB hown hK hw dX1_take_49 ?_
      obtain ⟨g6, h⟩ := gB_ok h
      refine lO16 hx hb hK hw (ib_ok g6) dX1_take_52 ?_
      obtain ⟨g7, h⟩ := gB_ok h
      obtain ⟨r8, e8, h⟩ := ob h
      refine k_VWv ⟨hx, hb, hml, hown, hB⟩ (c_X3_copyFrom l E aY ao Y (u2 o 15 0 ((o 15 0) - 1)) i1 (((u2 o 15 0 ((o 15 0) - 1)) 16 ((u2 o 15 0 ((o 15 0) - 1)) 15 0).toNatClampNeg).toNatClampNeg) hi1 (of_decide_eq_true g7) r8 e8) (clX1_29 hB rfl rfl ⟨Nat.le_of_ble_eq_true rfl, Nat.le_of_ble_eq_true rfl⟩) hK hw (rvY hK (hw.yd hi1)) rfl hl.1 rfl (Nat.le_of_ble_eq_true rfl) dX1_take_53 ⟨Nat.zero_le _, Nat.zero_le _⟩ hS (fun _ z => z) (fun H9 L9 hw _ _ hS => ?_)
      cases h
      exact e_vW hx hb hr hlk hw hS dX1_take_56
def fX2_append (Y : YS) (o : OS) (a1 : Int32) : Option (YS × OS) := if (o 3 0) < 0 then some (Y, o) else if 200 ≤ (o 3 0) then some (Y, o) else gB (ib (o 3 0) 200) (some (Y, (u2 (u2 o 4 (o 3 0).toNatClampNeg (vp_nar .char a1)) 3 0 (((u2 o 4 (o 3 0).toNatClampNeg (vp_nar .char a1)) 3 0) + 1))))
abbrev rmX2_append : Room := { frames := 0, cells := 0, slots := 0, locals := 0 }
set_option maxHeartbeats 4000000 in
set_option maxRecDepth 100000 in
theorem c_X2_append (l : Launch) (E : En) (aY : Nat → Nat → Nat) (ao : Nat → Nat) (Y : YS) (o : OS) (a1 : Int32) (r : YS × OS) (h : fX2_append Y o a1 = some r) : Met l yX2_append (kX2_append :: BIG) rmX2_append (Pk E [.ref (ao 3), .int a1] (CW E aY ao Y o)) (QW none (AC aY ao) (CW E aY ao r.1 r.2)) 0 0 (AC aY ao) := by
  refine Mb (by decide) (Nat.le_of_ble_eq_true rfl) ?_
  intro p e s m below meth c ls hx hb hr hlk hB hown hml _ hK hw hl
  have hS : va_S (AC aY ao) s.heap s.heap [] := va_S.rf
  have hl : lv_has ls 2 [(0, .ref (ao 3)), (1, .int a1)] := hl
  rw [fX2_append] at h
  refine lv_aload_n hx hb dX2_append_0 rfl (lv_at hl 0 rfl) ?_
  refine gX2_19 hx hb hB hown hK hw dX2_append_1 ?_
  refine lv_if_lt (tgt := 37) hx hb dX2_append_4 (by decide) (fun g1 => ?_) (fun g1 => ?_)
  · rw [if_pos g1] at h
    cases h
    exact e_vW hx hb hr hlk hw hS dX2_append_37
  · rw [if_neg g1] at h
    refine lv_aload_n hx hb dX2_append_7 rfl (lv_at hl 0 rfl) ?_
    refine gX2_19 hx hb hB hown hK hw dX2_append_8 ?_
    refine lv_sipush (v := 200) hx hb dX2_append_11 (by decide) ?_
    refine lv_icmp_ge (tgt := 37) hx hb dX2_append_14 (by decide) (fun g2 => ?_) (fun g2 => ?_)
    · rw [if_pos g2] at h
      cases h
      exact e_vW hx hb hr hlk hw hS dX2_append_37
    · rw [if_neg g2] at h
      refine lv_aload_n hx hb dX2_append_17 rfl (lv_at hl 0 rfl) ?_
      refine gX2_9 hx hb hB hown hK hw dX2_append_18 ?_
      refine lv_aload_n hx hb dX2_append_21 rfl (lv_at hl 0 rfl) ?_
      refine gX2_19 hx hb hB hown hK hw dX2_append_22 ?_
      refine lv_iload_n hx hb dX2_append_25 rfl (lv_at hl 1 rfl) ?_
      obtain ⟨g3, h⟩ := gB_ok h
      refine sO4 hx hb hK hw hS (fun _ z => z) (ib_ok g3) dX2_append_26 (fun H4 L4 hw hS => ?_)
      refine lv_aload_n hx hb dX2_append_27 rfl (lv_at hl 0 rfl) ?_
      refine lv_dup hx hb dX2_append_28 rfl ?_
      refine gX2_19 hx hb hB hown hK hw dX2_append_29 ?_
      refine lv_iconst (v := 1) hx hb dX2_append_32 (by decide) ?_
      refine lv_iadd hx hb dX2_append_33 ?_
      refine pX2_19 hx hb hB hown hK hw hS (fun _ z => z) dX2_append_34 (fun H5 L5 hw hS => ?_)
      cases h
      exact e_vW hx hb hr hlk hw hS dX2_append_37
def fX2_letterAt (Y : YS) (o : OS) (a1 : Int32) : Option (Int32) := if a1 < 0 then some 32 else if (o 3 0) ≤ a1 then some 32 else if 200 ≤ a1 then some 32 else gB (ib a1 200) (gB (isC .char (o 4 a1.toNatClampNeg)) (some (o 4 a1.toNatClampNeg)))
abbrev rmX2_letterAt : Room := { frames := 0, cells := 0, slots := 0, locals := 0 }
set_option maxHeartbeats 4000000 in
set_option maxRecDepth 100000 in
theorem c_X2_letterAt (l : Launch) (E : En) (aY : Nat → Nat → Nat) (ao : Nat → Nat) (Y : YS) (o : OS) (a1 : Int32) (r : Int32) (h : fX2_letterAt Y o a1 = some r) : Met l yX2_letterAt (kX2_letterAt :: BIG) rmX2_letterAt (Pk E [.ref (ao 3), .int a1] (CW E aY ao Y o)) (QcRead r) 0 0 (fun _ => False) := by
  refine Mb (by decide) (Nat.le_of_ble_eq_true rfl) ?_
  intro p e s m below meth c ls hx hb hr hlk hB hown hml _ hK hw hl
  have hl : lv_has ls 2 [(0, .ref (ao 3)), (1, .int a1)] := hl
  rw [fX2_letterAt] at h
  refine lv_iload_n hx hb dX2_letterAt_0 rfl (lv_at hl 1 rfl) ?_
  refine lv_if_lt (tgt := 28) hx hb dX2_letterAt_1 (by decide) (fun g1 => ?_) (fun g1 => ?_)
  · rw [if_pos g1] at h
    refine lv_bipush (v := 32) hx hb dX2_letterAt_28 (by decide) ?_
    exact e_zR hx hb hr hlk (by decide) h dX2_letterAt_30
  · rw [if_neg g1] at h
    refine lv_iload_n hx hb dX2_letterAt_4 rfl (lv_at hl 1 rfl) ?_
    refine lv_aload_n hx hb dX2_letterAt_5 rfl (lv_at hl 0 rfl) ?_
    refine gX2_19 hx hb hB hown hK hw dX2_letterAt_6 ?_
    refine lv_icmp_ge (tgt := 28) hx hb dX2_letterAt_9 (by decide) (fun g2 => ?_) (fun g2 => ?_)
    · rw [if_pos g2] at h
      refine lv_bipush (v := 32) hx hb dX2_letterAt_28 (by decide) ?_
      exact e_zR hx hb hr hlk (by decide) h dX2_letterAt_30
    · rw [if_neg g2] at h
      refine lv_iload_n hx hb dX2_letterAt_12 rfl (lv_at hl 1 rfl) ?_
      refine lv_sipush (v := 200) hx hb dX2_letterAt_13 (by decide) ?_
      refine lv_icmp_ge (tgt := 28) hx hb dX2_letterAt_16 (by decide) (fun g3 => ?_) (fun g3 => ?_)
      · rw [if_pos g3] at h
        refine lv_bipush (v := 32) hx hb dX2_letterAt_28 (by decide) ?_
        exact e_zR hx hb hr hlk (by decide) h dX2_letterAt_30
      · rw [if_neg g3] at h
        refine lv_aload_n hx hb dX2_letterAt_19 rfl (lv_at hl 0 rfl) ?_
        refine gX2_9 hx hb hB hown hK hw dX2_letterAt_20 ?_
        refine lv_iload_n hx hb dX2_letterAt_23 rfl (lv_at hl 1 rfl) ?_
        obtain ⟨g4, h⟩ := gB_ok h
        refine r_cald hx hb hK (aO4 hw) (ib_ok g4) dX2_letterAt_24 ?_
        refine lv_goto (tgt := 30) hx hb dX2_letterAt_25 (by decide) ?_
        obtain ⟨g5, h⟩ := gB_ok h
        exact e_zR hx hb hr hlk (isC_ok g5) h dX2_letterAt_30
def fX2_readFigures (Y : YS) (o : OS) : Option (Int32 × YS × OS) := (fX2_letterAt Y o (o 3 1)).bind (fun r1 => ((fX2_letterAt Y (u2 o 3 1 ((o 3 1) + 1)) ((u2 o 3 1 ((o 3 1) + 1)) 3 1)).bind (fun r3 => ((fX2_isFigure r3).bind (fun r4 => (if r4 = 0 then some ((r1 - 48), Y, (u2 o 3 1 ((o 3 1) + 1))) else (fX2_letterAt Y (u2 o 3 1 ((o 3 1) + 1)) ((u2 o 3 1 ((o 3 1) + 1)) 3 1)).bind (fun r6 => (some ((((10 * (r1 - 48)) + r6) - 48), Y, (u2 (u2 o 3 1 ((o 3 1) + 1)) 3 1 (((u2 o 3 1 ((o 3 1) + 1)) 3 1) + 1)))))))))))
abbrev rmX2_readFigures : Room := { frames := 1, cells := 0, slots := 0, locals := 21 }
set_option maxHeartbeats 4000000 in
set_option maxRecDepth 100000 in
theorem c_X2_readFigures (l : Launch) (E : En) (aY : Nat → Nat → Nat) (ao : Nat → Nat) (Y : YS) (o : OS) (r : Int32 × YS × OS) (h : fX2_readFigures Y o = some r) : Met l yX2_readFigures (kX2_readFigures :: BIG) rmX2_readFigures (Pk E [.ref (ao 3)] (CW E aY ao Y o)) (QW (some (.int r.1)) (AC aY ao) (CW E aY ao r.2.1 r.2.2)) 0 0 (AC aY ao) := by
  refine Mb (by decide) (Nat.le_of_ble_eq_true rfl) ?_
  intro p e s m below meth c ls hx hb hr hlk hB hown hml _ hK hw hl
  have hS : va_S (AC aY ao) s.heap s.heap [] := va_S.rf
  have hl : lv_has ls 2 [(0, .ref (ao 3))] := hl
  rw [fX2_readFigures] at h
  refine lv_aload_n hx hb dX2_readFigures_0 rfl (lv_at hl 0 rfl) ?_
  refine lv_aload_n hx hb dX2_readFigures_1 rfl (lv_at hl 0 rfl) ?_
  refine gX2_28 hx hb hB hown hK hw dX2_readFigures_2 ?_
  obtain ⟨r1, e1, h⟩ := ob h
  refine k_VR ⟨hx, hb, hml, hown, hB⟩ (c_X2_letterAt l E aY ao Y o (o 3 1) r1 e1) (clX2_35 hB rfl rfl ⟨Nat.le_of_ble_eq_true rfl, Nat.le_of_ble_eq_true rfl⟩) hK hw (rvO3 hK hw) rfl hl.1 rfl (Nat.le_of_ble_eq_true rfl) dX2_readFigures_5 ⟨Nat.zero_le _, Nat.zero_le _⟩ ?_
  refine lv_bipush (v := 48) hx hb dX2_readFigures_8 (by decide) ?_
  refine lv_isub hx hb dX2_readFigures_10 ?_
  refine lv_istore_n (lv' := [(1, .int (r1 - 48)), (0, .ref (ao 3))]) hx hb dX2_readFigures_11 rfl hl (by decide) rfl (fun ls hl => ?_)
  refine lv_aload_n hx hb dX2_readFigures_12 rfl (lv_at hl 1 rfl) ?_
  refine lv_dup hx hb dX2_readFigures_13 rfl ?_
  refine gX2_28 hx hb hB hown hK hw dX2_readFigures_14 ?_
  refine lv_iconst (v := 1) hx hb dX2_readFigures_17 (by decide) ?_
  refine lv_iadd hx hb dX2_readFigures_18 ?_
  refine pX2_28 hx hb hB hown hK hw hS (fun _ z => z) dX2_readFigures_19 (fun H2 L2 hw hS => ?_)
  refine lv_aload_n hx hb dX2_readFigures_22 rfl (lv_at hl 1 rfl) ?_
  refine lv_aload_n hx hb dX2_readFigures_23 rfl (lv_at hl 1 rfl) ?_
  refine gX2_28 hx hb hB hown hK hw dX2_readFigures_24 ?_
  obtain ⟨r3, e3, h⟩ := ob h
  refine k_VR ⟨hx, hb, hml, hown, hB⟩ (c_X2_letterAt l E aY ao Y (u2 o 3 1 ((o 3 1) + 1)) ((u2 o 3 1 ((o 3 1) + 1)) 3 1) r3 e3) (clX2_35 hB rfl rfl ⟨Nat.le_of_ble_eq_true rfl, Nat.le_of_ble_eq_true rfl⟩) hK hw (rvO3 hK hw) rfl hl.1 rfl (Nat.le_of_ble_eq_true rfl) dX2_readFigures_27 ⟨Nat.zero_le _, Nat.zero_le _⟩ ?_
  obtain ⟨r4, e4, h⟩ := ob h
  refine k_SR ⟨hx, hb, hml, hown, hB⟩ (c_X2_isFigure l E r3 r4 e4) (clX2_81 hB rfl rfl ⟨Nat.le_of_ble_eq_true rfl, Nat.le_of_ble_eq_true rfl⟩) hK trivial rfl hl.1 rfl (Nat.le_of_ble_eq_true rfl) dX2_readFigures_30 ⟨Nat.zero_le _, Nat.zero_le _⟩ ?_
  refine lv_if_eq (tgt := 63) hx hb dX2_readFigures_33 (by decide) (fun g5 => ?_) (fun g5 => ?_)
  · rw [if_pos g5] at h
    refine lv_iload_n hx hb dX2_readFigures_63 rfl (lv_at hl 0 rfl) ?_
    cases h
    exact e_zW hx hb hr hlk rfl rfl hw hS dX2_readFigures_64
  · rw [if_neg g5] at h
    refine lv_bipush (v := 10) hx hb dX2_readFigures_36 (by decide) ?_
    refine lv_iload_n hx hb dX2_readFigures_38 rfl (lv_at hl 0 rfl) ?_
    refine lv_imul hx hb dX2_readFigures_39 ?_
    refine lv_aload_n hx hb dX2_readFigures_40 rfl (lv_at hl 1 rfl) ?_
    refine lv_aload_n hx hb dX2_readFigures_41 rfl (lv_at hl 1 rfl) ?_
    refine gX2_28 hx hb hB hown hK hw dX2_readFigures_42 ?_
    obtain ⟨r6, e6, h⟩ := ob h
    refine k_VR ⟨hx, hb, hml, hown, hB⟩ (c_X2_letterAt l E aY ao Y (u2 o 3 1 ((o 3 1) + 1)) ((u2 o 3 1 ((o 3 1) + 1)) 3 1) r6 e6) (clX2_35 hB rfl rfl ⟨Nat.le_of_ble_eq_true rfl, Nat.le_of_ble_eq_true rfl⟩) hK hw (rvO3 hK hw) rfl hl.1 rfl (Nat.le_of_ble_eq_true rfl) dX2_readFigures_45 ⟨Nat.zero_le _, Nat.zero_le _⟩ ?_
    refine lv_iadd hx hb dX2_readFigures_48 ?_
    refine lv_bipush (v := 48) hx hb dX2_readFigures_49 (by decide) ?_
    refine lv_isub hx hb dX2_readFigures_51 ?_
    refine lv_istore_n (lv' := [(1, .int (((10 * (r1 - 48)) + r6) - 48)), (0, .ref (ao 3))]) hx hb dX2_readFigures_52 rfl hl (by decide) rfl (fun ls hl => ?_)
    refine lv_aload_n hx hb dX2_readFigures_53 rfl (lv_at hl 1 rfl) ?_
    refine lv_dup hx hb dX2_readFigures_54 rfl ?_
    refine gX2_28 hx hb hB hown hK hw dX2_readFigures_55 ?_
    refine lv_iconst (v := 1) hx hb dX2_readFigures_58 (by decide) ?_
    refine lv_iadd hx hb dX2_readFigures_59 ?_
    refine pX2_28 hx hb hB hown hK hw hS (fun _ z => z) dX2_readFigures_60 (fun H7 L7 hw hS => ?_)
    refine lv_iload_n hx hb dX2_readFigures_63 rfl (lv_at hl 0 rfl) ?_
    cases h
    exact e_zW hx hb hr hlk rfl rfl hw hS dX2_readFigures_64
def fX2_readNumbers_L2 (v1_2 : Int32) : Nat → Int32 → YS → OS → Option (Int32 × YS × OS)
  | 0, _, _, _ => none
  | n_2 + 1, v2_2, Y_2, o_2 => if v1_2 ≤ v2_2 then if v1_2 ≤ 0 then some (0, Y_2, o_2) else some (1, Y_2, o_2) else if 3 ≤ v2_2 then if v1_2 ≤ 0 then some (0, Y_2, o_2) else some (1, Y_2, o_2) else (fX2_letterAt Y_2 o_2 (o_2 3 1)).bind (fun r5 => ((fX2_isFigure r5).bind (fun r6 => (if r6 = 0 then some (0, Y_2, o_2) else (fX2_readFigures Y_2 o_2).bind (fun r8 => (gB (ib v2_2 3) ((fX2_letterAt r8.2.1 (u2 r8.2.2 5 v2_2.toNatClampNeg r8.1) ((u2 r8.2.2 5 v2_2.toNatClampNeg r8.1) 3 1)).bind (fun r12 => (if v2_2 = (v1_2 - 1) then if r12 = 59 then fX2_readNumbers_L2 v1_2 n_2 (v2_2 + 1) r8.2.1 (u2 (u2 r8.2.2 5 v2_2.toNatClampNeg r8.1) 3 1 (((u2 r8.2.2 5 v2_2.toNatClampNeg r8.1) 3 1) + 1)) else some (0, r8.2.1, (u2 r8.2.2 5 v2_2.toNatClampNeg r8.1)) else if r12 = 44 then fX2_readNumbers_L2 v1_2 n_2 (v2_2 + 1) r8.2.1 (u2 (u2 r8.2.2 5 v2_2.toNatClampNeg r8.1) 3 1 (((u2 r8.2.2 5 v2_2.toNatClampNeg r8.1) 3 1) + 1)) else some (0, r8.2.1, (u2 r8.2.2 5 v2_2.toNatClampNeg r8.1)))))))))))
def fX2_readNumbers (Y : YS) (o : OS) (a1 : Int32) : Option (Int32 × YS × OS) := fX2_readNumbers_L2 a1 FU 0 Y o
abbrev rmX2_readNumbers : Room := { frames := 2, cells := 0, slots := 0, locals := 42 }
set_option maxHeartbeats 4000000 in
set_option maxRecDepth 100000 in
theorem c_X2_readNumbers (l : Launch) (E : En) (aY : Nat → Nat → Nat) (ao : Nat → Nat) (Y : YS) (o : OS) (a1 : Int32) (r : Int32 × YS × OS) (h : fX2_readNumbers Y o a1 = some r) : Met l yX2_readNumbers (kX2_readNumbers :: BIG) rmX2_readNumbers (Pk E [.ref (ao 3), .int a1] (CW E aY ao Y o)) (QW (some (.int r.1)) (AC aY ao) (CW E aY ao r.2.1 r.2.2)) 0 0 (AC aY ao) := by
  refine Mb (by decide) (Nat.le_of_ble_eq_true rfl) ?_
  intro p e s m below meth c ls hx hb hr hlk hB hown hml _ hK hw hl
  have hS : va_S (AC aY ao) s.heap s.heap [] := va_S.rf
  have hl : lv_has ls 3 [(0, .ref (ao 3)), (1, .int a1)] := hl
  rw [fX2_readNumbers] at h
  have hL2 : ∀ (n_2 : Nat) (v1_2 : Int32) (v2_2 : Int32) (Y_2 : YS) (o_2 : OS) (H_2 : Heap) (L_2 : List Loc) (ls_2 : Array Slot), lv_has ls_2 3 [(0, .ref (ao 3)), (1, .int v1_2), (2, .int v2_2)] → CW E aY ao Y_2 o_2 H_2 → va_S (AC aY ao) s.heap H_2 L_2 → fX2_readNumbers_L2 v1_2 n_2 v2_2 Y_2 o_2 = some r → W p l e rmX2_readNumbers s m ([.ref (ao 3), .int a1] : List Value).toArray below meth c H_2 L_2 0 0 (MQ below (QW (some (.int r.1)) (AC aY ao) (CW E aY ao r.2.1 r.2.2)) ([.ref (ao 3), .int a1] : List Value).toArray s 0 0 (AC aY ao)) (F0 m 2 ls_2 []) := by
    intro n_2
    induction n_2 with
    | zero =>
      intro v1_2 v2_2 Y_2 o_2 H_2 L_2 ls_2 hl hw hS h
      exact nn h
    | succ n_2 ih_2 =>
      intro v1_2 v2_2 Y_2 o_2 H_2 L_2 ls_2 hl hw hS h
      rw [fX2_readNumbers_L2] at h
      refine lv_iload_n hx hb dX2_readNumbers_2 rfl (lv_at hl 2 rfl) ?_
      refine lv_iload_n hx hb dX2_readNumbers_3 rfl (lv_at hl 1 rfl) ?_
      refine lv_icmp_ge (tgt := 81) hx hb dX2_readNumbers_4 (by decide) (fun g1 => ?_) (fun g1 => ?_)
      · rw [if_pos g1] at h
        refine lv_iload_n hx hb dX2_readNumbers_81 rfl (lv_at hl 1 rfl) ?_
        refine lv_if_le (tgt := 89) hx hb dX2_readNumbers_82 (by decide) (fun g2 => ?_) (fun g2 => ?_)
        · rw [if_pos g2] at h
          refine lv_iconst (v := 0) hx hb dX2_readNumbers_89 (by decide) ?_
          cases h
          exact e_zW hx hb hr hlk (by decide) rfl hw hS dX2_readNumbers_90
        · rw [if_neg g2] at h
          refine lv_iconst (v := 1) hx hb dX2_readNumbers_85 (by decide) ?_
          refine lv_goto (tgt := 90) hx hb dX2_readNumbers_86 (by decide) ?_
          cases h
          exact e_zW hx hb hr hlk (by decide) rfl hw hS dX2_readNumbers_90
      · rw [if_neg g1] at h
        refine lv_iload_n hx hb dX2_readNumbers_7 rfl (lv_at hl 2 rfl) ?_
        refine lv_iconst (v := 3) hx hb dX2_readNumbers_8 (by decide) ?_
        refine lv_icmp_ge (tgt := 81) hx hb dX2_readNumbers_9 (by decide) (fun g3 => ?_) (fun g3 => ?_)
        · rw [if_pos g3] at h
          refine lv_iload_n hx hb dX2_readNumbers_81 rfl (lv_at hl 1 rfl) ?_
          refine lv_if_le (tgt := 89) hx hb dX2_readNumbers_82 (by decide) (fun g4 => ?_) (fun g4 => ?_)
          · rw [if_pos g4] at h
            refine lv_iconst (v := 0) hx hb dX2_readNumbers_89 (by decide) ?_
            cases h
            exact e_zW hx hb hr hlk (by decide) rfl hw hS dX2_readNumbers_90
          · rw [if_neg g4] at h
            refine lv_iconst (v := 1) hx hb dX2_readNumbers_85 (by decide) ?_
            refine lv_goto (tgt := 90) hx hb dX2_readNumbers_86 (by decide) ?_
            cases h
            exact e_zW hx hb hr hlk (by decide) rfl hw hS dX2_readNumbers_90
        · rw [if_neg g3] at h
          refine lv_aload_n hx hb dX2_readNumbers_12 rfl (lv_at hl 0 rfl) ?_
          refine lv_aload_n hx hb dX2_readNumbers_13 rfl (lv_at hl 0 rfl) ?_
          refine gX2_28 hx hb hB hown hK hw dX2_readNumbers_14 ?_
          obtain ⟨r5, e5, h⟩ := ob h
          refine k_VR ⟨hx, hb, hml, hown, hB⟩ (c_X2_letterAt l E aY ao Y_2 o_2 (o_2 3 1) r5 e5) (clX2_35 hB rfl rfl ⟨Nat.le_of_ble_eq_true rfl, Nat.le_of_ble_eq_true rfl⟩) hK hw (rvO3 hK hw) rfl hl.1 rfl (Nat.le_of_ble_eq_true rfl) dX2_readNumbers_17 ⟨Nat.zero_le _, Nat.zero_le _⟩ ?_
          obtain ⟨r6, e6, h⟩ := ob h
          refine k_SR ⟨hx, hb, hml, hown, hB⟩ (c_X2_isFigure l E r5 r6 e6) (clX2_81 hB rfl rfl ⟨Nat.le_of_ble_eq_true rfl, Nat.le_of_ble_eq_true rfl⟩) hK trivial rfl hl.1 rfl (Nat.le_of_ble_eq_true rfl) dX2_readNumbers_20 ⟨Nat.zero_le _, Nat.zero_le _⟩ ?_
          refine lv_if_ne (tgt := 28) hx hb dX2_readNumbers_23 (by decide) (fun g7 => ?_) (fun g7 => ?_)
          · rw [if_neg g7] at h
            refine lv_aload_n hx hb dX2_readNumbers_28 rfl (lv_at hl 0 rfl) ?_
            refine gX2_15 hx hb hB hown hK hw dX2_readNumbers_29 ?_
            refine lv_iload_n hx hb dX2_readNumbers_32 rfl (lv_at hl 2 rfl) ?_
            refine lv_aload_n hx hb dX2_readNumbers_33 rfl (lv_at hl 0 rfl) ?_
            obtain ⟨r8, e8, h⟩ := ob h
            refine k_VWi ⟨hx, hb, hml, hown, hB⟩ (c_X2_readFigures l E aY ao Y_2 o_2 r8 e8) (clX2_85 hB rfl rfl ⟨Nat.le_of_ble_eq_true rfl, Nat.le_of_ble_eq_true rfl⟩) hK hw (rvO3 hK hw) rfl hl.1 rfl (Nat.le_of_ble_eq_true rfl) dX2_readNumbers_34 ⟨Nat.zero_le _, Nat.zero_le _⟩ hS (fun _ z => z) (fun H9 L9 hw _ _ hS => ?_)
            obtain ⟨g10, h⟩ := gB_ok h
            refine sO5 hx hb hK hw hS (fun _ z => z) (ib_ok g10) dX2_readNumbers_37 (fun H11 L11 hw hS => ?_)
            refine lv_aload_n hx hb dX2_readNumbers_38 rfl (lv_at hl 0 rfl) ?_
            refine lv_aload_n hx hb dX2_readNumbers_39 rfl (lv_at hl 0 rfl) ?_
            refine gX2_28 hx hb hB hown hK hw dX2_readNumbers_40 ?_
            obtain ⟨r12, e12, h⟩ := ob h
            refine k_VR ⟨hx, hb, hml, hown, hB⟩ (c_X2_letterAt l E aY ao r8.2.1 (u2 r8.2.2 5 v2_2.toNatClampNeg r8.1) ((u2 r8.2.2 5 v2_2.toNatClampNeg r8.1) 3 1) r12 e12) (clX2_35 hB rfl rfl ⟨Nat.le_of_ble_eq_true rfl, Nat.le_of_ble_eq_true rfl⟩) hK hw (rvO3 hK hw) rfl hl.1 rfl (Nat.le_of_ble_eq_true rfl) dX2_readNumbers_43 ⟨Nat.zero_le _, Nat.zero_le _⟩ ?_
            refine lv_iload_n hx hb dX2_readNumbers_46 rfl (lv_at hl 2 rfl) ?_
            refine lv_iload_n hx hb dX2_readNumbers_47 rfl (lv_at hl 1 rfl) ?_
            refine lv_iconst (v := 1) hx hb dX2_readNumbers_48 (by decide) ?_
            refine lv_isub hx hb dX2_readNumbers_49 ?_
            refine lv_icmp_ne (tgt := 58) hx hb dX2_readNumbers_50 (by decide) (fun g13 => ?_) (fun g13 => ?_)
            · rw [if_neg g13] at h
              refine lv_bipush (v := 44) hx hb dX2_readNumbers_58 (by decide) ?_
              refine lv_icmp_eq (tgt := 65) hx hb dX2_readNumbers_60 (by decide) (fun g14 => ?_) (fun g14 => ?_)
              · rw [if_pos g14] at h
                refine lv_aload_n hx hb dX2_readNumbers_65 rfl (lv_at hl 0 rfl) ?_
                refine lv_dup hx hb dX2_readNumbers_66 rfl ?_
                refine gX2_28 hx hb hB hown hK hw dX2_readNumbers_67 ?_
                refine lv_iconst (v := 1) hx hb dX2_readNumbers_70 (by decide) ?_
                refine lv_iadd hx hb dX2_readNumbers_71 ?_
                refine pX2_28 hx hb hB hown hK hw hS (fun _ z => z) dX2_readNumbers_72 (fun H15 L15 hw hS => ?_)
                refine lv_iinc (v := (v2_2 + 1)) (lv' := [(2, .int (v2_2 + 1)), (0, .ref (ao 3)), (1, .int v1_2)]) hx hb dX2_readNumbers_75 hl (k := 2) rfl rfl (by decide) rfl (fun ls hl => ?_)
                refine lv_goto (tgt := 2) hx hb dX2_readNumbers_78 (by decide) ?_
                exact ih_2 v1_2 (v2_2 + 1) r8.2.1 (u2 (u2 r8.2.2 5 v2_2.toNatClampNeg r8.1) 3 1 (((u2 r8.2.2 5 v2_2.toNatClampNeg r8.1) 3 1) + 1)) _ _ _ (lv_sub hl [1, 2, 0] rfl) hw hS h
              · rw [if_neg g14] at h
                refine lv_iconst (v := 0) hx hb dX2_readNumbers_63 (by decide) ?_
                cases h
                exact e_zW hx hb hr hlk (by decide) rfl hw hS dX2_readNumbers_64
            · rw [if_pos g13] at h
              refine lv_bipush (v := 59) hx hb dX2_readNumbers_53 (by decide) ?_
              refine lv_goto (tgt := 60) hx hb dX2_readNumbers_55 (by decide) ?_
              refine lv_icmp_eq (tgt := 65) hx hb dX2_readNumbers_60 (by decide) (fun g16 => ?_) (fun g16 => ?_)
              · rw [if_pos g16] at h
                refine lv_aload_n hx hb dX2_readNumbers_65 rfl (lv_at hl 0 rfl) ?_
                refine lv_dup hx hb dX2_readNumbers_66 rfl ?_
                refine gX2_28 hx hb hB hown hK hw dX2_readNumbers_67 ?_
                refine lv_iconst (v := 1) hx hb dX2_readNumbers_70 (by decide) ?_
                refine lv_iadd hx hb dX2_readNumbers_71 ?_
                refine pX2_28 hx hb hB hown hK hw hS (fun _ z => z) dX2_readNumbers_72 (fun H17 L17 hw hS => ?_)
                refine lv_iinc (v := (v2_2 + 1)) (lv' := [(2, .int (v2_2 + 1)), (0, .ref (ao 3)), (1, .int v1_2)]) hx hb dX2_readNumbers_75 hl (k := 2) rfl rfl (by decide) rfl (fun ls hl => ?_)
                refine lv_goto (tgt := 2) hx hb dX2_readNumbers_78 (by decide) ?_
                exact ih_2 v1_2 (v2_2 + 1) r8.2.1 (u2 (u2 r8.2.2 5 v2_2.toNatClampNeg r8.1) 3 1 (((u2 r8.2.2 5 v2_2.toNatClampNeg r8.1) 3 1) + 1)) _ _ _ (lv_sub hl [1, 2, 0] rfl) hw hS h
              · rw [if_neg g16] at h
                refine lv_iconst (v := 0) hx hb dX2_readNumbers_63 (by decide) ?_
                cases h
                exact e_zW hx hb hr hlk (by decide) rfl hw hS dX2_readNumbers_64
          · rw [if_pos g7] at h
            refine lv_iconst (v := 0) hx hb dX2_readNumbers_26 (by decide) ?_
            cases h
            exact e_zW hx hb hr hlk (by decide) rfl hw hS dX2_readNumbers_27
  refine lv_iconst (v := 0) hx hb dX2_readNumbers_0 (by decide) ?_
  refine lv_istore_n (lv' := [(2, .int 0), (0, .ref (ao 3)), (1, .int a1)]) hx hb dX2_readNumbers_1 rfl hl (by decide) rfl (fun ls hl => ?_)
  exact hL2 FU a1 0 Y o _ _ _ (lv_sub hl [1, 2, 0] rfl) hw hS h
def fX2_tellItem (Y : YS) (o : OS) (a1 : Int32) (i2 : Nat) : Option (Int32 × YS × OS) := if a1 = 121 then if (o 3 2) = 0 then some (0, Y, o) else if (o 5 (0 : Int32).toNatClampNeg) < 2 then some (0, Y, o) else if (o 5 (0 : Int32).toNatClampNeg) ≤ 8 then some (1, (va_up Y i2 (u2 (Y i2) 0 0 (o 5 (0 : Int32).toNatClampNeg))), o) else some (0, Y, o) else if a1 = 100 then (fX4_isOneOfTheDead (o 5 (0 : Int32).toNatClampNeg) ((u2 o 3 2 0) 5 (1 : Int32).toNatClampNeg) ((u2 o 3 2 0) 5 (2 : Int32).toNatClampNeg)).bind (fun r14 => (if r14 = 0 then some (0, Y, (u2 o 3 2 0)) else if (Y i2 0 2) < 12 then (fX3_addDead (Y i2) (o 5 (0 : Int32).toNatClampNeg) ((u2 o 3 2 0) 5 (1 : Int32).toNatClampNeg) ((u2 o 3 2 0) 5 (2 : Int32).toNatClampNeg)).bind (fun r17 => (some (1, (va_up Y i2 r17.2), (u2 o 3 2 0)))) else some (0, Y, (u2 o 3 2 0)))) else if a1 = 118 then (fX3_hasDead (Y i2) (o 5 (0 : Int32).toNatClampNeg)).bind (fun r7 => (if r7 = 0 then some (0, Y, (u2 o 3 2 0)) else (fX4_isMinutes ((u2 o 3 2 0) 5 (1 : Int32).toNatClampNeg)).bind (fun r9 => (if r9 = 0 then some (0, Y, (u2 o 3 2 0)) else if (Y i2 0 3) < 6 then (fX3_addVisitor (Y i2) (o 5 (0 : Int32).toNatClampNeg) ((u2 o 3 2 0) 5 (1 : Int32).toNatClampNeg)).bind (fun r12 => (some (1, (va_up Y i2 r12), (u2 o 3 2 0)))) else some (0, Y, (u2 o 3 2 0)))))) else if (o 5 (0 : Int32).toNatClampNeg) < 1 then some (0, (va_up Y i2 (u2 (Y i2) 0 1 (o 5 (0 : Int32).toNatClampNeg))), (u2 o 3 2 0)) else some (1, (va_up Y i2 (u2 (Y i2) 0 1 (o 5 (0 : Int32).toNatClampNeg))), (u2 o 3 2 0))
abbrev rmX2_tellItem : Room := { frames := 4, cells := 0, slots := 0, locals := 98 }
set_option maxHeartbeats 4000000 in
set_option maxRecDepth 100000 in
theorem c_X2_tellItem (l : Launch) (E : En) (aY : Nat → Nat → Nat) (ao : Nat → Nat) (Y : YS) (o : OS) (a1 : Int32) (i2 : Nat) (hi2 : i2 < 13) (r : Int32 × YS × OS) (h : fX2_tellItem Y o a1 i2 = some r) : Met l yX2_tellItem (kX2_tellItem :: BIG) rmX2_tellItem (Pk E [.ref (ao 3), .int a1, .ref (aY i2 0)] (CW E aY ao Y o)) (QW (some (.int r.1)) (AC aY ao) (CW E aY ao r.2.1 r.2.2)) 0 0 (AC aY ao) := by
  refine Mb (by decide) (Nat.le_of_ble_eq_true rfl) ?_
  intro p e s m below meth c ls hx hb hr hlk hB hown hml _ hK hw hl
  have hS : va_S (AC aY ao) s.heap s.heap [] := va_S.rf
  have hl : lv_has ls 4 [(0, .ref (ao 3)), (1, .int a1), (2, .ref (aY i2 0))] := hl
  rw [fX2_tellItem] at h
  refine lv_aload_n hx hb dX2_tellItem_0 rfl (lv_at hl 0 rfl) ?_
  refine gX2_15 hx hb hB hown hK hw dX2_tellItem_1 ?_
  refine lv_iconst (v := 0) hx hb dX2_tellItem_4 (by decide) ?_
  refine r_ald hx hb hK (aO5 hw) (ib_ok (by decide)) dX2_tellItem_5 ?_
  refine lv_istore_n (lv' := [(3, .int (o 5 (0 : Int32).toNatClampNeg)), (0, .ref (ao 3)), (1, .int a1), (2, .ref (aY i2 0))]) hx hb dX2_tellItem_6 rfl hl (by decide) rfl (fun ls hl => ?_)
  refine lv_iload_n hx hb dX2_tellItem_7 rfl (lv_at hl 2 rfl) ?_
  refine lv_bipush (v := 121) hx hb dX2_tellItem_8 (by decide) ?_
  refine lv_icmp_ne (tgt := 40) hx hb dX2_tellItem_10 (by decide) (fun g1 => ?_) (fun g1 => ?_)
  · rw [if_neg g1] at h
    refine lv_aload_n hx hb dX2_tellItem_40 rfl (lv_at hl 1 rfl) ?_
    refine lv_iconst (v := 0) hx hb dX2_tellItem_41 (by decide) ?_
    refine pX2_31 hx hb hB hown hK hw hS (fun _ z => z) (by decide) (by decide) dX2_tellItem_42 (fun H2 L2 hw hS => ?_)
    refine lv_iload_n hx hb dX2_tellItem_45 rfl (lv_at hl 2 rfl) ?_
    refine lv_bipush (v := 100) hx hb dX2_tellItem_46 (by decide) ?_
    refine lv_icmp_ne (tgt := 101) hx hb dX2_tellItem_48 (by decide) (fun g3 => ?_) (fun g3 => ?_)
    · rw [if_neg g3] at h
      refine lv_iload_n hx hb dX2_tellItem_101 rfl (lv_at hl 2 rfl) ?_
      refine lv_bipush (v := 118) hx hb dX2_tellItem_102 (by decide) ?_
      refine lv_icmp_ne (tgt := 151) hx hb dX2_tellItem_104 (by decide) (fun g4 => ?_) (fun g4 => ?_)
      · rw [if_neg g4] at h
        refine lv_aload_n hx hb dX2_tellItem_151 rfl (lv_at hl 3 rfl) ?_
        refine lv_iload_n hx hb dX2_tellItem_152 rfl (lv_at hl 0 rfl) ?_
        refine pX2_78 hx hb hB hown hK (hw.yd hi2) hS (AC.ofY hi2) dX2_tellItem_153 (fun H5 L5 hy ho hS => ?_)
        have hw := hw.wy1 (c := 0) hi2 (by decide) hy ho
        refine lv_iload_n hx hb dX2_tellItem_156 rfl (lv_at hl 0 rfl) ?_
        refine lv_iconst (v := 1) hx hb dX2_tellItem_157 (by decide) ?_
        refine lv_icmp_lt (tgt := 165) hx hb dX2_tellItem_158 (by decide) (fun g6 => ?_) (fun g6 => ?_)
        · rw [if_pos g6] at h
          refine lv_iconst (v := 0) hx hb dX2_tellItem_165 (by decide) ?_
          cases h
          exact e_zW hx hb hr hlk (by decide) rfl hw hS dX2_tellItem_166
        · rw [if_neg g6] at h
          refine lv_iconst (v := 1) hx hb dX2_tellItem_161 (by decide) ?_
          refine lv_goto (tgt := 166) hx hb dX2_tellItem_162 (by decide) ?_
          cases h
          exact e_zW hx hb hr hlk (by decide) rfl hw hS dX2_tellItem_166
      · rw [if_pos g4] at h
        refine lv_aload_n hx hb dX2_tellItem_107 rfl (lv_at hl 3 rfl) ?_
        refine lv_iload_n hx hb dX2_tellItem_108 rfl (lv_at hl 0 rfl) ?_
        obtain ⟨r7, e7, h⟩ := ob h
        refine k_VR ⟨hx, hb, hml, hown, hB⟩ (c_X3_hasDead l E (aY i2) (Y i2) (o 5 (0 : Int32).toNatClampNeg) r7 e7) (clX2_65 hB rfl rfl ⟨Nat.le_of_ble_eq_true rfl, Nat.le_of_ble_eq_true rfl⟩) hK (hw.yd hi2) (rvY hK (hw.yd hi2)) rfl hl.1 rfl (Nat.le_of_ble_eq_true rfl) dX2_tellItem_109 ⟨Nat.zero_le _, Nat.zero_le _⟩ ?_
        refine lv_if_eq (tgt := 136) hx hb dX2_tellItem_112 (by decide) (fun g8 => ?_) (fun g8 => ?_)
        · rw [if_pos g8] at h
          refine lv_iconst (v := 0) hx hb dX2_tellItem_136 (by decide) ?_
          cases h
          exact e_zW hx hb hr hlk (by decide) rfl hw hS dX2_tellItem_137
        · rw [if_neg g8] at h
          refine lv_aload_n hx hb dX2_tellItem_115 rfl (lv_at hl 1 rfl) ?_
          refine gX2_15 hx hb hB hown hK hw dX2_tellItem_116 ?_
          refine lv_iconst (v := 1) hx hb dX2_tellItem_119 (by decide) ?_
          refine r_ald hx hb hK (aO5 hw) (ib_ok (by decide)) dX2_tellItem_120 ?_
          obtain ⟨r9, e9, h⟩ := ob h
          refine k_SNR ⟨hx, hb, hml, hown, hB⟩ (c_X4_isMinutes l E ((u2 o 3 2 0) 5 (1 : Int32).toNatClampNeg) r9 e9) (cnX2_68 hB hK rfl rfl ⟨Nat.le_of_ble_eq_true rfl, Nat.le_of_ble_eq_true rfl⟩) hK trivial rfl hl.1 rfl (Nat.le_of_ble_eq_true rfl) dX2_tellItem_121 ⟨Nat.zero_le _, Nat.zero_le _⟩ ?_
          refine lv_if_eq (tgt := 136) hx hb dX2_tellItem_124 (by decide) (fun g10 => ?_) (fun g10 => ?_)
          · rw [if_pos g10] at h
            refine lv_iconst (v := 0) hx hb dX2_tellItem_136 (by decide) ?_
            cases h
            exact e_zW hx hb hr hlk (by decide) rfl hw hS dX2_tellItem_137
          · rw [if_neg g10] at h
            refine lv_aload_n hx hb dX2_tellItem_127 rfl (lv_at hl 3 rfl) ?_
            refine gX2_71 hx hb hB hown hK (hw.yd hi2) dX2_tellItem_128 ?_
            refine lv_bipush (v := 6) hx hb dX2_tellItem_131 (by decide) ?_
            refine lv_icmp_lt (tgt := 138) hx hb dX2_tellItem_133 (by decide) (fun g11 => ?_) (fun g11 => ?_)
            · rw [if_pos g11] at h
              refine lv_aload_n hx hb dX2_tellItem_138 rfl (lv_at hl 3 rfl) ?_
              refine lv_iload_n hx hb dX2_tellItem_139 rfl (lv_at hl 0 rfl) ?_
              refine lv_aload_n hx hb dX2_tellItem_140 rfl (lv_at hl 1 rfl) ?_
              refine gX2_15 hx hb hB hown hK hw dX2_tellItem_141 ?_
              refine lv_iconst (v := 1) hx hb dX2_tellItem_144 (by decide) ?_
              refine r_ald hx hb hK (aO5 hw) (ib_ok (by decide)) dX2_tellItem_145 ?_
              obtain ⟨r12, e12, h⟩ := ob h
              refine k_VWv ⟨hx, hb, hml, hown, hB⟩ (c_X3_addVisitor l E (aY i2) (Y i2) (o 5 (0 : Int32).toNatClampNeg) ((u2 o 3 2 0) 5 (1 : Int32).toNatClampNeg) r12 e12) (clX2_74 hB rfl rfl ⟨Nat.le_of_ble_eq_true rfl, Nat.le_of_ble_eq_true rfl⟩) hK (hw.yd hi2) (rvY hK (hw.yd hi2)) rfl hl.1 rfl (Nat.le_of_ble_eq_true rfl) dX2_tellItem_146 ⟨Nat.zero_le _, Nat.zero_le _⟩ hS (AC.ofY hi2) (fun H13 L13 hy _ hk hS => ?_)
              have hw := hw.wy hi2 hy hk
              refine lv_iconst (v := 1) hx hb dX2_tellItem_149 (by decide) ?_
              cases h
              exact e_zW hx hb hr hlk (by decide) rfl hw hS dX2_tellItem_150
            · rw [if_neg g11] at h
              refine lv_iconst (v := 0) hx hb dX2_tellItem_136 (by decide) ?_
              cases h
              exact e_zW hx hb hr hlk (by decide) rfl hw hS dX2_tellItem_137
    · rw [if_pos g3] at h
      refine lv_iload_n hx hb dX2_tellItem_51 rfl (lv_at hl 0 rfl) ?_
      refine lv_aload_n hx hb dX2_tellItem_52 rfl (lv_at hl 1 rfl) ?_
      refine gX2_15 hx hb hB hown hK hw dX2_tellItem_53 ?_
      refine lv_iconst (v := 1) hx hb dX2_tellItem_56 (by decide) ?_
      refine r_ald hx hb hK (aO5 hw) (ib_ok (by decide)) dX2_tellItem_57 ?_
      refine lv_aload_n hx hb dX2_tellItem_58 rfl (lv_at hl 1 rfl) ?_
      refine gX2_15 hx hb hB hown hK hw dX2_tellItem_59 ?_
      refine lv_iconst (v := 2) hx hb dX2_tellItem_62 (by decide) ?_
      refine r_ald hx hb hK (aO5 hw) (ib_ok (by decide)) dX2_tellItem_63 ?_
      obtain ⟨r14, e14, h⟩ := ob h
      refine k_SNR ⟨hx, hb, hml, hown, hB⟩ (c_X4_isOneOfTheDead l E (o 5 (0 : Int32).toNatClampNeg) ((u2 o 3 2 0) 5 (1 : Int32).toNatClampNeg) ((u2 o 3 2 0) 5 (2 : Int32).toNatClampNeg) r14 e14) (cnX2_54 hB hK rfl rfl ⟨Nat.le_of_ble_eq_true rfl, Nat.le_of_ble_eq_true rfl⟩) hK trivial rfl hl.1 rfl (Nat.le_of_ble_eq_true rfl) dX2_tellItem_64 ⟨Nat.zero_le _, Nat.zero_le _⟩ ?_
      refine lv_if_eq (tgt := 79) hx hb dX2_tellItem_67 (by decide) (fun g15 => ?_) (fun g15 => ?_)
      · rw [if_pos g15] at h
        refine lv_iconst (v := 0) hx hb dX2_tellItem_79 (by decide) ?_
        cases h
        exact e_zW hx hb hr hlk (by decide) rfl hw hS dX2_tellItem_80
      · rw [if_neg g15] at h
        refine lv_aload_n hx hb dX2_tellItem_70 rfl (lv_at hl 3 rfl) ?_
        refine gX2_58 hx hb hB hown hK (hw.yd hi2) dX2_tellItem_71 ?_
        refine lv_bipush (v := 12) hx hb dX2_tellItem_74 (by decide) ?_
        refine lv_icmp_lt (tgt := 81) hx hb dX2_tellItem_76 (by decide) (fun g16 => ?_) (fun g16 => ?_)
        · rw [if_pos g16] at h
          refine lv_aload_n hx hb dX2_tellItem_81 rfl (lv_at hl 3 rfl) ?_
          refine lv_iload_n hx hb dX2_tellItem_82 rfl (lv_at hl 0 rfl) ?_
          refine lv_aload_n hx hb dX2_tellItem_83 rfl (lv_at hl 1 rfl) ?_
          refine gX2_15 hx hb hB hown hK hw dX2_tellItem_84 ?_
          refine lv_iconst (v := 1) hx hb dX2_tellItem_87 (by decide) ?_
          refine r_ald hx hb hK (aO5 hw) (ib_ok (by decide)) dX2_tellItem_88 ?_
          refine lv_aload_n hx hb dX2_tellItem_89 rfl (lv_at hl 1 rfl) ?_
          refine gX2_15 hx hb hB hown hK hw dX2_tellItem_90 ?_
          refine lv_iconst (v := 2) hx hb dX2_tellItem_93 (by decide) ?_
          refine r_ald hx hb hK (aO5 hw) (ib_ok (by decide)) dX2_tellItem_94 ?_
          obtain ⟨r17, e17, h⟩ := ob h
          refine k_VWi ⟨hx, hb, hml, hown, hB⟩ (c_X3_addDead l E (aY i2) (Y i2) (o 5 (0 : Int32).toNatClampNeg) ((u2 o 3 2 0) 5 (1 : Int32).toNatClampNeg) ((u2 o 3 2 0) 5 (2 : Int32).toNatClampNeg) r17 e17) (clX2_61 hB rfl rfl ⟨Nat.le_of_ble_eq_true rfl, Nat.le_of_ble_eq_true rfl⟩) hK (hw.yd hi2) (rvY hK (hw.yd hi2)) rfl hl.1 rfl (Nat.le_of_ble_eq_true rfl) dX2_tellItem_95 ⟨Nat.zero_le _, Nat.zero_le _⟩ hS (AC.ofY hi2) (fun H18 L18 hy _ hk hS => ?_)
          have hw := hw.wy hi2 hy hk
          refine lv_pop hx hb dX2_tellItem_98 rfl ?_
          refine lv_iconst (v := 1) hx hb dX2_tellItem_99 (by decide) ?_
          cases h
          exact e_zW hx hb hr hlk (by decide) rfl hw hS dX2_tellItem_100
        · rw [if_neg g16] at h
          refine lv_iconst (v := 0) hx hb dX2_tellItem_79 (by decide) ?_
          cases h
          exact e_zW hx hb hr hlk (by decide) rfl hw hS dX2_tellItem_80
  · rw [if_pos g1] at h
    refine lv_aload_n hx hb dX2_tellItem_13 rfl (lv_at hl 1 rfl) ?_
    refine gX2_31 hx hb hB hown hK hw dX2_tellItem_14 ?_
    refine lv_if_eq (tgt := 31) hx hb dX2_tellItem_17 (by decide) (fun g19 => ?_) (fun g19 => ?_)
    · rw [if_pos g19] at h
      refine lv_iconst (v := 0) hx hb dX2_tellItem_31 (by decide) ?_
      cases h
      exact e_zW hx hb hr hlk (by decide) rfl hw hS dX2_tellItem_32
    · rw [if_neg g19] at h
      refine lv_iload_n hx hb dX2_tellItem_20 rfl (lv_at hl 0 rfl) ?_
      refine lv_iconst (v := 2) hx hb dX2_tellItem_21 (by decide) ?_
      refine lv_icmp_lt (tgt := 31) hx hb dX2_tellItem_22 (by decide) (fun g20 => ?_) (fun g20 => ?_)
      · rw [if_pos g20] at h
        refine lv_iconst (v := 0) hx hb dX2_tellItem_31 (by decide) ?_
        cases h
        exact e_zW hx hb hr hlk (by decide) rfl hw hS dX2_tellItem_32
      · rw [if_neg g20] at h
        refine lv_iload_n hx hb dX2_tellItem_25 rfl (lv_at hl 0 rfl) ?_
        refine lv_bipush (v := 8) hx hb dX2_tellItem_26 (by decide) ?_
        refine lv_icmp_le (tgt := 33) hx hb dX2_tellItem_28 (by decide) (fun g21 => ?_) (fun g21 => ?_)
        · rw [if_pos g21] at h
          refine lv_aload_n hx hb dX2_tellItem_33 rfl (lv_at hl 3 rfl) ?_
          refine lv_iload_n hx hb dX2_tellItem_34 rfl (lv_at hl 0 rfl) ?_
          refine pX2_51 hx hb hB hown hK (hw.yd hi2) hS (AC.ofY hi2) dX2_tellItem_35 (fun H22 L22 hy ho hS => ?_)
          have hw := hw.wy1 (c := 0) hi2 (by decide) hy ho
          refine lv_iconst (v := 1) hx hb dX2_tellItem_38 (by decide) ?_
          cases h
          exact e_zW hx hb hr hlk (by decide) rfl hw hS dX2_tellItem_39
        · rw [if_neg g21] at h
          refine lv_iconst (v := 0) hx hb dX2_tellItem_31 (by decide) ?_
          cases h
          exact e_zW hx hb hr hlk (by decide) rfl hw hS dX2_tellItem_32
def fX2_tellAll_L16 (i1 : Nat) : Nat → Int32 → YS → OS → Option (Int32 × YS × OS)
  | 0, _, _, _ => none
  | n_16 + 1, v2_16, Y_16, o_16 => if 200 ≤ v2_16 then some ((-4), Y_16, o_16) else if (o_16 3 0) ≤ (o_16 3 1) then some ((-4), Y_16, o_16) else (fX2_letterAt Y_16 o_16 (o_16 3 1)).bind (fun r3 => ((fX2_numbersBehind r3).bind (fun r5 => ((fX2_readNumbers Y_16 (u2 o_16 3 1 ((o_16 3 1) + 1)) r5).bind (fun r6 => (if r6.1 = 0 then some ((o_16 3 1), r6.2.1, r6.2.2) else (fX2_tellItem r6.2.1 r6.2.2 r3 i1).bind (fun r9 => (if r9.1 = 0 then some ((o_16 3 1), r9.2.1, r9.2.2) else fX2_tellAll_L16 i1 n_16 (v2_16 + 1) r9.2.1 r9.2.2))))))))
def fX2_tellAll (Y : YS) (o : OS) (i1 : Nat) : Option (Int32 × YS × OS) := (fX3_empty (Y i1)).bind (fun r12 => (fX2_tellAll_L16 i1 FU 0 (va_up Y i1 r12) (u2 (u2 o 3 1 0) 3 2 1)))
abbrev rmX2_tellAll : Room := { frames := 5, cells := 0, slots := 0, locals := 121 }
set_option maxHeartbeats 4000000 in
set_option maxRecDepth 100000 in
theorem c_X2_tellAll (l : Launch) (E : En) (aY : Nat → Nat → Nat) (ao : Nat → Nat) (Y : YS) (o : OS) (i1 : Nat) (hi1 : i1 < 13) (r : Int32 × YS × OS) (h : fX2_tellAll Y o i1 = some r) : Met l yX2_tellAll (kX2_tellAll :: BIG) rmX2_tellAll (Pk E [.ref (ao 3), .ref (aY i1 0)] (CW E aY ao Y o)) (QW (some (.int r.1)) (AC aY ao) (CW E aY ao r.2.1 r.2.2)) 0 0 (AC aY ao) := by
  refine Mb (by decide) (Nat.le_of_ble_eq_true rfl) ?_
  intro p e s m below meth c ls hx hb hr hlk hB hown hml _ hK hw hl
  have hS : va_S (AC aY ao) s.heap s.heap [] := va_S.rf
  have hl : lv_has ls 5 [(0, .ref (ao 3)), (1, .ref (aY i1 0))] := hl
  rw [fX2_tellAll] at h
  have hL16 : ∀ (n_16 : Nat) (v2_16 : Int32) (Y_16 : YS) (o_16 : OS) (H_16 : Heap) (L_16 : List Loc) (ls_16 : Array Slot), lv_has ls_16 5 [(0, .ref (ao 3)), (1, .ref (aY i1 0)), (2, .int v2_16)] → CW E aY ao Y_16 o_16 H_16 → va_S (AC aY ao) s.heap H_16 L_16 → fX2_tellAll_L16 i1 n_16 v2_16 Y_16 o_16 = some r → W p l e rmX2_tellAll s m ([.ref (ao 3), .ref (aY i1 0)] : List Value).toArray below meth c H_16 L_16 0 0 (MQ below (QW (some (.int r.1)) (AC aY ao) (CW E aY ao r.2.1 r.2.2)) ([.ref (ao 3), .ref (aY i1 0)] : List Value).toArray s 0 0 (AC aY ao)) (F0 m 16 ls_16 []) := by
    intro n_16
    induction n_16 with
    | zero =>
      intro v2_16 Y_16 o_16 H_16 L_16 ls_16 hl hw hS h
      exact nn h
    | succ n_16 ih_16 =>
      intro v2_16 Y_16 o_16 H_16 L_16 ls_16 hl hw hS h
      rw [fX2_tellAll_L16] at h
      refine lv_iload_n hx hb dX2_tellAll_16 rfl (lv_at hl 2 rfl) ?_
      refine lv_sipush (v := 200) hx hb dX2_tellAll_17 (by decide) ?_
      refine lv_icmp_ge (tgt := 86) hx hb dX2_tellAll_20 (by decide) (fun g1 => ?_) (fun g1 => ?_)
      · rw [if_pos g1] at h
        refine lv_bipush (v := (-4)) hx hb dX2_tellAll_86 (by decide) ?_
        cases h
        exact e_zW hx hb hr hlk rfl rfl hw hS dX2_tellAll_88
      · rw [if_neg g1] at h
        refine lv_aload_n hx hb dX2_tellAll_23 rfl (lv_at hl 0 rfl) ?_
        refine gX2_28 hx hb hB hown hK hw dX2_tellAll_24 ?_
        refine lv_aload_n hx hb dX2_tellAll_27 rfl (lv_at hl 0 rfl) ?_
        refine gX2_19 hx hb hB hown hK hw dX2_tellAll_28 ?_
        refine lv_icmp_ge (tgt := 86) hx hb dX2_tellAll_31 (by decide) (fun g2 => ?_) (fun g2 => ?_)
        · rw [if_pos g2] at h
          refine lv_bipush (v := (-4)) hx hb dX2_tellAll_86 (by decide) ?_
          cases h
          exact e_zW hx hb hr hlk rfl rfl hw hS dX2_tellAll_88
        · rw [if_neg g2] at h
          refine lv_aload_n hx hb dX2_tellAll_34 rfl (lv_at hl 0 rfl) ?_
          refine gX2_28 hx hb hB hown hK hw dX2_tellAll_35 ?_
          refine lv_istore_n (lv' := [(3, .int (o_16 3 1)), (0, .ref (ao 3)), (1, .ref (aY i1 0)), (2, .int v2_16)]) hx hb dX2_tellAll_38 rfl hl (by decide) rfl (fun ls hl => ?_)
          refine lv_aload_n hx hb dX2_tellAll_39 rfl (lv_at hl 1 rfl) ?_
          refine lv_iload_n hx hb dX2_tellAll_40 rfl (lv_at hl 0 rfl) ?_
          obtain ⟨r3, e3, h⟩ := ob h
          refine k_VR ⟨hx, hb, hml, hown, hB⟩ (c_X2_letterAt l E aY ao Y_16 o_16 (o_16 3 1) r3 e3) (clX2_35 hB rfl rfl ⟨Nat.le_of_ble_eq_true rfl, Nat.le_of_ble_eq_true rfl⟩) hK hw (rvO3 hK hw) rfl hl.1 rfl (Nat.le_of_ble_eq_true rfl) dX2_tellAll_41 ⟨Nat.zero_le _, Nat.zero_le _⟩ ?_
          refine lv_istore (lv' := [(4, .int r3), (3, .int (o_16 3 1)), (0, .ref (ao 3)), (1, .ref (aY i1 0)), (2, .int v2_16)]) hx hb dX2_tellAll_44 hl (by decide) rfl (fun ls hl => ?_)
          refine lv_aload_n hx hb dX2_tellAll_46 rfl (lv_at hl 2 rfl) ?_
          refine lv_dup hx hb dX2_tellAll_47 rfl ?_
          refine gX2_28 hx hb hB hown hK hw dX2_tellAll_48 ?_
          refine lv_iconst (v := 1) hx hb dX2_tellAll_51 (by decide) ?_
          refine lv_iadd hx hb dX2_tellAll_52 ?_
          refine pX2_28 hx hb hB hown hK hw hS (fun _ z => z) dX2_tellAll_53 (fun H4 L4 hw hS => ?_)
          refine lv_aload_n hx hb dX2_tellAll_56 rfl (lv_at hl 2 rfl) ?_
          refine lv_iload hx hb dX2_tellAll_57 (lv_at hl 0 rfl) ?_
          obtain ⟨r5, e5, h⟩ := ob h
          refine k_SR ⟨hx, hb, hml, hown, hB⟩ (c_X2_numbersBehind l E r3 r5 e5) (clX2_39 hB rfl rfl ⟨Nat.le_of_ble_eq_true rfl, Nat.le_of_ble_eq_true rfl⟩) hK trivial rfl hl.1 rfl (Nat.le_of_ble_eq_true rfl) dX2_tellAll_59 ⟨Nat.zero_le _, Nat.zero_le _⟩ ?_
          obtain ⟨r6, e6, h⟩ := ob h
          refine k_VWi ⟨hx, hb, hml, hown, hB⟩ (c_X2_readNumbers l E aY ao Y_16 (u2 o_16 3 1 ((o_16 3 1) + 1)) r5 r6 e6) (clX2_43 hB rfl rfl ⟨Nat.le_of_ble_eq_true rfl, Nat.le_of_ble_eq_true rfl⟩) hK hw (rvO3 hK hw) rfl hl.1 rfl (Nat.le_of_ble_eq_true rfl) dX2_tellAll_62 ⟨Nat.zero_le _, Nat.zero_le _⟩ hS (fun _ z => z) (fun H7 L7 hw _ _ hS => ?_)
          refine lv_if_eq (tgt := 78) hx hb dX2_tellAll_65 (by decide) (fun g8 => ?_) (fun g8 => ?_)
          · rw [if_pos g8] at h
            refine lv_iload_n hx hb dX2_tellAll_78 rfl (lv_at hl 1 rfl) ?_
            cases h
            exact e_zW hx hb hr hlk rfl rfl hw hS dX2_tellAll_79
          · rw [if_neg g8] at h
            refine lv_aload_n hx hb dX2_tellAll_68 rfl (lv_at hl 2 rfl) ?_
            refine lv_iload hx hb dX2_tellAll_69 (lv_at hl 0 rfl) ?_
            refine lv_aload_n hx hb dX2_tellAll_71 rfl (lv_at hl 3 rfl) ?_
            obtain ⟨r9, e9, h⟩ := ob h
            refine k_VWi ⟨hx, hb, hml, hown, hB⟩ (c_X2_tellItem l E aY ao r6.2.1 r6.2.2 r3 i1 hi1 r9 e9) (clX2_47 hB rfl rfl ⟨Nat.le_of_ble_eq_true rfl, Nat.le_of_ble_eq_true rfl⟩) hK hw (rvO3 hK hw) rfl hl.1 rfl (Nat.le_of_ble_eq_true rfl) dX2_tellAll_72 ⟨Nat.zero_le _, Nat.zero_le _⟩ hS (fun _ z => z) (fun H10 L10 hw _ _ hS => ?_)
            refine lv_if_ne (tgt := 80) hx hb dX2_tellAll_75 (by decide) (fun g11 => ?_) (fun g11 => ?_)
            · rw [if_neg g11] at h
              refine lv_iinc (v := (v2_16 + 1)) (lv' := [(2, .int (v2_16 + 1)), (4, .int r3), (3, .int (o_16 3 1)), (0, .ref (ao 3)), (1, .ref (aY i1 0))]) hx hb dX2_tellAll_80 hl (k := 4) rfl rfl (by decide) rfl (fun ls hl => ?_)
              refine lv_goto (tgt := 16) hx hb dX2_tellAll_83 (by decide) ?_
              exact ih_16 (v2_16 + 1) r9.2.1 r9.2.2 _ _ _ (lv_sub hl [3, 4, 0] rfl) hw hS h
            · rw [if_pos g11] at h
              refine lv_iload_n hx hb dX2_tellAll_78 rfl (lv_at hl 1 rfl) ?_
              cases h
              exact e_zW hx hb hr hlk rfl rfl hw hS dX2_tellAll_79
  refine lv_aload_n hx hb dX2_tellAll_0 rfl (lv_at hl 1 rfl) ?_
  obtain ⟨r12, e12, h⟩ := ob h
  refine k_VWv ⟨hx, hb, hml, hown, hB⟩ (c_X3_empty l E (aY i1) (Y i1) r12 e12) (clX2_23 hB rfl rfl ⟨Nat.le_of_ble_eq_true rfl, Nat.le_of_ble_eq_true rfl⟩) hK (hw.yd hi1) (rvY hK (hw.yd hi1)) rfl hl.1 rfl (Nat.le_of_ble_eq_true rfl) dX2_tellAll_1 ⟨Nat.zero_le _, Nat.zero_le _⟩ hS (AC.ofY hi1) (fun H13 L13 hy _ hk hS => ?_)
  have hw := hw.wy hi1 hy hk
  refine lv_aload_n hx hb dX2_tellAll_4 rfl (lv_at hl 0 rfl) ?_
  refine lv_iconst (v := 0) hx hb dX2_tellAll_5 (by decide) ?_
  refine pX2_28 hx hb hB hown hK hw hS (fun _ z => z) dX2_tellAll_6 (fun H14 L14 hw hS => ?_)
  refine lv_aload_n hx hb dX2_tellAll_9 rfl (lv_at hl 0 rfl) ?_
  refine lv_iconst (v := 1) hx hb dX2_tellAll_10 (by decide) ?_
  refine pX2_31 hx hb hB hown hK hw hS (fun _ z => z) (by decide) (by decide) dX2_tellAll_11 (fun H15 L15 hw hS => ?_)
  refine lv_iconst (v := 0) hx hb dX2_tellAll_14 (by decide) ?_
  refine lv_istore_n (lv' := [(2, .int 0), (0, .ref (ao 3)), (1, .ref (aY i1 0))]) hx hb dX2_tellAll_15 rfl hl (by decide) rfl (fun ls hl => ?_)
  exact hL16 FU 0 (va_up Y i1 r12) (u2 (u2 o 3 1 0) 3 2 1) _ _ _ (lv_sub hl [1, 2, 0] rfl) hw hS h
def fX4_write (Y : YS) (o : OS) (a1 : Int32) : Option (Int32 × YS × OS) := if a1 < 32 then some ((-1), Y, o) else if a1 ≤ 126 then if (o 3 0) < 200 then (fX2_append Y o ((a1.toUInt32 % 65536).toInt32)).bind (fun r4 => (some ((r4.2 3 0), r4.1, r4.2))) else some ((-3), Y, o) else some ((-1), Y, o)
abbrev rmX4_write : Room := { frames := 1, cells := 0, slots := 0, locals := 21 }
set_option maxHeartbeats 4000000 in
set_option maxRecDepth 100000 in
theorem c_X4_write (l : Launch) (E : En) (aY : Nat → Nat → Nat) (ao : Nat → Nat) (Y : YS) (o : OS) (a1 : Int32) (r : Int32 × YS × OS) (h : fX4_write Y o a1 = some r) : Met l yX4_write (kX4_write :: BIG) rmX4_write (Pk E [.ref (ao 0), .int a1] (CW E aY ao Y o)) (QW (some (.int r.1)) (AC aY ao) (CW E aY ao r.2.1 r.2.2)) 0 0 (AC aY ao) := by
  refine Mb (by decide) (Nat.le_of_ble_eq_true rfl) ?_
  intro p e s m below meth c ls hx hb hr hlk hB hown hml _ hK hw hl
  have hS : va_S (AC aY ao) s.heap s.heap [] := va_S.rf
  have hl : lv_has ls 2 [(0, .ref (ao 0)), (1, .int a1)] := hl
  rw [fX4_write] at h
  refine lv_iload_n hx hb dX4_write_0 rfl (lv_at hl 1 rfl) ?_
  refine lv_bipush (v := 32) hx hb dX4_write_1 (by decide) ?_
  refine lv_icmp_lt (tgt := 12) hx hb dX4_write_3 (by decide) (fun g1 => ?_) (fun g1 => ?_)
  · rw [if_pos g1] at h
    refine lv_iconst (v := (-1)) hx hb dX4_write_12 (by decide) ?_
    cases h
    exact e_zW hx hb hr hlk rfl rfl hw hS dX4_write_13
  · rw [if_neg g1] at h
    refine lv_iload_n hx hb dX4_write_6 rfl (lv_at hl 1 rfl) ?_
    refine lv_bipush (v := 126) hx hb dX4_write_7 (by decide) ?_
    refine lv_icmp_le (tgt := 14) hx hb dX4_write_9 (by decide) (fun g2 => ?_) (fun g2 => ?_)
    · rw [if_pos g2] at h
      refine lv_aload_n hx hb dX4_write_14 rfl (lv_at hl 0 rfl) ?_
      refine gX4_10 hx hb hB hown hK hw dX4_write_15 ?_
      refine gX4_75 hx hb hB hown hK hw dX4_write_18 ?_
      refine lv_sipush (v := 200) hx hb dX4_write_21 (by decide) ?_
      refine lv_icmp_lt (tgt := 30) hx hb dX4_write_24 (by decide) (fun g3 => ?_) (fun g3 => ?_)
      · rw [if_pos g3] at h
        refine lv_aload_n hx hb dX4_write_30 rfl (lv_at hl 0 rfl) ?_
        refine gX4_10 hx hb hB hown hK hw dX4_write_31 ?_
        refine lv_iload_n hx hb dX4_write_34 rfl (lv_at hl 1 rfl) ?_
        refine lv_i2c hx hb dX4_write_35 rfl ?_
        obtain ⟨r4, e4, h⟩ := ob h
        refine k_VWv ⟨hx, hb, hml, hown, hB⟩ (c_X2_append l E aY ao Y o ((a1.toUInt32 % 65536).toInt32) r4 e4) (clX4_67 hB rfl rfl ⟨Nat.le_of_ble_eq_true rfl, Nat.le_of_ble_eq_true rfl⟩) hK hw (rvO3 hK hw) rfl hl.1 rfl (Nat.le_of_ble_eq_true rfl) dX4_write_36 ⟨Nat.zero_le _, Nat.zero_le _⟩ hS (fun _ z => z) (fun H5 L5 hw _ _ hS => ?_)
        refine lv_aload_n hx hb dX4_write_39 rfl (lv_at hl 0 rfl) ?_
        refine gX4_10 hx hb hB hown hK hw dX4_write_40 ?_
        refine gX4_75 hx hb hB hown hK hw dX4_write_43 ?_
        cases h
        exact e_zW hx hb hr hlk rfl rfl hw hS dX4_write_46
      · rw [if_neg g3] at h
        refine lv_bipush (v := (-3)) hx hb dX4_write_27 (by decide) ?_
        cases h
        exact e_zW hx hb hr hlk rfl rfl hw hS dX4_write_29
    · rw [if_neg g2] at h
      refine lv_iconst (v := (-1)) hx hb dX4_write_12 (by decide) ?_
      cases h
      exact e_zW hx hb hr hlk rfl rfl hw hS dX4_write_13
def fX4_wipe (Y : YS) (o : OS) : Option (Int32 × YS × OS) := some ((o 3 0), Y, (u2 o 3 0 0))
abbrev rmX4_wipe : Room := { frames := 0, cells := 0, slots := 0, locals := 0 }
set_option maxHeartbeats 4000000 in
set_option maxRecDepth 100000 in
theorem c_X4_wipe (l : Launch) (E : En) (aY : Nat → Nat → Nat) (ao : Nat → Nat) (Y : YS) (o : OS) (r : Int32 × YS × OS) (h : fX4_wipe Y o = some r) : Met l yX4_wipe (kX4_wipe :: BIG) rmX4_wipe (Pk E [.ref (ao 0)] (CW E aY ao Y o)) (QW (some (.int r.1)) (AC aY ao) (CW E aY ao r.2.1 r.2.2)) 0 0 (AC aY ao) := by
  refine Mb (by decide) (Nat.le_of_ble_eq_true rfl) ?_
  intro p e s m below meth c ls hx hb hr hlk hB hown hml _ hK hw hl
  have hS : va_S (AC aY ao) s.heap s.heap [] := va_S.rf
  have hl : lv_has ls 2 [(0, .ref (ao 0))] := hl
  rw [fX4_wipe] at h
  refine lv_aload_n hx hb dX4_wipe_0 rfl (lv_at hl 0 rfl) ?_
  refine gX4_10 hx hb hB hown hK hw dX4_wipe_1 ?_
  refine gX4_75 hx hb hB hown hK hw dX4_wipe_4 ?_
  refine lv_istore_n (lv' := [(1, .int (o 3 0)), (0, .ref (ao 0))]) hx hb dX4_wipe_7 rfl hl (by decide) rfl (fun ls hl => ?_)
  refine lv_aload_n hx hb dX4_wipe_8 rfl (lv_at hl 1 rfl) ?_
  refine gX4_10 hx hb hB hown hK hw dX4_wipe_9 ?_
  refine lv_iconst (v := 0) hx hb dX4_wipe_12 (by decide) ?_
  refine pX4_75 hx hb hB hown hK hw hS (fun _ z => z) dX4_wipe_13 (fun H1 L1 hw hS => ?_)
  refine lv_iload_n hx hb dX4_wipe_16 rfl (lv_at hl 0 rfl) ?_
  cases h
  exact e_zW hx hb hr hlk rfl rfl hw hS dX4_wipe_17
def fX4_fault (Y : YS) (o : OS) : Option (Int32 × YS × OS) := (fX2_tellAll Y o 2).bind (fun r1 => (some (r1.1, r1.2.1, r1.2.2)))
abbrev rmX4_fault : Room := { frames := 6, cells := 0, slots := 0, locals := 145 }
set_option maxHeartbeats 4000000 in
set_option maxRecDepth 100000 in
theorem c_X4_fault (l : Launch) (E : En) (aY : Nat → Nat → Nat) (ao : Nat → Nat) (Y : YS) (o : OS) (r : Int32 × YS × OS) (h : fX4_fault Y o = some r) : Met l yX4_fault (kX4_fault :: BIG) rmX4_fault (Pk E [.ref (ao 0)] (CW E aY ao Y o)) (QW (some (.int r.1)) (AC aY ao) (CW E aY ao r.2.1 r.2.2)) 0 0 (AC aY ao) := by
  refine Mb (by decide) (Nat.le_of_ble_eq_true rfl) ?_
  intro p e s m below meth c ls hx hb hr hlk hB hown hml _ hK hw hl
  have hS : va_S (AC aY ao) s.heap s.heap [] := va_S.rf
  have hl : lv_has ls 1 [(0, .ref (ao 0))] := hl
  rw [fX4_fault] at h
  refine lv_aload_n hx hb dX4_fault_0 rfl (lv_at hl 0 rfl) ?_
  refine gX4_10 hx hb hB hown hK hw dX4_fault_1 ?_
  refine lv_aload_n hx hb dX4_fault_4 rfl (lv_at hl 0 rfl) ?_
  refine gX4_26 hx hb hB hown hK hw dX4_fault_5 ?_
  obtain ⟨r1, e1, h⟩ := ob h
  refine k_VWi ⟨hx, hb, hml, hown, hB⟩ (c_X2_tellAll l E aY ao Y o 2 (by decide) r1 e1) (clX4_71 hB rfl rfl ⟨Nat.le_of_ble_eq_true rfl, Nat.le_of_ble_eq_true rfl⟩) hK hw (rvO3 hK hw) rfl hl.1 rfl (Nat.le_of_ble_eq_true rfl) dX4_fault_8 ⟨Nat.zero_le _, Nat.zero_le _⟩ hS (fun _ z => z) (fun H2 L2 hw _ _ hS => ?_)
  cases h
  exact e_zW hx hb hr hlk rfl rfl hw hS dX4_fault_11
def fX4_lay (Y : YS) (o : OS) : Option (Int32 × YS × OS) := (fX2_tellAll Y o 2).bind (fun r1 => (if r1.1 = (-4) then if (r1.2.1 2 0 2) = 0 then some ((-2), r1.2.1, r1.2.2) else (fX3_copyFrom r1.2.1 r1.2.2 0 2).bind (fun r5 => ((fX1_clear_p r5.1 r5.2).bind (fun r7 => ((fX1_clear_k r7.1 r7.2).bind (fun r9 => (some ((r9.1 0 0 2), r9.1, (u2 r9.2 0 9 0)))))))) else some ((-2), r1.2.1, r1.2.2)))
abbrev rmX4_lay : Room := { frames := 6, cells := 0, slots := 0, locals := 145 }
set_option maxHeartbeats 4000000 in
set_option maxRecDepth 100000 in
theorem c_X4_lay (l : Launch) (E : En) (aY : Nat → Nat → Nat) (ao : Nat → Nat) (Y : YS) (o : OS) (r : Int32 × YS × OS) (h : fX4_lay Y o = some r) : Met l yX4_lay (kX4_lay :: BIG) rmX4_lay (Pk E [.ref (ao 0)] (CW E aY ao Y o)) (QW (some (.int r.1)) (AC aY ao) (CW E aY ao r.2.1 r.2.2)) 0 0 (AC aY ao) := by
  refine Mb (by decide) (Nat.le_of_ble_eq_true rfl) ?_
  intro p e s m below meth c ls hx hb hr hlk hB hown hml _ hK hw hl
  have hS : va_S (AC aY ao) s.heap s.heap [] := va_S.rf
  have hl : lv_has ls 1 [(0, .ref (ao 0))] := hl
  rw [fX4_lay] at h
  refine lv_aload_n hx hb dX4_lay_0 rfl (lv_at hl 0 rfl) ?_
  refine gX4_10 hx hb hB hown hK hw dX4_lay_1 ?_
  refine lv_aload_n hx hb dX4_lay_4 rfl (lv_at hl 0 rfl) ?_
  refine gX4_26 hx hb hB hown hK hw dX4_lay_5 ?_
  obtain ⟨r1, e1, h⟩ := ob h
  refine k_VWi ⟨hx, hb, hml, hown, hB⟩ (c_X2_tellAll l E aY ao Y o 2 (by decide) r1 e1) (clX4_71 hB rfl rfl ⟨Nat.le_of_ble_eq_true rfl, Nat.le_of_ble_eq_true rfl⟩) hK hw (rvO3 hK hw) rfl hl.1 rfl (Nat.le_of_ble_eq_true rfl) dX4_lay_8 ⟨Nat.zero_le _, Nat.zero_le _⟩ hS (fun _ z => z) (fun H2 L2 hw _ _ hS => ?_)
  refine lv_bipush (v := (-4)) hx hb dX4_lay_11 (by decide) ?_
  refine lv_icmp_ne (tgt := 26) hx hb dX4_lay_13 (by decide) (fun g3 => ?_) (fun g3 => ?_)
  · rw [if_neg g3] at h
    refine lv_bipush (v := (-2)) hx hb dX4_lay_26 (by decide) ?_
    cases h
    exact e_zW hx hb hr hlk rfl rfl hw hS dX4_lay_28
  · rw [if_pos g3] at h
    refine lv_aload_n hx hb dX4_lay_16 rfl (lv_at hl 0 rfl) ?_
    refine gX4_26 hx hb hB hown hK hw dX4_lay_17 ?_
    refine gX4_78 hx hb hB hown hK (hw.yd (by decide)) dX4_lay_20 ?_
    refine lv_if_ne (tgt := 29) hx hb dX4_lay_23 (by decide) (fun g4 => ?_) (fun g4 => ?_)
    · rw [if_neg g4] at h
      refine lv_aload_n hx hb dX4_lay_29 rfl (lv_at hl 0 rfl) ?_
      refine gX4_19 hx hb hB hown hK hw dX4_lay_30 ?_
      refine lv_aload_n hx hb dX4_lay_33 rfl (lv_at hl 0 rfl) ?_
      refine gX4_26 hx hb hB hown hK hw dX4_lay_34 ?_
      obtain ⟨r5, e5, h⟩ := ob h
      refine k_VWv ⟨hx, hb, hml, hown, hB⟩ (c_X3_copyFrom l E aY ao r1.2.1 r1.2.2 0 2 (by decide) (by decide) r5 e5) (clX4_81 hB rfl rfl ⟨Nat.le_of_ble_eq_true rfl, Nat.le_of_ble_eq_true rfl⟩) hK hw (rvY hK (hw.yd (by decide))) rfl hl.1 rfl (Nat.le_of_ble_eq_true rfl) dX4_lay_37 ⟨Nat.zero_le _, Nat.zero_le _⟩ hS (fun _ z => z) (fun H6 L6 hw _ _ hS => ?_)
      refine lv_aload_n hx hb dX4_lay_40 rfl (lv_at hl 0 rfl) ?_
      refine gX4_41 hx hb hB hown hK hw dX4_lay_41 ?_
      obtain ⟨r7, e7, h⟩ := ob h
      refine k_VWv ⟨hx, hb, hml, hown, hB⟩ (c_X1_clear_p l E aY ao r5.1 r5.2 r7 e7) (clX4_85 hB rfl rfl ⟨Nat.le_of_ble_eq_true rfl, Nat.le_of_ble_eq_true rfl⟩) hK hw (rvO13 hK hw) rfl hl.1 rfl (Nat.le_of_ble_eq_true rfl) dX4_lay_44 ⟨Nat.zero_le _, Nat.zero_le _⟩ hS (fun _ z => z) (fun H8 L8 hw _ _ hS => ?_)
      refine lv_aload_n hx hb dX4_lay_47 rfl (lv_at hl 0 rfl) ?_
      refine gX4_45 hx hb hB hown hK hw dX4_lay_48 ?_
      obtain ⟨r9, e9, h⟩ := ob h
      refine k_VWv ⟨hx, hb, hml, hown, hB⟩ (c_X1_clear_k l E aY ao r7.1 r7.2 r9 e9) (clX4_85 hB rfl rfl ⟨Nat.le_of_ble_eq_true rfl, Nat.le_of_ble_eq_true rfl⟩) hK hw (rvO15 hK hw) rfl hl.1 rfl (Nat.le_of_ble_eq_true rfl) dX4_lay_51 ⟨Nat.zero_le _, Nat.zero_le _⟩ hS (fun _ z => z) (fun H10 L10 hw _ _ hS => ?_)
      refine lv_aload_n hx hb dX4_lay_54 rfl (lv_at hl 0 rfl) ?_
      refine lv_iconst (v := 0) hx hb dX4_lay_55 (by decide) ?_
      refine pX4_88 hx hb hB hown hK hw hS (fun _ z => z) dX4_lay_56 (fun H11 L11 hw hS => ?_)
      refine lv_aload_n hx hb dX4_lay_59 rfl (lv_at hl 0 rfl) ?_
      refine gX4_19 hx hb hB hown hK hw dX4_lay_60 ?_
      refine gX4_78 hx hb hB hown hK (hw.yd (by decide)) dX4_lay_63 ?_
      cases h
      exact e_zW hx hb hr hlk rfl rfl hw hS dX4_lay_66
    · rw [if_pos g4] at h
      refine lv_bipush (v := (-2)) hx hb dX4_lay_26 (by decide) ?_
      cases h
      exact e_zW hx hb hr hlk rfl rfl hw hS dX4_lay_28
def fX4_dead (Y : YS) (o : OS) (a1 : Int32) (a2 : Int32) : Option (Int32) := (fX3_hasDead (Y 0) a1).bind (fun r1 => (if r1 = 0 then some (-1) else if a2 = 0 then (fX3_villageOf (Y 0) a1).bind (fun r4 => (some r4)) else if a2 = 1 then (fX3_kindOf (Y 0) a1).bind (fun r6 => (some r6)) else if a2 = 2 then (fX3_forgivenOf (Y 0) a1).bind (fun r8 => (some r8)) else if a2 = 3 then (fX3_plotOf (Y 0) a1).bind (fun r10 => (some r10)) else if a2 = 4 then (fX3_plotOfDouble (Y 0) a1).bind (fun r12 => (some r12)) else if (a2).toInt < 0 ∨ 4 < (a2).toInt then some (-1) else none))
abbrev rmX4_dead : Room := { frames := 3, cells := 0, slots := 0, locals := 67 }
set_option maxHeartbeats 4000000 in
set_option maxRecDepth 100000 in
theorem c_X4_dead (l : Launch) (E : En) (aY : Nat → Nat → Nat) (ao : Nat → Nat) (Y : YS) (o : OS) (a1 : Int32) (a2 : Int32) (r : Int32) (h : fX4_dead Y o a1 a2 = some r) : Met l yX4_dead (kX4_dead :: BIG) rmX4_dead (Pk E [.ref (ao 0), .int a1, .int a2] (CW E aY ao Y o)) (QcRead r) 0 0 (fun _ => False) := by
  refine Mb (by decide) (Nat.le_of_ble_eq_true rfl) ?_
  intro p e s m below meth c ls hx hb hr hlk hB hown hml _ hK hw hl
  have hl : lv_has ls 3 [(0, .ref (ao 0)), (1, .int a1), (2, .int a2)] := hl
  rw [fX4_dead] at h
  refine lv_aload_n hx hb dX4_dead_0 rfl (lv_at hl 0 rfl) ?_
  refine gX4_19 hx hb hB hown hK hw dX4_dead_1 ?_
  refine lv_iload_n hx hb dX4_dead_4 rfl (lv_at hl 1 rfl) ?_
  obtain ⟨r1, e1, h⟩ := ob h
  refine k_VR ⟨hx, hb, hml, hown, hB⟩ (c_X3_hasDead l E (aY 0) (Y 0) a1 r1 e1) (clX4_91 hB rfl rfl ⟨Nat.le_of_ble_eq_true rfl, Nat.le_of_ble_eq_true rfl⟩) hK (hw.yd (by decide)) (rvY hK (hw.yd (by decide))) rfl hl.1 rfl (Nat.le_of_ble_eq_true rfl) dX4_dead_5 ⟨Nat.zero_le _, Nat.zero_le _⟩ ?_
  refine lv_if_ne (tgt := 13) hx hb dX4_dead_8 (by decide) (fun g2 => ?_) (fun g2 => ?_)
  · rw [if_neg g2] at h
    refine lv_iload_n hx hb dX4_dead_13 rfl (lv_at hl 2 rfl) ?_
    by_cases g3 : a2 = 0
    · rw [if_pos g3] at h
      refine lv_tableIn (off := 34) (tgt := 48) hx hb dX4_dead_14 (by rw [g3]; decide) (by rw [g3]; decide) (by rw [g3]; rfl) (by decide) ?_
      refine lv_aload_n hx hb dX4_dead_48 rfl (lv_at hl 0 rfl) ?_
      refine gX4_19 hx hb hB hown hK hw dX4_dead_49 ?_
      refine lv_iload_n hx hb dX4_dead_52 rfl (lv_at hl 1 rfl) ?_
      obtain ⟨r4, e4, h⟩ := ob h
      refine k_VR ⟨hx, hb, hml, hown, hB⟩ (c_X3_villageOf l E (aY 0) (Y 0) a1 r4 e4) (clX4_95 hB rfl rfl ⟨Nat.le_of_ble_eq_true rfl, Nat.le_of_ble_eq_true rfl⟩) hK (hw.yd (by decide)) (rvY hK (hw.yd (by decide))) rfl hl.1 rfl (Nat.le_of_ble_eq_true rfl) dX4_dead_53 ⟨Nat.zero_le _, Nat.zero_le _⟩ ?_
      exact e_zR hx hb hr hlk rfl h dX4_dead_56
    · rw [if_neg g3] at h
      by_cases g5 : a2 = 1
      · rw [if_pos g5] at h
        refine lv_tableIn (off := 43) (tgt := 57) hx hb dX4_dead_14 (by rw [g5]; decide) (by rw [g5]; decide) (by rw [g5]; rfl) (by decide) ?_
        refine lv_aload_n hx hb dX4_dead_57 rfl (lv_at hl 0 rfl) ?_
        refine gX4_19 hx hb hB hown hK hw dX4_dead_58 ?_
        refine lv_iload_n hx hb dX4_dead_61 rfl (lv_at hl 1 rfl) ?_
        obtain ⟨r6, e6, h⟩ := ob h
        refine k_VR ⟨hx, hb, hml, hown, hB⟩ (c_X3_kindOf l E (aY 0) (Y 0) a1 r6 e6) (clX4_99 hB rfl rfl ⟨Nat.le_of_ble_eq_true rfl, Nat.le_of_ble_eq_true rfl⟩) hK (hw.yd (by decide)) (rvY hK (hw.yd (by decide))) rfl hl.1 rfl (Nat.le_of_ble_eq_true rfl) dX4_dead_62 ⟨Nat.zero_le _, Nat.zero_le _⟩ ?_
        exact e_zR hx hb hr hlk rfl h dX4_dead_65
      · rw [if_neg g5] at h
        by_cases g7 : a2 = 2
        · rw [if_pos g7] at h
          refine lv_tableIn (off := 52) (tgt := 66) hx hb dX4_dead_14 (by rw [g7]; decide) (by rw [g7]; decide) (by rw [g7]; rfl) (by decide) ?_
          refine lv_aload_n hx hb dX4_dead_66 rfl (lv_at hl 0 rfl) ?_
          refine gX4_19 hx hb hB hown hK hw dX4_dead_67 ?_
          refine lv_iload_n hx hb dX4_dead_70 rfl (lv_at hl 1 rfl) ?_
          obtain ⟨r8, e8, h⟩ := ob h
          refine k_VR ⟨hx, hb, hml, hown, hB⟩ (c_X3_forgivenOf l E (aY 0) (Y 0) a1 r8 e8) (clX4_102 hB rfl rfl ⟨Nat.le_of_ble_eq_true rfl, Nat.le_of_ble_eq_true rfl⟩) hK (hw.yd (by decide)) (rvY hK (hw.yd (by decide))) rfl hl.1 rfl (Nat.le_of_ble_eq_true rfl) dX4_dead_71 ⟨Nat.zero_le _, Nat.zero_le _⟩ ?_
          exact e_zR hx hb hr hlk rfl h dX4_dead_74
        · rw [if_neg g7] at h
          by_cases g9 : a2 = 3
          · rw [if_pos g9] at h
            refine lv_tableIn (off := 61) (tgt := 75) hx hb dX4_dead_14 (by rw [g9]; decide) (by rw [g9]; decide) (by rw [g9]; rfl) (by decide) ?_
            refine lv_aload_n hx hb dX4_dead_75 rfl (lv_at hl 0 rfl) ?_
            refine gX4_19 hx hb hB hown hK hw dX4_dead_76 ?_
            refine lv_iload_n hx hb dX4_dead_79 rfl (lv_at hl 1 rfl) ?_
            obtain ⟨r10, e10, h⟩ := ob h
            refine k_VR ⟨hx, hb, hml, hown, hB⟩ (c_X3_plotOf l E (aY 0) (Y 0) a1 r10 e10) (clX4_105 hB rfl rfl ⟨Nat.le_of_ble_eq_true rfl, Nat.le_of_ble_eq_true rfl⟩) hK (hw.yd (by decide)) (rvY hK (hw.yd (by decide))) rfl hl.1 rfl (Nat.le_of_ble_eq_true rfl) dX4_dead_80 ⟨Nat.zero_le _, Nat.zero_le _⟩ ?_
            exact e_zR hx hb hr hlk rfl h dX4_dead_83
          · rw [if_neg g9] at h
            by_cases g11 : a2 = 4
            · rw [if_pos g11] at h
              refine lv_tableIn (off := 70) (tgt := 84) hx hb dX4_dead_14 (by rw [g11]; decide) (by rw [g11]; decide) (by rw [g11]; rfl) (by decide) ?_
              refine lv_aload_n hx hb dX4_dead_84 rfl (lv_at hl 0 rfl) ?_
              refine gX4_19 hx hb hB hown hK hw dX4_dead_85 ?_
              refine lv_iload_n hx hb dX4_dead_88 rfl (lv_at hl 1 rfl) ?_
              obtain ⟨r12, e12, h⟩ := ob h
              refine k_VR ⟨hx, hb, hml, hown, hB⟩ (c_X3_plotOfDouble l E (aY 0) (Y 0) a1 r12 e12) (clX4_108 hB rfl rfl ⟨Nat.le_of_ble_eq_true rfl, Nat.le_of_ble_eq_true rfl⟩) hK (hw.yd (by decide)) (rvY hK (hw.yd (by decide))) rfl hl.1 rfl (Nat.le_of_ble_eq_true rfl) dX4_dead_89 ⟨Nat.zero_le _, Nat.zero_le _⟩ ?_
              exact e_zR hx hb hr hlk rfl h dX4_dead_92
            · rw [if_neg g11] at h
              by_cases g13 : (a2).toInt < 0 ∨ 4 < (a2).toInt
              · rw [if_pos g13] at h
                refine lv_tableOut (tgt := 93) hx hb dX4_dead_14 g13 (by decide) ?_
                refine lv_iconst (v := (-1)) hx hb dX4_dead_93 (by decide) ?_
                exact e_zR hx hb hr hlk rfl h dX4_dead_94
              · rw [if_neg g13] at h
                exact nn h
  · rw [if_pos g2] at h
    refine lv_iconst (v := (-1)) hx hb dX4_dead_11 (by decide) ?_
    exact e_zR hx hb hr hlk rfl h dX4_dead_12
def fX4_plot (Y : YS) (o : OS) (a1 : Int32) (a2 : Int32) : Option (Int32) := (fX4_isSide a1).bind (fun r1 => (if r1 = 0 then some (-1) else (fX3_hasPlot (Y 0) a2).bind (fun r3 => (if r3 = 0 then some (-1) else (fX3_whoLies (Y 0) a1 a2).bind (fun r5 => (some r5))))))
abbrev rmX4_plot : Room := { frames := 1, cells := 0, slots := 0, locals := 23 }
set_option maxHeartbeats 4000000 in
set_option maxRecDepth 100000 in
theorem c_X4_plot (l : Launch) (E : En) (aY : Nat → Nat → Nat) (ao : Nat → Nat) (Y : YS) (o : OS) (a1 : Int32) (a2 : Int32) (r : Int32) (h : fX4_plot Y o a1 a2 = some r) : Met l yX4_plot (kX4_plot :: BIG) rmX4_plot (Pk E [.ref (ao 0), .int a1, .int a2] (CW E aY ao Y o)) (QcRead r) 0 0 (fun _ => False) := by
  refine Mb (by decide) (Nat.le_of_ble_eq_true rfl) ?_
  intro p e s m below meth c ls hx hb hr hlk hB hown hml _ hK hw hl
  have hl : lv_has ls 3 [(0, .ref (ao 0)), (1, .int a1), (2, .int a2)] := hl
  rw [fX4_plot] at h
  refine lv_iload_n hx hb dX4_plot_0 rfl (lv_at hl 1 rfl) ?_
  obtain ⟨r1, e1, h⟩ := ob h
  refine k_SR ⟨hx, hb, hml, hown, hB⟩ (c_X4_isSide l E a1 r1 e1) (clX4_111 hB rfl rfl ⟨Nat.le_of_ble_eq_true rfl, Nat.le_of_ble_eq_true rfl⟩) hK trivial rfl hl.1 rfl (Nat.le_of_ble_eq_true rfl) dX4_plot_1 ⟨Nat.zero_le _, Nat.zero_le _⟩ ?_
  refine lv_if_eq (tgt := 18) hx hb dX4_plot_4 (by decide) (fun g2 => ?_) (fun g2 => ?_)
  · rw [if_pos g2] at h
    refine lv_iconst (v := (-1)) hx hb dX4_plot_18 (by decide) ?_
    exact e_zR hx hb hr hlk rfl h dX4_plot_19
  · rw [if_neg g2] at h
    refine lv_aload_n hx hb dX4_plot_7 rfl (lv_at hl 0 rfl) ?_
    refine gX4_19 hx hb hB hown hK hw dX4_plot_8 ?_
    refine lv_iload_n hx hb dX4_plot_11 rfl (lv_at hl 2 rfl) ?_
    obtain ⟨r3, e3, h⟩ := ob h
    refine k_VR ⟨hx, hb, hml, hown, hB⟩ (c_X3_hasPlot l E (aY 0) (Y 0) a2 r3 e3) (clX4_114 hB rfl rfl ⟨Nat.le_of_ble_eq_true rfl, Nat.le_of_ble_eq_true rfl⟩) hK (hw.yd (by decide)) (rvY hK (hw.yd (by decide))) rfl hl.1 rfl (Nat.le_of_ble_eq_true rfl) dX4_plot_12 ⟨Nat.zero_le _, Nat.zero_le _⟩ ?_
    refine lv_if_ne (tgt := 20) hx hb dX4_plot_15 (by decide) (fun g4 => ?_) (fun g4 => ?_)
    · rw [if_neg g4] at h
      refine lv_aload_n hx hb dX4_plot_20 rfl (lv_at hl 0 rfl) ?_
      refine gX4_19 hx hb hB hown hK hw dX4_plot_21 ?_
      refine lv_iload_n hx hb dX4_plot_24 rfl (lv_at hl 1 rfl) ?_
      refine lv_iload_n hx hb dX4_plot_25 rfl (lv_at hl 2 rfl) ?_
      obtain ⟨r5, e5, h⟩ := ob h
      refine k_VR ⟨hx, hb, hml, hown, hB⟩ (c_X3_whoLies l E (aY 0) (Y 0) a1 a2 r5 e5) (clX4_117 hB rfl rfl ⟨Nat.le_of_ble_eq_true rfl, Nat.le_of_ble_eq_true rfl⟩) hK (hw.yd (by decide)) (rvY hK (hw.yd (by decide))) rfl hl.1 rfl (Nat.le_of_ble_eq_true rfl) dX4_plot_26 ⟨Nat.zero_le _, Nat.zero_le _⟩ ?_
      exact e_zR hx hb hr hlk rfl h dX4_plot_29
    · rw [if_pos g4] at h
      refine lv_iconst (v := (-1)) hx hb dX4_plot_18 (by decide) ?_
      exact e_zR hx hb hr hlk rfl h dX4_plot_19
def fX4_visitor (Y : YS) (o : OS) (a1 : Int32) (a2 : Int32) : Option (Int32) := (fX3_hasVisitor (Y 0) a1).bind (fun r1 => (if r1 = 0 then some (-1) else if a2 = 0 then (fX3_visitedBy (Y 0) a1).bind (fun r4 => (some r4)) else if a2 = 1 then (fX3_minutesOf (Y 0) a1).bind (fun r6 => (some r6)) else some (-1)))
abbrev rmX4_visitor : Room := { frames := 2, cells := 0, slots := 0, locals := 42 }
set_option maxHeartbeats 4000000 in
set_option maxRecDepth 100000 in
theorem c_X4_visitor (l : Launch) (E : En) (aY : Nat → Nat → Nat) (ao : Nat → Nat) (Y : YS) (o : OS) (a1 : Int32) (a2 : Int32) (r : Int32) (h : fX4_visitor Y o a1 a2 = some r) : Met l yX4_visitor (kX4_visitor :: BIG) rmX4_visitor (Pk E [.ref (ao 0), .int a1, .int a2] (CW E aY ao Y o)) (QcRead r) 0 0 (fun _ => False) := by
  refine Mb (by decide) (Nat.le_of_ble_eq_true rfl) ?_
  intro p e s m below meth c ls hx hb hr hlk hB hown hml _ hK hw hl
  have hl : lv_has ls 3 [(0, .ref (ao 0)), (1, .int a1), (2, .int a2)] := hl
  rw [fX4_visitor] at h
  refine lv_aload_n hx hb dX4_visitor_0 rfl (lv_at hl 0 rfl) ?_
  refine gX4_19 hx hb hB hown hK hw dX4_visitor_1 ?_
  refine lv_iload_n hx hb dX4_visitor_4 rfl (lv_at hl 1 rfl) ?_
  obtain ⟨r1, e1, h⟩ := ob h
  refine k_VR ⟨hx, hb, hml, hown, hB⟩ (c_X3_hasVisitor l E (aY 0) (Y 0) a1 r1 e1) (clX4_121 hB rfl rfl ⟨Nat.le_of_ble_eq_true rfl, Nat.le_of_ble_eq_true rfl⟩) hK (hw.yd (by decide)) (rvY hK (hw.yd (by decide))) rfl hl.1 rfl (Nat.le_of_ble_eq_true rfl) dX4_visitor_5 ⟨Nat.zero_le _, Nat.zero_le _⟩ ?_
  refine lv_if_ne (tgt := 13) hx hb dX4_visitor_8 (by decide) (fun g2 => ?_) (fun g2 => ?_)
  · rw [if_neg g2] at h
    refine lv_iload_n hx hb dX4_visitor_13 rfl (lv_at hl 2 rfl) ?_
    by_cases g3 : a2 = 0
    · rw [if_pos g3] at h
      refine lv_lookup (off := 26) (tgt := 40) hx hb dX4_visitor_14 (by decide) (by rw [g3]; decide) (by decide) ?_
      refine lv_aload_n hx hb dX4_visitor_40 rfl (lv_at hl 0 rfl) ?_
      refine gX4_19 hx hb hB hown hK hw dX4_visitor_41 ?_
      refine lv_iload_n hx hb dX4_visitor_44 rfl (lv_at hl 1 rfl) ?_
      obtain ⟨r4, e4, h⟩ := ob h
      refine k_VR ⟨hx, hb, hml, hown, hB⟩ (c_X3_visitedBy l E (aY 0) (Y 0) a1 r4 e4) (clX4_124 hB rfl rfl ⟨Nat.le_of_ble_eq_true rfl, Nat.le_of_ble_eq_true rfl⟩) hK (hw.yd (by decide)) (rvY hK (hw.yd (by decide))) rfl hl.1 rfl (Nat.le_of_ble_eq_true rfl) dX4_visitor_45 ⟨Nat.zero_le _, Nat.zero_le _⟩ ?_
      exact e_zR hx hb hr hlk rfl h dX4_visitor_48
    · rw [if_neg g3] at h
      by_cases g5 : a2 = 1
      · rw [if_pos g5] at h
        refine lv_lookup (off := 35) (tgt := 49) hx hb dX4_visitor_14 (by decide) (by rw [g5]; decide) (by decide) ?_
        refine lv_aload_n hx hb dX4_visitor_49 rfl (lv_at hl 0 rfl) ?_
        refine gX4_19 hx hb hB hown hK hw dX4_visitor_50 ?_
        refine lv_iload_n hx hb dX4_visitor_53 rfl (lv_at hl 1 rfl) ?_
        obtain ⟨r6, e6, h⟩ := ob h
        refine k_VR ⟨hx, hb, hml, hown, hB⟩ (c_X3_minutesOf l E (aY 0) (Y 0) a1 r6 e6) (clX4_127 hB rfl rfl ⟨Nat.le_of_ble_eq_true rfl, Nat.le_of_ble_eq_true rfl⟩) hK (hw.yd (by decide)) (rvY hK (hw.yd (by decide))) rfl hl.1 rfl (Nat.le_of_ble_eq_true rfl) dX4_visitor_54 ⟨Nat.zero_le _, Nat.zero_le _⟩ ?_
        exact e_zR hx hb hr hlk rfl h dX4_visitor_57
      · rw [if_neg g5] at h
        refine lv_lookup (off := 44) (tgt := 58) hx hb dX4_visitor_14 (by decide) ((lv_osw g3 (by decide)).trans ((lv_osw g5 (by decide)).trans (rfl))) (by decide) ?_
        refine lv_iconst (v := (-1)) hx hb dX4_visitor_58 (by decide) ?_
        exact e_zR hx hb hr hlk rfl h dX4_visitor_59
  · rw [if_pos g2] at h
    refine lv_iconst (v := (-1)) hx hb dX4_visitor_11 (by decide) ?_
    exact e_zR hx hb hr hlk rfl h dX4_visitor_12
def fX4_bury (Y : YS) (o : OS) (a1 : Int32) (a2 : Int32) (a3 : Int32) : Option (Int32 × YS × OS) := (fX4_isOneOfTheDead a1 a2 a3).bind (fun r1 => (if r1 = 0 then some ((-1), Y, o) else if (Y 0 0 2) < 12 then (fX1_put_p Y o 0).bind (fun r4 => ((fX3_addDead (r4.1 0) a1 a2 a3).bind (fun r6 => (some (r6.1, (va_up r4.1 0 r6.2), r4.2))))) else some ((-3), Y, o)))
abbrev rmX4_bury : Room := { frames := 4, cells := 0, slots := 0, locals := 98 }
set_option maxHeartbeats 4000000 in
set_option maxRecDepth 100000 in
theorem c_X4_bury (l : Launch) (E : En) (aY : Nat → Nat → Nat) (ao : Nat → Nat) (Y : YS) (o : OS) (a1 : Int32) (a2 : Int32) (a3 : Int32) (r : Int32 × YS × OS) (h : fX4_bury Y o a1 a2 a3 = some r) : Met l yX4_bury (kX4_bury :: BIG) rmX4_bury (Pk E [.ref (ao 0), .int a1, .int a2, .int a3] (CW E aY ao Y o)) (QW (some (.int r.1)) (AC aY ao) (CW E aY ao r.2.1 r.2.2)) 0 0 (AC aY ao) := by
  refine Mb (by decide) (Nat.le_of_ble_eq_true rfl) ?_
  intro p e s m below meth c ls hx hb hr hlk hB hown hml _ hK hw hl
  have hS : va_S (AC aY ao) s.heap s.heap [] := va_S.rf
  have hl : lv_has ls 4 [(0, .ref (ao 0)), (1, .int a1), (2, .int a2), (3, .int a3)] := hl
  rw [fX4_bury] at h
  refine lv_iload_n hx hb dX4_bury_0 rfl (lv_at hl 1 rfl) ?_
  refine lv_iload_n hx hb dX4_bury_1 rfl (lv_at hl 2 rfl) ?_
  refine lv_iload_n hx hb dX4_bury_2 rfl (lv_at hl 3 rfl) ?_
  obtain ⟨r1, e1, h⟩ := ob h
  refine k_SR ⟨hx, hb, hml, hown, hB⟩ (c_X4_isOneOfTheDead l E a1 a2 a3 r1 e1) (clX4_130 hB rfl rfl ⟨Nat.le_of_ble_eq_true rfl, Nat.le_of_ble_eq_true rfl⟩) hK trivial rfl hl.1 rfl (Nat.le_of_ble_eq_true rfl) dX4_bury_3 ⟨Nat.zero_le _, Nat.zero_le _⟩ ?_
  refine lv_if_ne (tgt := 11) hx hb dX4_bury_6 (by decide) (fun g2 => ?_) (fun g2 => ?_)
  · rw [if_neg g2] at h
    refine lv_aload_n hx hb dX4_bury_11 rfl (lv_at hl 0 rfl) ?_
    refine gX4_19 hx hb hB hown hK hw dX4_bury_12 ?_
    refine gX4_78 hx hb hB hown hK (hw.yd (by decide)) dX4_bury_15 ?_
    refine lv_bipush (v := 12) hx hb dX4_bury_18 (by decide) ?_
    refine lv_icmp_lt (tgt := 26) hx hb dX4_bury_20 (by decide) (fun g3 => ?_) (fun g3 => ?_)
    · rw [if_pos g3] at h
      refine lv_aload_n hx hb dX4_bury_26 rfl (lv_at hl 0 rfl) ?_
      refine gX4_41 hx hb hB hown hK hw dX4_bury_27 ?_
      refine lv_aload_n hx hb dX4_bury_30 rfl (lv_at hl 0 rfl) ?_
      refine gX4_19 hx hb hB hown hK hw dX4_bury_31 ?_
      obtain ⟨r4, e4, h⟩ := ob h
      refine k_VWv ⟨hx, hb, hml, hown, hB⟩ (c_X1_put_p l E aY ao Y o 0 (by decide) r4 e4) (clX4_134 hB rfl rfl ⟨Nat.le_of_ble_eq_true rfl, Nat.le_of_ble_eq_true rfl⟩) hK hw (rvO13 hK hw) rfl hl.1 rfl (Nat.le_of_ble_eq_true rfl) dX4_bury_34 ⟨Nat.zero_le _, Nat.zero_le _⟩ hS (fun _ z => z) (fun H5 L5 hw _ _ hS => ?_)
      refine lv_aload_n hx hb dX4_bury_37 rfl (lv_at hl 0 rfl) ?_
      refine gX4_19 hx hb hB hown hK hw dX4_bury_38 ?_
      refine lv_iload_n hx hb dX4_bury_41 rfl (lv_at hl 1 rfl) ?_
      refine lv_iload_n hx hb dX4_bury_42 rfl (lv_at hl 2 rfl) ?_
      refine lv_iload_n hx hb dX4_bury_43 rfl (lv_at hl 3 rfl) ?_
      obtain ⟨r6, e6, h⟩ := ob h
      refine k_VWi ⟨hx, hb, hml, hown, hB⟩ (c_X3_addDead l E (aY 0) (r4.1 0) a1 a2 a3 r6 e6) (clX4_137 hB rfl rfl ⟨Nat.le_of_ble_eq_true rfl, Nat.le_of_ble_eq_true rfl⟩) hK (hw.yd (by decide)) (rvY hK (hw.yd (by decide))) rfl hl.1 rfl (Nat.le_of_ble_eq_true rfl) dX4_bury_44 ⟨Nat.zero_le _, Nat.zero_le _⟩ hS (AC.ofY (by decide)) (fun H7 L7 hy _ hk hS => ?_)
      have hw := hw.wy (by decide) hy hk
      cases h
      exact e_zW hx hb hr hlk rfl rfl hw hS dX4_bury_47
    · rw [if_neg g3] at h
      refine lv_bipush (v := (-3)) hx hb dX4_bury_23 (by decide) ?_
      cases h
      exact e_zW hx hb hr hlk rfl rfl hw hS dX4_bury_25
  · rw [if_pos g2] at h
    refine lv_iconst (v := (-1)) hx hb dX4_bury_9 (by decide) ?_
    cases h
    exact e_zW hx hb hr hlk rfl rfl hw hS dX4_bury_10
def fX4_change (Y : YS) (o : OS) (a1 : Int32) (a2 : Int32) (a3 : Int32) : Option (Int32 × YS × OS) := (fX4_isSide a1).bind (fun r1 => (if r1 = 0 then some ((-1), Y, o) else (fX3_hasPlot (Y 0) a2).bind (fun r3 => (if r3 = 0 then some ((-1), Y, o) else (fX3_hasPlot (Y 0) a3).bind (fun r5 => (if r5 = 0 then some ((-1), Y, o) else if a2 = a3 then some ((-1), Y, o) else (fX1_put_p Y o 0).bind (fun r8 => ((fX3_swap (r8.1 0) a1 a2 a3).bind (fun r10 => ((fX3_whoLies ((va_up r8.1 0 r10) 0) a1 a2).bind (fun r12 => (some (r12, (va_up r8.1 0 r10), r8.2)))))))))))))
abbrev rmX4_change : Room := { frames := 3, cells := 0, slots := 0, locals := 68 }
set_option maxHeartbeats 4000000 in
set_option maxRecDepth 100000 in
theorem c_X4_change (l : Launch) (E : En) (aY : Nat → Nat → Nat) (ao : Nat → Nat) (Y : YS) (o : OS) (a1 : Int32) (a2 : Int32) (a3 : Int32) (r : Int32 × YS × OS) (h : fX4_change Y o a1 a2 a3 = some r) : Met l yX4_change (kX4_change :: BIG) rmX4_change (Pk E [.ref (ao 0), .int a1, .int a2, .int a3] (CW E aY ao Y o)) (QW (some (.int r.1)) (AC aY ao) (CW E aY ao r.2.1 r.2.2)) 0 0 (AC aY ao) := by
  refine Mb (by decide) (Nat.le_of_ble_eq_true rfl) ?_
  intro p e s m below meth c ls hx hb hr hlk hB hown hml _ hK hw hl
  have hS : va_S (AC aY ao) s.heap s.heap [] := va_S.rf
  have hl : lv_has ls 4 [(0, .ref (ao 0)), (1, .int a1), (2, .int a2), (3, .int a3)] := hl
  rw [fX4_change] at h
  refine lv_iload_n hx hb dX4_change_0 rfl (lv_at hl 1 rfl) ?_
  obtain ⟨r1, e1, h⟩ := ob h
  refine k_SR ⟨hx, hb, hml, hown, hB⟩ (c_X4_isSide l E a1 r1 e1) (clX4_111 hB rfl rfl ⟨Nat.le_of_ble_eq_true rfl, Nat.le_of_ble_eq_true rfl⟩) hK trivial rfl hl.1 rfl (Nat.le_of_ble_eq_true rfl) dX4_change_1 ⟨Nat.zero_le _, Nat.zero_le _⟩ ?_
  refine lv_if_eq (tgt := 34) hx hb dX4_change_4 (by decide) (fun g2 => ?_) (fun g2 => ?_)
  · rw [if_pos g2] at h
    refine lv_iconst (v := (-1)) hx hb dX4_change_34 (by decide) ?_
    cases h
    exact e_zW hx hb hr hlk rfl rfl hw hS dX4_change_35
  · rw [if_neg g2] at h
    refine lv_aload_n hx hb dX4_change_7 rfl (lv_at hl 0 rfl) ?_
    refine gX4_19 hx hb hB hown hK hw dX4_change_8 ?_
    refine lv_iload_n hx hb dX4_change_11 rfl (lv_at hl 2 rfl) ?_
    obtain ⟨r3, e3, h⟩ := ob h
    refine k_VR ⟨hx, hb, hml, hown, hB⟩ (c_X3_hasPlot l E (aY 0) (Y 0) a2 r3 e3) (clX4_114 hB rfl rfl ⟨Nat.le_of_ble_eq_true rfl, Nat.le_of_ble_eq_true rfl⟩) hK (hw.yd (by decide)) (rvY hK (hw.yd (by decide))) rfl hl.1 rfl (Nat.le_of_ble_eq_true rfl) dX4_change_12 ⟨Nat.zero_le _, Nat.zero_le _⟩ ?_
    refine lv_if_eq (tgt := 34) hx hb dX4_change_15 (by decide) (fun g4 => ?_) (fun g4 => ?_)
    · rw [if_pos g4] at h
      refine lv_iconst (v := (-1)) hx hb dX4_change_34 (by decide) ?_
      cases h
      exact e_zW hx hb hr hlk rfl rfl hw hS dX4_change_35
    · rw [if_neg g4] at h
      refine lv_aload_n hx hb dX4_change_18 rfl (lv_at hl 0 rfl) ?_
      refine gX4_19 hx hb hB hown hK hw dX4_change_19 ?_
      refine lv_iload_n hx hb dX4_change_22 rfl (lv_at hl 3 rfl) ?_
      obtain ⟨r5, e5, h⟩ := ob h
      refine k_VR ⟨hx, hb, hml, hown, hB⟩ (c_X3_hasPlot l E (aY 0) (Y 0) a3 r5 e5) (clX4_114 hB rfl rfl ⟨Nat.le_of_ble_eq_true rfl, Nat.le_of_ble_eq_true rfl⟩) hK (hw.yd (by decide)) (rvY hK (hw.yd (by decide))) rfl hl.1 rfl (Nat.le_of_ble_eq_true rfl) dX4_change_23 ⟨Nat.zero_le _, Nat.zero_le _⟩ ?_
      refine lv_if_eq (tgt := 34) hx hb dX4_change_26 (by decide) (fun g6 => ?_) (fun g6 => ?_)
      · rw [if_pos g6] at h
        refine lv_iconst (v := (-1)) hx hb dX4_change_34 (by decide) ?_
        cases h
        exact e_zW hx hb hr hlk rfl rfl hw hS dX4_change_35
      · rw [if_neg g6] at h
        refine lv_iload_n hx hb dX4_change_29 rfl (lv_at hl 2 rfl) ?_
        refine lv_iload_n hx hb dX4_change_30 rfl (lv_at hl 3 rfl) ?_
        refine lv_icmp_ne (tgt := 36) hx hb dX4_change_31 (by decide) (fun g7 => ?_) (fun g7 => ?_)
        · rw [if_neg g7] at h
          refine lv_aload_n hx hb dX4_change_36 rfl (lv_at hl 0 rfl) ?_
          refine gX4_41 hx hb hB hown hK hw dX4_change_37 ?_
          refine lv_aload_n hx hb dX4_change_40 rfl (lv_at hl 0 rfl) ?_
          refine gX4_19 hx hb hB hown hK hw dX4_change_41 ?_
          obtain ⟨r8, e8, h⟩ := ob h
          refine k_VWv ⟨hx, hb, hml, hown, hB⟩ (c_X1_put_p l E aY ao Y o 0 (by decide) r8 e8) (clX4_134 hB rfl rfl ⟨Nat.le_of_ble_eq_true rfl, Nat.le_of_ble_eq_true rfl⟩) hK hw (rvO13 hK hw) rfl hl.1 rfl (Nat.le_of_ble_eq_true rfl) dX4_change_44 ⟨Nat.zero_le _, Nat.zero_le _⟩ hS (fun _ z => z) (fun H9 L9 hw _ _ hS => ?_)
          refine lv_aload_n hx hb dX4_change_47 rfl (lv_at hl 0 rfl) ?_
          refine gX4_19 hx hb hB hown hK hw dX4_change_48 ?_
          refine lv_iload_n hx hb dX4_change_51 rfl (lv_at hl 1 rfl) ?_
          refine lv_iload_n hx hb dX4_change_52 rfl (lv_at hl 2 rfl) ?_
          refine lv_iload_n hx hb dX4_change_53 rfl (lv_at hl 3 rfl) ?_
          obtain ⟨r10, e10, h⟩ := ob h
          refine k_VWv ⟨hx, hb, hml, hown, hB⟩ (c_X3_swap l E (aY 0) (r8.1 0) a1 a2 a3 r10 e10) (clX4_141 hB rfl rfl ⟨Nat.le_of_ble_eq_true rfl, Nat.le_of_ble_eq_true rfl⟩) hK (hw.yd (by decide)) (rvY hK (hw.yd (by decide))) rfl hl.1 rfl (Nat.le_of_ble_eq_true rfl) dX4_change_54 ⟨Nat.zero_le _, Nat.zero_le _⟩ hS (AC.ofY (by decide)) (fun H11 L11 hy _ hk hS => ?_)
          have hw := hw.wy (by decide) hy hk
          refine lv_aload_n hx hb dX4_change_57 rfl (lv_at hl 0 rfl) ?_
          refine gX4_19 hx hb hB hown hK hw dX4_change_58 ?_
          refine lv_iload_n hx hb dX4_change_61 rfl (lv_at hl 1 rfl) ?_
          refine lv_iload_n hx hb dX4_change_62 rfl (lv_at hl 2 rfl) ?_
          obtain ⟨r12, e12, h⟩ := ob h
          refine k_VR ⟨hx, hb, hml, hown, hB⟩ (c_X3_whoLies l E (aY 0) ((va_up r8.1 0 r10) 0) a1 a2 r12 e12) (clX4_117 hB rfl rfl ⟨Nat.le_of_ble_eq_true rfl, Nat.le_of_ble_eq_true rfl⟩) hK (hw.yd (by decide)) (rvY hK (hw.yd (by decide))) rfl hl.1 rfl (Nat.le_of_ble_eq_true rfl) dX4_change_63 ⟨Nat.zero_le _, Nat.zero_le _⟩ ?_
          cases h
          exact e_zW hx hb hr hlk rfl rfl hw hS dX4_change_66
        · rw [if_pos g7] at h
          refine lv_iconst (v := (-1)) hx hb dX4_change_34 (by decide) ?_
          cases h
          exact e_zW hx hb hr hlk rfl rfl hw hS dX4_change_35
def fX4_forgive (Y : YS) (o : OS) (a1 : Int32) (a2 : Int32) : Option (Int32 × YS × OS) := (fX3_hasDead (Y 0) a1).bind (fun r1 => (if r1 = 0 then some ((-1), Y, o) else (fX4_isForgiven a2).bind (fun r3 => (if r3 = 0 then some ((-1), Y, o) else (fX1_put_p Y o 0).bind (fun r5 => ((fX3_forgivenOf (r5.1 0) a1).bind (fun r7 => ((fX3_setForgiven (r5.1 0) a1 a2).bind (fun r8 => (some (r7, (va_up r5.1 0 r8), r5.2)))))))))))
abbrev rmX4_forgive : Room := { frames := 2, cells := 0, slots := 0, locals := 43 }
set_option maxHeartbeats 4000000 in
set_option maxRecDepth 100000 in
theorem c_X4_forgive (l : Launch) (E : En) (aY : Nat → Nat → Nat) (ao : Nat → Nat) (Y : YS) (o : OS) (a1 : Int32) (a2 : Int32) (r : Int32 × YS × OS) (h : fX4_forgive Y o a1 a2 = some r) : Met l yX4_forgive (kX4_forgive :: BIG) rmX4_forgive (Pk E [.ref (ao 0), .int a1, .int a2] (CW E aY ao Y o)) (QW (some (.int r.1)) (AC aY ao) (CW E aY ao r.2.1 r.2.2)) 0 0 (AC aY ao) := by
  refine Mb (by decide) (Nat.le_of_ble_eq_true rfl) ?_
  intro p e s m below meth c ls hx hb hr hlk hB hown hml _ hK hw hl
  have hS : va_S (AC aY ao) s.heap s.heap [] := va_S.rf
  have hl : lv_has ls 4 [(0, .ref (ao 0)), (1, .int a1), (2, .int a2)] := hl
  rw [fX4_forgive] at h
  refine lv_aload_n hx hb dX4_forgive_0 rfl (lv_at hl 0 rfl) ?_
  refine gX4_19 hx hb hB hown hK hw dX4_forgive_1 ?_
  refine lv_iload_n hx hb dX4_forgive_4 rfl (lv_at hl 1 rfl) ?_
  obtain ⟨r1, e1, h⟩ := ob h
  refine k_VR ⟨hx, hb, hml, hown, hB⟩ (c_X3_hasDead l E (aY 0) (Y 0) a1 r1 e1) (clX4_91 hB rfl rfl ⟨Nat.le_of_ble_eq_true rfl, Nat.le_of_ble_eq_true rfl⟩) hK (hw.yd (by decide)) (rvY hK (hw.yd (by decide))) rfl hl.1 rfl (Nat.le_of_ble_eq_true rfl) dX4_forgive_5 ⟨Nat.zero_le _, Nat.zero_le _⟩ ?_
  refine lv_if_eq (tgt := 18) hx hb dX4_forgive_8 (by decide) (fun g2 => ?_) (fun g2 => ?_)
  · rw [if_pos g2] at h
    refine lv_iconst (v := (-1)) hx hb dX4_forgive_18 (by decide) ?_
    cases h
    exact e_zW hx hb hr hlk rfl rfl hw hS dX4_forgive_19
  · rw [if_neg g2] at h
    refine lv_iload_n hx hb dX4_forgive_11 rfl (lv_at hl 2 rfl) ?_
    obtain ⟨r3, e3, h⟩ := ob h
    refine k_SR ⟨hx, hb, hml, hown, hB⟩ (c_X4_isForgiven l E a2 r3 e3) (clX4_145 hB rfl rfl ⟨Nat.le_of_ble_eq_true rfl, Nat.le_of_ble_eq_true rfl⟩) hK trivial rfl hl.1 rfl (Nat.le_of_ble_eq_true rfl) dX4_forgive_12 ⟨Nat.zero_le _, Nat.zero_le _⟩ ?_
    refine lv_if_ne (tgt := 20) hx hb dX4_forgive_15 (by decide) (fun g4 => ?_) (fun g4 => ?_)
    · rw [if_neg g4] at h
      refine lv_aload_n hx hb dX4_forgive_20 rfl (lv_at hl 0 rfl) ?_
      refine gX4_41 hx hb hB hown hK hw dX4_forgive_21 ?_
      refine lv_aload_n hx hb dX4_forgive_24 rfl (lv_at hl 0 rfl) ?_
      refine gX4_19 hx hb hB hown hK hw dX4_forgive_25 ?_
      obtain ⟨r5, e5, h⟩ := ob h
      refine k_VWv ⟨hx, hb, hml, hown, hB⟩ (c_X1_put_p l E aY ao Y o 0 (by decide) r5 e5) (clX4_134 hB rfl rfl ⟨Nat.le_of_ble_eq_true rfl, Nat.le_of_ble_eq_true rfl⟩) hK hw (rvO13 hK hw) rfl hl.1 rfl (Nat.le_of_ble_eq_true rfl) dX4_forgive_28 ⟨Nat.zero_le _, Nat.zero_le _⟩ hS (fun _ z => z) (fun H6 L6 hw _ _ hS => ?_)
      refine lv_aload_n hx hb dX4_forgive_31 rfl (lv_at hl 0 rfl) ?_
      refine gX4_19 hx hb hB hown hK hw dX4_forgive_32 ?_
      refine lv_iload_n hx hb dX4_forgive_35 rfl (lv_at hl 1 rfl) ?_
      obtain ⟨r7, e7, h⟩ := ob h
      refine k_VR ⟨hx, hb, hml, hown, hB⟩ (c_X3_forgivenOf l E (aY 0) (r5.1 0) a1 r7 e7) (clX4_102 hB rfl rfl ⟨Nat.le_of_ble_eq_true rfl, Nat.le_of_ble_eq_true rfl⟩) hK (hw.yd (by decide)) (rvY hK (hw.yd (by decide))) rfl hl.1 rfl (Nat.le_of_ble_eq_true rfl) dX4_forgive_36 ⟨Nat.zero_le _, Nat.zero_le _⟩ ?_
      refine lv_istore_n (lv' := [(3, .int r7), (0, .ref (ao 0)), (1, .int a1), (2, .int a2)]) hx hb dX4_forgive_39 rfl hl (by decide) rfl (fun ls hl => ?_)
      refine lv_aload_n hx hb dX4_forgive_40 rfl (lv_at hl 1 rfl) ?_
      refine gX4_19 hx hb hB hown hK hw dX4_forgive_41 ?_
      refine lv_iload_n hx hb dX4_forgive_44 rfl (lv_at hl 2 rfl) ?_
      refine lv_iload_n hx hb dX4_forgive_45 rfl (lv_at hl 3 rfl) ?_
      obtain ⟨r8, e8, h⟩ := ob h
      refine k_VWv ⟨hx, hb, hml, hown, hB⟩ (c_X3_setForgiven l E (aY 0) (r5.1 0) a1 a2 r8 e8) (clX4_148 hB rfl rfl ⟨Nat.le_of_ble_eq_true rfl, Nat.le_of_ble_eq_true rfl⟩) hK (hw.yd (by decide)) (rvY hK (hw.yd (by decide))) rfl hl.1 rfl (Nat.le_of_ble_eq_true rfl) dX4_forgive_46 ⟨Nat.zero_le _, Nat.zero_le _⟩ hS (AC.ofY (by decide)) (fun H9 L9 hy _ hk hS => ?_)
      have hw := hw.wy (by decide) hy hk
      refine lv_iload_n hx hb dX4_forgive_49 rfl (lv_at hl 0 rfl) ?_
      cases h
      exact e_zW hx hb hr hlk rfl rfl hw hS dX4_forgive_50
    · rw [if_pos g4] at h
      refine lv_iconst (v := (-1)) hx hb dX4_forgive_18 (by decide) ?_
      cases h
      exact e_zW hx hb hr hlk rfl rfl hw hS dX4_forgive_19
def fX4_visit (Y : YS) (o : OS) (a1 : Int32) (a2 : Int32) : Option (Int32 × YS × OS) := (fX3_hasDead (Y 0) a1).bind (fun r1 => (if r1 = 0 then some ((-1), Y, o) else (fX4_isMinutes a2).bind (fun r3 => (if r3 = 0 then some ((-1), Y, o) else if (Y 0 0 3) < 6 then (fX1_put_p Y o 0).bind (fun r6 => ((fX3_addVisitor (r6.1 0) a1 a2).bind (fun r8 => (some (((va_up r6.1 0 r8) 0 0 3), (va_up r6.1 0 r8), r6.2))))) else some ((-3), Y, o)))))
abbrev rmX4_visit : Room := { frames := 2, cells := 0, slots := 0, locals := 43 }
set_option maxHeartbeats 4000000 in
set_option maxRecDepth 100000 in
theorem c_X4_visit (l : Launch) (E : En) (aY : Nat → Nat → Nat) (ao : Nat → Nat) (Y : YS) (o : OS) (a1 : Int32) (a2 : Int32) (r : Int32 × YS × OS) (h : fX4_visit Y o a1 a2 = some r) : Met l yX4_visit (kX4_visit :: BIG) rmX4_visit (Pk E [.ref (ao 0), .int a1, .int a2] (CW E aY ao Y o)) (QW (some (.int r.1)) (AC aY ao) (CW E aY ao r.2.1 r.2.2)) 0 0 (AC aY ao) := by
  refine Mb (by decide) (Nat.le_of_ble_eq_true rfl) ?_
  intro p e s m below meth c ls hx hb hr hlk hB hown hml _ hK hw hl
  have hS : va_S (AC aY ao) s.heap s.heap [] := va_S.rf
  have hl : lv_has ls 3 [(0, .ref (ao 0)), (1, .int a1), (2, .int a2)] := hl
  rw [fX4_visit] at h
  refine lv_aload_n hx hb dX4_visit_0 rfl (lv_at hl 0 rfl) ?_
  refine gX4_19 hx hb hB hown hK hw dX4_visit_1 ?_
  refine lv_iload_n hx hb dX4_visit_4 rfl (lv_at hl 1 rfl) ?_
  obtain ⟨r1, e1, h⟩ := ob h
  refine k_VR ⟨hx, hb, hml, hown, hB⟩ (c_X3_hasDead l E (aY 0) (Y 0) a1 r1 e1) (clX4_91 hB rfl rfl ⟨Nat.le_of_ble_eq_true rfl, Nat.le_of_ble_eq_true rfl⟩) hK (hw.yd (by decide)) (rvY hK (hw.yd (by decide))) rfl hl.1 rfl (Nat.le_of_ble_eq_true rfl) dX4_visit_5 ⟨Nat.zero_le _, Nat.zero_le _⟩ ?_
  refine lv_if_eq (tgt := 18) hx hb dX4_visit_8 (by decide) (fun g2 => ?_) (fun g2 => ?_)
  · rw [if_pos g2] at h
    refine lv_iconst (v := (-1)) hx hb dX4_visit_18 (by decide) ?_
    cases h
    exact e_zW hx hb hr hlk rfl rfl hw hS dX4_visit_19
  · rw [if_neg g2] at h
    refine lv_iload_n hx hb dX4_visit_11 rfl (lv_at hl 2 rfl) ?_
    obtain ⟨r3, e3, h⟩ := ob h
    refine k_SR ⟨hx, hb, hml, hown, hB⟩ (c_X4_isMinutes l E a2 r3 e3) (clX4_152 hB rfl rfl ⟨Nat.le_of_ble_eq_true rfl, Nat.le_of_ble_eq_true rfl⟩) hK trivial rfl hl.1 rfl (Nat.le_of_ble_eq_true rfl) dX4_visit_12 ⟨Nat.zero_le _, Nat.zero_le _⟩ ?_
    refine lv_if_ne (tgt := 20) hx hb dX4_visit_15 (by decide) (fun g4 => ?_) (fun g4 => ?_)
    · rw [if_neg g4] at h
      refine lv_aload_n hx hb dX4_visit_20 rfl (lv_at hl 0 rfl) ?_
      refine gX4_19 hx hb hB hown hK hw dX4_visit_21 ?_
      refine gX4_155 hx hb hB hown hK (hw.yd (by decide)) dX4_visit_24 ?_
      refine lv_bipush (v := 6) hx hb dX4_visit_27 (by decide) ?_
      refine lv_icmp_lt (tgt := 35) hx hb dX4_visit_29 (by decide) (fun g5 => ?_) (fun g5 => ?_)
      · rw [if_pos g5] at h
        refine lv_aload_n hx hb dX4_visit_35 rfl (lv_at hl 0 rfl) ?_
        refine gX4_41 hx hb hB hown hK hw dX4_visit_36 ?_
        refine lv_aload_n hx hb dX4_visit_39 rfl (lv_at hl 0 rfl) ?_
        refine gX4_19 hx hb hB hown hK hw dX4_visit_40 ?_
        obtain ⟨r6, e6, h⟩ := ob h
        refine k_VWv ⟨hx, hb, hml, hown, hB⟩ (c_X1_put_p l E aY ao Y o 0 (by decide) r6 e6) (clX4_134 hB rfl rfl ⟨Nat.le_of_ble_eq_true rfl, Nat.le_of_ble_eq_true rfl⟩) hK hw (rvO13 hK hw) rfl hl.1 rfl (Nat.le_of_ble_eq_true rfl) dX4_visit_43 ⟨Nat.zero_le _, Nat.zero_le _⟩ hS (fun _ z => z) (fun H7 L7 hw _ _ hS => ?_)
        refine lv_aload_n hx hb dX4_visit_46 rfl (lv_at hl 0 rfl) ?_
        refine gX4_19 hx hb hB hown hK hw dX4_visit_47 ?_
        refine lv_iload_n hx hb dX4_visit_50 rfl (lv_at hl 1 rfl) ?_
        refine lv_iload_n hx hb dX4_visit_51 rfl (lv_at hl 2 rfl) ?_
        obtain ⟨r8, e8, h⟩ := ob h
        refine k_VWv ⟨hx, hb, hml, hown, hB⟩ (c_X3_addVisitor l E (aY 0) (r6.1 0) a1 a2 r8 e8) (clX4_158 hB rfl rfl ⟨Nat.le_of_ble_eq_true rfl, Nat.le_of_ble_eq_true rfl⟩) hK (hw.yd (by decide)) (rvY hK (hw.yd (by decide))) rfl hl.1 rfl (Nat.le_of_ble_eq_true rfl) dX4_visit_52 ⟨Nat.zero_le _, Nat.zero_le _⟩ hS (AC.ofY (by decide)) (fun H9 L9 hy _ hk hS => ?_)
        have hw := hw.wy (by decide) hy hk
        refine lv_aload_n hx hb dX4_visit_55 rfl (lv_at hl 0 rfl) ?_
        refine gX4_19 hx hb hB hown hK hw dX4_visit_56 ?_
        refine gX4_155 hx hb hB hown hK (hw.yd (by decide)) dX4_visit_59 ?_
        cases h
        exact e_zW hx hb hr hlk rfl rfl hw hS dX4_visit_62
      · rw [if_neg g5] at h
        refine lv_bipush (v := (-3)) hx hb dX4_visit_32 (by decide) ?_
        cases h
        exact e_zW hx hb hr hlk rfl rfl hw hS dX4_visit_34
    · rw [if_pos g4] at h
      refine lv_iconst (v := (-1)) hx hb dX4_visit_18 (by decide) ?_
      cases h
      exact e_zW hx hb hr hlk rfl rfl hw hS dX4_visit_19
def fX4_undo (Y : YS) (o : OS) : Option (Int32 × YS × OS) := if (o 13 0) = 0 then some ((-2), Y, o) else (fX1_take_p Y o 0).bind (fun r2 => (some ((r2.2 13 0), r2.1, r2.2)))
abbrev rmX4_undo : Room := { frames := 2, cells := 0, slots := 0, locals := 43 }
set_option maxHeartbeats 4000000 in
set_option maxRecDepth 100000 in
theorem c_X4_undo (l : Launch) (E : En) (aY : Nat → Nat → Nat) (ao : Nat → Nat) (Y : YS) (o : OS) (r : Int32 × YS × OS) (h : fX4_undo Y o = some r) : Met l yX4_undo (kX4_undo :: BIG) rmX4_undo (Pk E [.ref (ao 0)] (CW E aY ao Y o)) (QW (some (.int r.1)) (AC aY ao) (CW E aY ao r.2.1 r.2.2)) 0 0 (AC aY ao) := by
  refine Mb (by decide) (Nat.le_of_ble_eq_true rfl) ?_
  intro p e s m below meth c ls hx hb hr hlk hB hown hml _ hK hw hl
  have hS : va_S (AC aY ao) s.heap s.heap [] := va_S.rf
  have hl : lv_has ls 1 [(0, .ref (ao 0))] := hl
  rw [fX4_undo] at h
  refine lv_aload_n hx hb dX4_undo_0 rfl (lv_at hl 0 rfl) ?_
  refine gX4_41 hx hb hB hown hK hw dX4_undo_1 ?_
  refine gpX4_161 hx hb hB hown hK hw dX4_undo_4 ?_
  refine lv_if_ne (tgt := 13) hx hb dX4_undo_7 (by decide) (fun g1 => ?_) (fun g1 => ?_)
  · rw [if_neg g1] at h
    refine lv_aload_n hx hb dX4_undo_13 rfl (lv_at hl 0 rfl) ?_
    refine gX4_41 hx hb hB hown hK hw dX4_undo_14 ?_
    refine lv_aload_n hx hb dX4_undo_17 rfl (lv_at hl 0 rfl) ?_
    refine gX4_19 hx hb hB hown hK hw dX4_undo_18 ?_
    obtain ⟨r2, e2, h⟩ := ob h
    refine k_VWv ⟨hx, hb, hml, hown, hB⟩ (c_X1_take_p l E aY ao Y o 0 (by decide) r2 e2) (clX4_164 hB rfl rfl ⟨Nat.le_of_ble_eq_true rfl, Nat.le_of_ble_eq_true rfl⟩) hK hw (rvO13 hK hw) rfl hl.1 rfl (Nat.le_of_ble_eq_true rfl) dX4_undo_21 ⟨Nat.zero_le _, Nat.zero_le _⟩ hS (fun _ z => z) (fun H3 L3 hw _ _ hS => ?_)
    refine lv_aload_n hx hb dX4_undo_24 rfl (lv_at hl 0 rfl) ?_
    refine gX4_41 hx hb hB hown hK hw dX4_undo_25 ?_
    refine gpX4_161 hx hb hB hown hK hw dX4_undo_28 ?_
    cases h
    exact e_zW hx hb hr hlk rfl rfl hw hS dX4_undo_31
  · rw [if_pos g1] at h
    refine lv_bipush (v := (-2)) hx hb dX4_undo_10 (by decide) ?_
    cases h
    exact e_zW hx hb hr hlk rfl rfl hw hS dX4_undo_12
def fX4_layByRight (Y : YS) (o : OS) (i1 : Nat) : Option (YS × OS) := (fX3_copyFrom Y o 1 i1).bind (fun r1 => ((fX3_digAllAnew (r1.1 1)).bind (fun r3 => (some ((va_up r1.1 1 r3), r1.2)))))
abbrev rmX4_layByRight : Room := { frames := 4, cells := 0, slots := 0, locals := 95 }
set_option maxHeartbeats 4000000 in
set_option maxRecDepth 100000 in
theorem c_X4_layByRight (l : Launch) (E : En) (aY : Nat → Nat → Nat) (ao : Nat → Nat) (Y : YS) (o : OS) (i1 : Nat) (hi1 : i1 < 13) (r : YS × OS) (h : fX4_layByRight Y o i1 = some r) : Met l yX4_layByRight (kX4_layByRight :: BIG) rmX4_layByRight (Pk E [.ref (ao 0), .ref (aY i1 0)] (CW E aY ao Y o)) (QW none (AC aY ao) (CW E aY ao r.1 r.2)) 0 0 (AC aY ao) := by
  refine Mb (by decide) (Nat.le_of_ble_eq_true rfl) ?_
  intro p e s m below meth c ls hx hb hr hlk hB hown hml _ hK hw hl
  have hS : va_S (AC aY ao) s.heap s.heap [] := va_S.rf
  have hl : lv_has ls 2 [(0, .ref (ao 0)), (1, .ref (aY i1 0))] := hl
  rw [fX4_layByRight] at h
  refine lv_aload_n hx hb dX4_layByRight_0 rfl (lv_at hl 0 rfl) ?_
  refine gX4_23 hx hb hB hown hK hw dX4_layByRight_1 ?_
  refine lv_aload_n hx hb dX4_layByRight_4 rfl (lv_at hl 1 rfl) ?_
  obtain ⟨r1, e1, h⟩ := ob h
  refine k_VWv ⟨hx, hb, hml, hown, hB⟩ (c_X3_copyFrom l E aY ao Y o 1 i1 (by decide) hi1 r1 e1) (clX4_81 hB rfl rfl ⟨Nat.le_of_ble_eq_true rfl, Nat.le_of_ble_eq_true rfl⟩) hK hw (rvY hK (hw.yd (by decide))) rfl hl.1 rfl (Nat.le_of_ble_eq_true rfl) dX4_layByRight_5 ⟨Nat.zero_le _, Nat.zero_le _⟩ hS (fun _ z => z) (fun H2 L2 hw _ _ hS => ?_)
  refine lv_aload_n hx hb dX4_layByRight_8 rfl (lv_at hl 0 rfl) ?_
  refine gX4_23 hx hb hB hown hK hw dX4_layByRight_9 ?_
  obtain ⟨r3, e3, h⟩ := ob h
  refine k_VWv ⟨hx, hb, hml, hown, hB⟩ (c_X3_digAllAnew l E (aY 1) (r1.1 1) r3 e3) (clX4_202 hB rfl rfl ⟨Nat.le_of_ble_eq_true rfl, Nat.le_of_ble_eq_true rfl⟩) hK (hw.yd (by decide)) (rvY hK (hw.yd (by decide))) rfl hl.1 rfl (Nat.le_of_ble_eq_true rfl) dX4_layByRight_12 ⟨Nat.zero_le _, Nat.zero_le _⟩ hS (AC.ofY (by decide)) (fun H4 L4 hy _ hk hS => ?_)
  have hw := hw.wy (by decide) hy hk
  cases h
  exact e_vW hx hb hr hlk hw hS dX4_layByRight_15
def fX4_right (Y : YS) (o : OS) (a1 : Int32) : Option (Int32 × YS × OS) := (fX3_hasDead (Y 0) a1).bind (fun r1 => (if r1 = 0 then some ((-1), Y, o) else (fX4_layByRight Y o 0).bind (fun r3 => ((fX3_plotOf (r3.1 1) a1).bind (fun r5 => (some (r5, r3.1, r3.2)))))))
abbrev rmX4_right : Room := { frames := 5, cells := 0, slots := 0, locals := 116 }
set_option maxHeartbeats 4000000 in
set_option maxRecDepth 100000 in
theorem c_X4_right (l : Launch) (E : En) (aY : Nat → Nat → Nat) (ao : Nat → Nat) (Y : YS) (o : OS) (a1 : Int32) (r : Int32 × YS × OS) (h : fX4_right Y o a1 = some r) : Met l yX4_right (kX4_right :: BIG) rmX4_right (Pk E [.ref (ao 0), .int a1] (CW E aY ao Y o)) (QW (some (.int r.1)) (AC aY ao) (CW E aY ao r.2.1 r.2.2)) 0 0 (AC aY ao) := by
  refine Mb (by decide) (Nat.le_of_ble_eq_true rfl) ?_
  intro p e s m below meth c ls hx hb hr hlk hB hown hml _ hK hw hl
  have hS : va_S (AC aY ao) s.heap s.heap [] := va_S.rf
  have hl : lv_has ls 2 [(0, .ref (ao 0)), (1, .int a1)] := hl
  rw [fX4_right] at h
  refine lv_aload_n hx hb dX4_right_0 rfl (lv_at hl 0 rfl) ?_
  refine gX4_19 hx hb hB hown hK hw dX4_right_1 ?_
  refine lv_iload_n hx hb dX4_right_4 rfl (lv_at hl 1 rfl) ?_
  obtain ⟨r1, e1, h⟩ := ob h
  refine k_VR ⟨hx, hb, hml, hown, hB⟩ (c_X3_hasDead l E (aY 0) (Y 0) a1 r1 e1) (clX4_91 hB rfl rfl ⟨Nat.le_of_ble_eq_true rfl, Nat.le_of_ble_eq_true rfl⟩) hK (hw.yd (by decide)) (rvY hK (hw.yd (by decide))) rfl hl.1 rfl (Nat.le_of_ble_eq_true rfl) dX4_right_5 ⟨Nat.zero_le _, Nat.zero_le _⟩ ?_
  refine lv_if_ne (tgt := 13) hx hb dX4_right_8 (by decide) (fun g2 => ?_) (fun g2 => ?_)
  · rw [if_neg g2] at h
    refine lv_aload_n hx hb dX4_right_13 rfl (lv_at hl 0 rfl) ?_
    refine lv_aload_n hx hb dX4_right_14 rfl (lv_at hl 0 rfl) ?_
    refine gX4_19 hx hb hB hown hK hw dX4_right_15 ?_
    obtain ⟨r3, e3, h⟩ := ob h
    refine k_VWv ⟨hx, hb, hml, hown, hB⟩ (c_X4_layByRight l E aY ao Y o 0 (by decide) r3 e3) (clX4_167 hB rfl rfl ⟨Nat.le_of_ble_eq_true rfl, Nat.le_of_ble_eq_true rfl⟩) hK hw (rvO0 hK hw) rfl hl.1 rfl (Nat.le_of_ble_eq_true rfl) dX4_right_18 ⟨Nat.zero_le _, Nat.zero_le _⟩ hS (fun _ z => z) (fun H4 L4 hw _ _ hS => ?_)
    refine lv_aload_n hx hb dX4_right_21 rfl (lv_at hl 0 rfl) ?_
    refine gX4_23 hx hb hB hown hK hw dX4_right_22 ?_
    refine lv_iload_n hx hb dX4_right_25 rfl (lv_at hl 1 rfl) ?_
    obtain ⟨r5, e5, h⟩ := ob h
    refine k_VR ⟨hx, hb, hml, hown, hB⟩ (c_X3_plotOf l E (aY 1) (r3.1 1) a1 r5 e5) (clX4_105 hB rfl rfl ⟨Nat.le_of_ble_eq_true rfl, Nat.le_of_ble_eq_true rfl⟩) hK (hw.yd (by decide)) (rvY hK (hw.yd (by decide))) rfl hl.1 rfl (Nat.le_of_ble_eq_true rfl) dX4_right_26 ⟨Nat.zero_le _, Nat.zero_le _⟩ ?_
    cases h
    exact e_zW hx hb hr hlk rfl rfl hw hS dX4_right_29
  · rw [if_pos g2] at h
    refine lv_iconst (v := (-1)) hx hb dX4_right_11 (by decide) ?_
    cases h
    exact e_zW hx hb hr hlk rfl rfl hw hS dX4_right_12
def fX4_movedIn_L9 (i1 : Nat) (Y_9 : YS) (o_9 : OS) : Nat → Int32 → Int32 → Option (Int32 × YS × OS)
  | 0, _, _ => none
  | n_9 + 1, v2_9, v3_9 => if (Y_9 i1 0 2) ≤ v3_9 then some (v2_9, Y_9, o_9) else (fX3_plotOf (Y_9 i1) v3_9).bind (fun r2 => ((fX3_plotOf (Y_9 1) v3_9).bind (fun r3 => (if r2 = r3 then fX4_movedIn_L9 i1 Y_9 o_9 n_9 v2_9 (v3_9 + 1) else fX4_movedIn_L9 i1 Y_9 o_9 n_9 (v2_9 ||| (1 <<< (v3_9 &&& 31))) (v3_9 + 1)))))
def fX4_movedIn (Y : YS) (o : OS) (i1 : Nat) : Option (Int32 × YS × OS) := (fX4_layByRight Y o i1).bind (fun r5 => (fX4_movedIn_L9 i1 r5.1 r5.2 FU 0 0))
abbrev rmX4_movedIn : Room := { frames := 5, cells := 0, slots := 0, locals := 116 }
set_option maxHeartbeats 4000000 in
set_option maxRecDepth 100000 in
theorem c_X4_movedIn (l : Launch) (E : En) (aY : Nat → Nat → Nat) (ao : Nat → Nat) (Y : YS) (o : OS) (i1 : Nat) (hi1 : i1 < 13) (r : Int32 × YS × OS) (h : fX4_movedIn Y o i1 = some r) : Met l yX4_movedIn (kX4_movedIn :: BIG) rmX4_movedIn (Pk E [.ref (ao 0), .ref (aY i1 0)] (CW E aY ao Y o)) (QW (some (.int r.1)) (AC aY ao) (CW E aY ao r.2.1 r.2.2)) 0 0 (AC aY ao) := by
  refine Mb (by decide) (Nat.le_of_ble_eq_true rfl) ?_
  intro p e s m below meth c ls hx hb hr hlk hB hown hml _ hK hw hl
  have hS : va_S (AC aY ao) s.heap s.heap [] := va_S.rf
  have hl : lv_has ls 4 [(0, .ref (ao 0)), (1, .ref (aY i1 0))] := hl
  rw [fX4_movedIn] at h
  have hL9 : ∀ (n_9 : Nat) (v2_9 : Int32) (v3_9 : Int32) (Y_9 : YS) (o_9 : OS) (H_9 : Heap) (L_9 : List Loc) (ls_9 : Array Slot), lv_has ls_9 4 [(0, .ref (ao 0)), (1, .ref (aY i1 0)), (2, .int v2_9), (3, .int v3_9)] → CW E aY ao Y_9 o_9 H_9 → va_S (AC aY ao) s.heap H_9 L_9 → fX4_movedIn_L9 i1 Y_9 o_9 n_9 v2_9 v3_9 = some r → W p l e rmX4_movedIn s m ([.ref (ao 0), .ref (aY i1 0)] : List Value).toArray below meth c H_9 L_9 0 0 (MQ below (QW (some (.int r.1)) (AC aY ao) (CW E aY ao r.2.1 r.2.2)) ([.ref (ao 0), .ref (aY i1 0)] : List Value).toArray s 0 0 (AC aY ao)) (F0 m 9 ls_9 []) := by
    intro n_9
    induction n_9 with
    | zero =>
      intro v2_9 v3_9 Y_9 o_9 H_9 L_9 ls_9 hl hw hS h
      exact nn h
    | succ n_9 ih_9 =>
      intro v2_9 v3_9 Y_9 o_9 H_9 L_9 ls_9 hl hw hS h
      rw [fX4_movedIn_L9] at h
      refine lv_iload_n hx hb dX4_movedIn_9 rfl (lv_at hl 3 rfl) ?_
      refine lv_aload_n hx hb dX4_movedIn_10 rfl (lv_at hl 1 rfl) ?_
      refine gX4_78 hx hb hB hown hK (hw.yd hi1) dX4_movedIn_11 ?_
      refine lv_icmp_ge (tgt := 45) hx hb dX4_movedIn_14 (by decide) (fun g1 => ?_) (fun g1 => ?_)
      · rw [if_pos g1] at h
        refine lv_iload_n hx hb dX4_movedIn_45 rfl (lv_at hl 2 rfl) ?_
        cases h
        exact e_zW hx hb hr hlk rfl rfl hw hS dX4_movedIn_46
      · rw [if_neg g1] at h
        refine lv_aload_n hx hb dX4_movedIn_17 rfl (lv_at hl 1 rfl) ?_
        refine lv_iload_n hx hb dX4_movedIn_18 rfl (lv_at hl 3 rfl) ?_
        obtain ⟨r2, e2, h⟩ := ob h
        refine k_VR ⟨hx, hb, hml, hown, hB⟩ (c_X3_plotOf l E (aY i1) (Y_9 i1) v3_9 r2 e2) (clX4_105 hB rfl rfl ⟨Nat.le_of_ble_eq_true rfl, Nat.le_of_ble_eq_true rfl⟩) hK (hw.yd hi1) (rvY hK (hw.yd hi1)) rfl hl.1 rfl (Nat.le_of_ble_eq_true rfl) dX4_movedIn_19 ⟨Nat.zero_le _, Nat.zero_le _⟩ ?_
        refine lv_aload_n hx hb dX4_movedIn_22 rfl (lv_at hl 0 rfl) ?_
        refine gX4_23 hx hb hB hown hK hw dX4_movedIn_23 ?_
        refine lv_iload_n hx hb dX4_movedIn_26 rfl (lv_at hl 3 rfl) ?_
        obtain ⟨r3, e3, h⟩ := ob h
        refine k_VR ⟨hx, hb, hml, hown, hB⟩ (c_X3_plotOf l E (aY 1) (Y_9 1) v3_9 r3 e3) (clX4_105 hB rfl rfl ⟨Nat.le_of_ble_eq_true rfl, Nat.le_of_ble_eq_true rfl⟩) hK (hw.yd (by decide)) (rvY hK (hw.yd (by decide))) rfl hl.1 rfl (Nat.le_of_ble_eq_true rfl) dX4_movedIn_27 ⟨Nat.zero_le _, Nat.zero_le _⟩ ?_
        refine lv_icmp_eq (tgt := 39) hx hb dX4_movedIn_30 (by decide) (fun g4 => ?_) (fun g4 => ?_)
        · rw [if_pos g4] at h
          refine lv_iinc (v := (v3_9 + 1)) (lv' := [(3, .int (v3_9 + 1)), (0, .ref (ao 0)), (1, .ref (aY i1 0)), (2, .int v2_9)]) hx hb dX4_movedIn_39 hl (k := 3) rfl rfl (by decide) rfl (fun ls hl => ?_)
          refine lv_goto (tgt := 9) hx hb dX4_movedIn_42 (by decide) ?_
          exact ih_9 v2_9 (v3_9 + 1) Y_9 o_9 _ _ _ (lv_sub hl [1, 2, 3, 0] rfl) hw hS h
        · rw [if_neg g4] at h
          refine lv_iload_n hx hb dX4_movedIn_33 rfl (lv_at hl 2 rfl) ?_
          refine lv_iconst (v := 1) hx hb dX4_movedIn_34 (by decide) ?_
          refine lv_iload_n hx hb dX4_movedIn_35 rfl (lv_at hl 3 rfl) ?_
          refine lv_ishl hx hb dX4_movedIn_36 ?_
          refine lv_ior hx hb dX4_movedIn_37 ?_
          refine lv_istore_n (lv' := [(2, .int (v2_9 ||| (1 <<< (v3_9 &&& 31)))), (0, .ref (ao 0)), (1, .ref (aY i1 0)), (3, .int v3_9)]) hx hb dX4_movedIn_38 rfl hl (by decide) rfl (fun ls hl => ?_)
          refine lv_iinc (v := (v3_9 + 1)) (lv' := [(3, .int (v3_9 + 1)), (2, .int (v2_9 ||| (1 <<< (v3_9 &&& 31)))), (0, .ref (ao 0)), (1, .ref (aY i1 0))]) hx hb dX4_movedIn_39 hl (k := 3) rfl rfl (by decide) rfl (fun ls hl => ?_)
          refine lv_goto (tgt := 9) hx hb dX4_movedIn_42 (by decide) ?_
          exact ih_9 (v2_9 ||| (1 <<< (v3_9 &&& 31))) (v3_9 + 1) Y_9 o_9 _ _ _ (lv_sub hl [2, 3, 1, 0] rfl) hw hS h
  refine lv_aload_n hx hb dX4_movedIn_0 rfl (lv_at hl 0 rfl) ?_
  refine lv_aload_n hx hb dX4_movedIn_1 rfl (lv_at hl 1 rfl) ?_
  obtain ⟨r5, e5, h⟩ := ob h
  refine k_VWv ⟨hx, hb, hml, hown, hB⟩ (c_X4_layByRight l E aY ao Y o i1 hi1 r5 e5) (clX4_167 hB rfl rfl ⟨Nat.le_of_ble_eq_true rfl, Nat.le_of_ble_eq_true rfl⟩) hK hw (rvO0 hK hw) rfl hl.1 rfl (Nat.le_of_ble_eq_true rfl) dX4_movedIn_2 ⟨Nat.zero_le _, Nat.zero_le _⟩ hS (fun _ z => z) (fun H6 L6 hw _ _ hS => ?_)
  refine lv_iconst (v := 0) hx hb dX4_movedIn_5 (by decide) ?_
  refine lv_istore_n (lv' := [(2, .int 0), (0, .ref (ao 0)), (1, .ref (aY i1 0))]) hx hb dX4_movedIn_6 rfl hl (by decide) rfl (fun ls hl => ?_)
  refine lv_iconst (v := 0) hx hb dX4_movedIn_7 (by decide) ?_
  refine lv_istore_n (lv' := [(3, .int 0), (2, .int 0), (0, .ref (ao 0)), (1, .ref (aY i1 0))]) hx hb dX4_movedIn_8 rfl hl (by decide) rfl (fun ls hl => ?_)
  exact hL9 FU 0 0 r5.1 r5.2 _ _ _ (lv_sub hl [2, 3, 1, 0] rfl) hw hS h
def fX4_moved (Y : YS) (o : OS) : Option (Int32 × YS × OS) := (fX4_movedIn Y o 0).bind (fun r1 => (some (r1.1, r1.2.1, r1.2.2)))
abbrev rmX4_moved : Room := { frames := 6, cells := 0, slots := 0, locals := 139 }
set_option maxHeartbeats 4000000 in
set_option maxRecDepth 100000 in
theorem c_X4_moved (l : Launch) (E : En) (aY : Nat → Nat → Nat) (ao : Nat → Nat) (Y : YS) (o : OS) (r : Int32 × YS × OS) (h : fX4_moved Y o = some r) : Met l yX4_moved (kX4_moved :: BIG) rmX4_moved (Pk E [.ref (ao 0)] (CW E aY ao Y o)) (QW (some (.int r.1)) (AC aY ao) (CW E aY ao r.2.1 r.2.2)) 0 0 (AC aY ao) := by
  refine Mb (by decide) (Nat.le_of_ble_eq_true rfl) ?_
  intro p e s m below meth c ls hx hb hr hlk hB hown hml _ hK hw hl
  have hS : va_S (AC aY ao) s.heap s.heap [] := va_S.rf
  have hl : lv_has ls 1 [(0, .ref (ao 0))] := hl
  rw [fX4_moved] at h
  refine lv_aload_n hx hb dX4_moved_0 rfl (lv_at hl 0 rfl) ?_
  refine lv_aload_n hx hb dX4_moved_1 rfl (lv_at hl 0 rfl) ?_
  refine gX4_19 hx hb hB hown hK hw dX4_moved_2 ?_
  obtain ⟨r1, e1, h⟩ := ob h
  refine k_VWi ⟨hx, hb, hml, hown, hB⟩ (c_X4_movedIn l E aY ao Y o 0 (by decide) r1 e1) (clX4_170 hB rfl rfl ⟨Nat.le_of_ble_eq_true rfl, Nat.le_of_ble_eq_true rfl⟩) hK hw (rvO0 hK hw) rfl hl.1 rfl (Nat.le_of_ble_eq_true rfl) dX4_moved_5 ⟨Nat.zero_le _, Nat.zero_le _⟩ hS (fun _ z => z) (fun H2 L2 hw _ _ hS => ?_)
  cases h
  exact e_zW hx hb hr hlk rfl rfl hw hS dX4_moved_8
def fX4_mend (Y : YS) (o : OS) (a1 : Int32) : Option (Int32 × YS × OS) := (fX4_isSide a1).bind (fun r1 => (if r1 = 0 then some ((-1), Y, o) else (fX4_layByRight Y o 0).bind (fun r3 => ((fX3_fewestChanges (r3.1 0) (r3.1 1) a1).bind (fun r5 => (some (r5, r3.1, r3.2)))))))
abbrev rmX4_mend : Room := { frames := 5, cells := 0, slots := 0, locals := 120 }
set_option maxHeartbeats 4000000 in
set_option maxRecDepth 100000 in
theorem c_X4_mend (l : Launch) (E : En) (aY : Nat → Nat → Nat) (ao : Nat → Nat) (Y : YS) (o : OS) (a1 : Int32) (r : Int32 × YS × OS) (h : fX4_mend Y o a1 = some r) : Met l yX4_mend (kX4_mend :: BIG) rmX4_mend (Pk E [.ref (ao 0), .int a1] (CW E aY ao Y o)) (QW (some (.int r.1)) (AC aY ao) (CW E aY ao r.2.1 r.2.2)) 0 0 (AC aY ao) := by
  refine Mb (by decide) (Nat.le_of_ble_eq_true rfl) ?_
  intro p e s m below meth c ls hx hb hr hlk hB hown hml _ hK hw hl
  have hS : va_S (AC aY ao) s.heap s.heap [] := va_S.rf
  have hl : lv_has ls 2 [(0, .ref (ao 0)), (1, .int a1)] := hl
  rw [fX4_mend] at h
  refine lv_iload_n hx hb dX4_mend_0 rfl (lv_at hl 1 rfl) ?_
  obtain ⟨r1, e1, h⟩ := ob h
  refine k_SR ⟨hx, hb, hml, hown, hB⟩ (c_X4_isSide l E a1 r1 e1) (clX4_111 hB rfl rfl ⟨Nat.le_of_ble_eq_true rfl, Nat.le_of_ble_eq_true rfl⟩) hK trivial rfl hl.1 rfl (Nat.le_of_ble_eq_true rfl) dX4_mend_1 ⟨Nat.zero_le _, Nat.zero_le _⟩ ?_
  refine lv_if_ne (tgt := 9) hx hb dX4_mend_4 (by decide) (fun g2 => ?_) (fun g2 => ?_)
  · rw [if_neg g2] at h
    refine lv_aload_n hx hb dX4_mend_9 rfl (lv_at hl 0 rfl) ?_
    refine lv_aload_n hx hb dX4_mend_10 rfl (lv_at hl 0 rfl) ?_
    refine gX4_19 hx hb hB hown hK hw dX4_mend_11 ?_
    obtain ⟨r3, e3, h⟩ := ob h
    refine k_VWv ⟨hx, hb, hml, hown, hB⟩ (c_X4_layByRight l E aY ao Y o 0 (by decide) r3 e3) (clX4_167 hB rfl rfl ⟨Nat.le_of_ble_eq_true rfl, Nat.le_of_ble_eq_true rfl⟩) hK hw (rvO0 hK hw) rfl hl.1 rfl (Nat.le_of_ble_eq_true rfl) dX4_mend_14 ⟨Nat.zero_le _, Nat.zero_le _⟩ hS (fun _ z => z) (fun H4 L4 hw _ _ hS => ?_)
    refine lv_aload_n hx hb dX4_mend_17 rfl (lv_at hl 0 rfl) ?_
    refine gX4_19 hx hb hB hown hK hw dX4_mend_18 ?_
    refine lv_iload_n hx hb dX4_mend_21 rfl (lv_at hl 1 rfl) ?_
    refine lv_aload_n hx hb dX4_mend_22 rfl (lv_at hl 0 rfl) ?_
    refine gX4_23 hx hb hB hown hK hw dX4_mend_23 ?_
    obtain ⟨r5, e5, h⟩ := ob h
    refine k_VR ⟨hx, hb, hml, hown, hB⟩ (c_X3_fewestChanges l E (aY 0) (aY 1) (r3.1 0) (r3.1 1) a1 r5 e5) (clX4_173 hB rfl rfl ⟨Nat.le_of_ble_eq_true rfl, Nat.le_of_ble_eq_true rfl⟩) hK ⟨(hw.yd (by decide)), (hw.yd (by decide))⟩ (rvY hK (hw.yd (by decide))) rfl hl.1 rfl (Nat.le_of_ble_eq_true rfl) dX4_mend_26 ⟨Nat.zero_le _, Nat.zero_le _⟩ ?_
    cases h
    exact e_zW hx hb hr hlk rfl rfl hw hS dX4_mend_29
  · rw [if_pos g2] at h
    refine lv_iconst (v := (-1)) hx hb dX4_mend_7 (by decide) ?_
    cases h
    exact e_zW hx hb hr hlk rfl rfl hw hS dX4_mend_8
def fX4_grudge_L12 (Y_12 : YS) (o_12 : OS) : Nat → Int32 → Int32 → Option (Int32 × YS × OS)
  | 0, _, _ => none
  | n_12 + 1, v1_12, v2_12 => if (Y_12 0 0 2) ≤ v2_12 then some (v1_12, Y_12, o_12) else (fX3_plotOf (Y_12 0) v2_12).bind (fun r2 => ((fX3_plotOf (Y_12 1) v2_12).bind (fun r3 => (if r2 = (-4) then fX4_grudge_L12 Y_12 o_12 n_12 v1_12 (v2_12 + 1) else if r3 = (-4) then fX4_grudge_L12 Y_12 o_12 n_12 v1_12 (v2_12 + 1) else if r2 ≤ r3 then fX4_grudge_L12 Y_12 o_12 n_12 v1_12 (v2_12 + 1) else fX4_grudge_L12 Y_12 o_12 n_12 (v1_12 + (r2 - r3)) (v2_12 + 1)))))
def fX4_grudge (Y : YS) (o : OS) : Option (Int32 × YS × OS) := (fX4_layByRight Y o 0).bind (fun r7 => (fX4_grudge_L12 r7.1 r7.2 FU 0 0))
abbrev rmX4_grudge : Room := { frames := 5, cells := 0, slots := 0, locals := 116 }
set_option maxHeartbeats 4000000 in
set_option maxRecDepth 100000 in
theorem c_X4_grudge (l : Launch) (E : En) (aY : Nat → Nat → Nat) (ao : Nat → Nat) (Y : YS) (o : OS) (r : Int32 × YS × OS) (h : fX4_grudge Y o = some r) : Met l yX4_grudge (kX4_grudge :: BIG) rmX4_grudge (Pk E [.ref (ao 0)] (CW E aY ao Y o)) (QW (some (.int r.1)) (AC aY ao) (CW E aY ao r.2.1 r.2.2)) 0 0 (AC aY ao) := by
  refine Mb (by decide) (Nat.le_of_ble_eq_true rfl) ?_
  intro p e s m below meth c ls hx hb hr hlk hB hown hml _ hK hw hl
  have hS : va_S (AC aY ao) s.heap s.heap [] := va_S.rf
  have hl : lv_has ls 5 [(0, .ref (ao 0))] := hl
  rw [fX4_grudge] at h
  have hL12 : ∀ (n_12 : Nat) (v1_12 : Int32) (v2_12 : Int32) (Y_12 : YS) (o_12 : OS) (H_12 : Heap) (L_12 : List Loc) (ls_12 : Array Slot), lv_has ls_12 5 [(0, .ref (ao 0)), (1, .int v1_12), (2, .int v2_12)] → CW E aY ao Y_12 o_12 H_12 → va_S (AC aY ao) s.heap H_12 L_12 → fX4_grudge_L12 Y_12 o_12 n_12 v1_12 v2_12 = some r → W p l e rmX4_grudge s m ([.ref (ao 0)] : List Value).toArray below meth c H_12 L_12 0 0 (MQ below (QW (some (.int r.1)) (AC aY ao) (CW E aY ao r.2.1 r.2.2)) ([.ref (ao 0)] : List Value).toArray s 0 0 (AC aY ao)) (F0 m 12 ls_12 []) := by
    intro n_12
    induction n_12 with
    | zero =>
      intro v1_12 v2_12 Y_12 o_12 H_12 L_12 ls_12 hl hw hS h
      exact nn h
    | succ n_12 ih_12 =>
      intro v1_12 v2_12 Y_12 o_12 H_12 L_12 ls_12 hl hw hS h
      rw [fX4_grudge_L12] at h
      refine lv_iload_n hx hb dX4_grudge_12 rfl (lv_at hl 2 rfl) ?_
      refine lv_aload_n hx hb dX4_grudge_13 rfl (lv_at hl 0 rfl) ?_
      refine gX4_19 hx hb hB hown hK hw dX4_grudge_14 ?_
      refine gX4_78 hx hb hB hown hK (hw.yd (by decide)) dX4_grudge_17 ?_
      refine lv_icmp_ge (tgt := 74) hx hb dX4_grudge_20 (by decide) (fun g1 => ?_) (fun g1 => ?_)
      · rw [if_pos g1] at h
        refine lv_iload_n hx hb dX4_grudge_74 rfl (lv_at hl 1 rfl) ?_
        cases h
        exact e_zW hx hb hr hlk rfl rfl hw hS dX4_grudge_75
      · rw [if_neg g1] at h
        refine lv_aload_n hx hb dX4_grudge_23 rfl (lv_at hl 0 rfl) ?_
        refine gX4_19 hx hb hB hown hK hw dX4_grudge_24 ?_
        refine lv_iload_n hx hb dX4_grudge_27 rfl (lv_at hl 2 rfl) ?_
        obtain ⟨r2, e2, h⟩ := ob h
        refine k_VR ⟨hx, hb, hml, hown, hB⟩ (c_X3_plotOf l E (aY 0) (Y_12 0) v2_12 r2 e2) (clX4_105 hB rfl rfl ⟨Nat.le_of_ble_eq_true rfl, Nat.le_of_ble_eq_true rfl⟩) hK (hw.yd (by decide)) (rvY hK (hw.yd (by decide))) rfl hl.1 rfl (Nat.le_of_ble_eq_true rfl) dX4_grudge_28 ⟨Nat.zero_le _, Nat.zero_le _⟩ ?_
        refine lv_istore_n (lv' := [(3, .int r2), (0, .ref (ao 0)), (1, .int v1_12), (2, .int v2_12)]) hx hb dX4_grudge_31 rfl hl (by decide) rfl (fun ls hl => ?_)
        refine lv_aload_n hx hb dX4_grudge_32 rfl (lv_at hl 1 rfl) ?_
        refine gX4_23 hx hb hB hown hK hw dX4_grudge_33 ?_
        refine lv_iload_n hx hb dX4_grudge_36 rfl (lv_at hl 3 rfl) ?_
        obtain ⟨r3, e3, h⟩ := ob h
        refine k_VR ⟨hx, hb, hml, hown, hB⟩ (c_X3_plotOf l E (aY 1) (Y_12 1) v2_12 r3 e3) (clX4_105 hB rfl rfl ⟨Nat.le_of_ble_eq_true rfl, Nat.le_of_ble_eq_true rfl⟩) hK (hw.yd (by decide)) (rvY hK (hw.yd (by decide))) rfl hl.1 rfl (Nat.le_of_ble_eq_true rfl) dX4_grudge_37 ⟨Nat.zero_le _, Nat.zero_le _⟩ ?_
        refine lv_istore (lv' := [(4, .int r3), (3, .int r2), (0, .ref (ao 0)), (1, .int v1_12), (2, .int v2_12)]) hx hb dX4_grudge_40 hl (by decide) rfl (fun ls hl => ?_)
        refine lv_iload_n hx hb dX4_grudge_42 rfl (lv_at hl 1 rfl) ?_
        refine lv_bipush (v := (-4)) hx hb dX4_grudge_43 (by decide) ?_
        refine lv_icmp_eq (tgt := 68) hx hb dX4_grudge_45 (by decide) (fun g4 => ?_) (fun g4 => ?_)
        · rw [if_pos g4] at h
          refine lv_iinc (v := (v2_12 + 1)) (lv' := [(2, .int (v2_12 + 1)), (4, .int r3), (3, .int r2), (0, .ref (ao 0)), (1, .int v1_12)]) hx hb dX4_grudge_68 hl (k := 4) rfl rfl (by decide) rfl (fun ls hl => ?_)
          refine lv_goto (tgt := 12) hx hb dX4_grudge_71 (by decide) ?_
          exact ih_12 v1_12 (v2_12 + 1) Y_12 o_12 _ _ _ (lv_sub hl [3, 4, 0] rfl) hw hS h
        · rw [if_neg g4] at h
          refine lv_iload hx hb dX4_grudge_48 (lv_at hl 0 rfl) ?_
          refine lv_bipush (v := (-4)) hx hb dX4_grudge_50 (by decide) ?_
          refine lv_icmp_eq (tgt := 68) hx hb dX4_grudge_52 (by decide) (fun g5 => ?_) (fun g5 => ?_)
          · rw [if_pos g5] at h
            refine lv_iinc (v := (v2_12 + 1)) (lv' := [(2, .int (v2_12 + 1)), (4, .int r3), (3, .int r2), (0, .ref (ao 0)), (1, .int v1_12)]) hx hb dX4_grudge_68 hl (k := 4) rfl rfl (by decide) rfl (fun ls hl => ?_)
            refine lv_goto (tgt := 12) hx hb dX4_grudge_71 (by decide) ?_
            exact ih_12 v1_12 (v2_12 + 1) Y_12 o_12 _ _ _ (lv_sub hl [3, 4, 0] rfl) hw hS h
          · rw [if_neg g5] at h
            refine lv_iload hx hb dX4_grudge_55 (lv_at hl 0 rfl) ?_
            refine lv_iload_n hx hb dX4_grudge_57 rfl (lv_at hl 1 rfl) ?_
            refine lv_icmp_ge (tgt := 68) hx hb dX4_grudge_58 (by decide) (fun g6 => ?_) (fun g6 => ?_)
            · rw [if_pos g6] at h
              refine lv_iinc (v := (v2_12 + 1)) (lv' := [(2, .int (v2_12 + 1)), (4, .int r3), (3, .int r2), (0, .ref (ao 0)), (1, .int v1_12)]) hx hb dX4_grudge_68 hl (k := 4) rfl rfl (by decide) rfl (fun ls hl => ?_)
              refine lv_goto (tgt := 12) hx hb dX4_grudge_71 (by decide) ?_
              exact ih_12 v1_12 (v2_12 + 1) Y_12 o_12 _ _ _ (lv_sub hl [3, 4, 0] rfl) hw hS h
            · rw [if_neg g6] at h
              refine lv_iload_n hx hb dX4_grudge_61 rfl (lv_at hl 3 rfl) ?_
              refine lv_iload_n hx hb dX4_grudge_62 rfl (lv_at hl 1 rfl) ?_
              refine lv_iload hx hb dX4_grudge_63 (lv_at hl 0 rfl) ?_
              refine lv_isub hx hb dX4_grudge_65 ?_
              refine lv_iadd hx hb dX4_grudge_66 ?_
              refine lv_istore_n (lv' := [(1, .int (v1_12 + (r2 - r3))), (4, .int r3), (3, .int r2), (0, .ref (ao 0)), (2, .int v2_12)]) hx hb dX4_grudge_67 rfl hl (by decide) rfl (fun ls hl => ?_)
              refine lv_iinc (v := (v2_12 + 1)) (lv' := [(2, .int (v2_12 + 1)), (1, .int (v1_12 + (r2 - r3))), (4, .int r3), (3, .int r2), (0, .ref (ao 0))]) hx hb dX4_grudge_68 hl (k := 4) rfl rfl (by decide) rfl (fun ls hl => ?_)
              refine lv_goto (tgt := 12) hx hb dX4_grudge_71 (by decide) ?_
              exact ih_12 (v1_12 + (r2 - r3)) (v2_12 + 1) Y_12 o_12 _ _ _ (lv_sub hl [4, 1, 0] rfl) hw hS h
  refine lv_aload_n hx hb dX4_grudge_0 rfl (lv_at hl 0 rfl) ?_
  refine lv_aload_n hx hb dX4_grudge_1 rfl (lv_at hl 0 rfl) ?_
  refine gX4_19 hx hb hB hown hK hw dX4_grudge_2 ?_
  obtain ⟨r7, e7, h⟩ := ob h
  refine k_VWv ⟨hx, hb, hml, hown, hB⟩ (c_X4_layByRight l E aY ao Y o 0 (by decide) r7 e7) (clX4_167 hB rfl rfl ⟨Nat.le_of_ble_eq_true rfl, Nat.le_of_ble_eq_true rfl⟩) hK hw (rvO0 hK hw) rfl hl.1 rfl (Nat.le_of_ble_eq_true rfl) dX4_grudge_5 ⟨Nat.zero_le _, Nat.zero_le _⟩ hS (fun _ z => z) (fun H8 L8 hw _ _ hS => ?_)
  refine lv_iconst (v := 0) hx hb dX4_grudge_8 (by decide) ?_
  refine lv_istore_n (lv' := [(1, .int 0), (0, .ref (ao 0))]) hx hb dX4_grudge_9 rfl hl (by decide) rfl (fun ls hl => ?_)
  refine lv_iconst (v := 0) hx hb dX4_grudge_10 (by decide) ?_
  refine lv_istore_n (lv' := [(2, .int 0), (1, .int 0), (0, .ref (ao 0))]) hx hb dX4_grudge_11 rfl hl (by decide) rfl (fun ls hl => ?_)
  exact hL12 FU 0 0 r7.1 r7.2 _ _ _ (lv_sub hl [2, 1, 0] rfl) hw hS h
def fX4_takes (Y : YS) (o : OS) (a1 : Int32) : Option (Int32 × YS × OS) := if a1 = 0 then (fX0_gather Y o 0).bind (fun r2 => (if a1 = 1 then (fX0_minutesByNumber r2.1 r2.2 1).bind (fun r7 => (some (r7.1, r7.2.1, r7.2.2))) else (fX0_minutesByNumber r2.1 r2.2 0).bind (fun r5 => (some (r5.1, r5.2.1, r5.2.2))))) else if a1 = 1 then (fX0_gather Y o 0).bind (fun r10 => (if a1 = 1 then (fX0_minutesByNumber r10.1 r10.2 1).bind (fun r15 => (some (r15.1, r15.2.1, r15.2.2))) else (fX0_minutesByNumber r10.1 r10.2 0).bind (fun r13 => (some (r13.1, r13.2.1, r13.2.2))))) else some ((-1), Y, o)
abbrev rmX4_takes : Room := { frames := 5, cells := 0, slots := 0, locals := 125 }
set_option maxHeartbeats 4000000 in
set_option maxRecDepth 100000 in
theorem c_X4_takes (l : Launch) (E : En) (aY : Nat → Nat → Nat) (ao : Nat → Nat) (Y : YS) (o : OS) (a1 : Int32) (r : Int32 × YS × OS) (h : fX4_takes Y o a1 = some r) : Met l yX4_takes (kX4_takes :: BIG) rmX4_takes (Pk E [.ref (ao 0), .int a1] (CW E aY ao Y o)) (QW (some (.int r.1)) (AC aY ao) (CW E aY ao r.2.1 r.2.2)) 0 0 (AC aY ao) := by
  refine Mb (by decide) (Nat.le_of_ble_eq_true rfl) ?_
  intro p e s m below meth c ls hx hb hr hlk hB hown hml _ hK hw hl
  have hS : va_S (AC aY ao) s.heap s.heap [] := va_S.rf
  have hl : lv_has ls 2 [(0, .ref (ao 0)), (1, .int a1)] := hl
  rw [fX4_takes] at h
  refine lv_iload_n hx hb dX4_takes_0 rfl (lv_at hl 1 rfl) ?_
  refine lv_if_eq (tgt := 11) hx hb dX4_takes_1 (by decide) (fun g1 => ?_) (fun g1 => ?_)
  · rw [if_pos g1] at h
    refine lv_aload_n hx hb dX4_takes_11 rfl (lv_at hl 0 rfl) ?_
    refine gX4_32 hx hb hB hown hK hw dX4_takes_12 ?_
    refine lv_aload_n hx hb dX4_takes_15 rfl (lv_at hl 0 rfl) ?_
    refine gX4_19 hx hb hB hown hK hw dX4_takes_16 ?_
    obtain ⟨r2, e2, h⟩ := ob h
    refine k_VWv ⟨hx, hb, hml, hown, hB⟩ (c_X0_gather l E aY ao Y o 0 (by decide) r2 e2) (clX4_177 hB rfl rfl ⟨Nat.le_of_ble_eq_true rfl, Nat.le_of_ble_eq_true rfl⟩) hK hw (rvO6 hK hw) rfl hl.1 rfl (Nat.le_of_ble_eq_true rfl) dX4_takes_19 ⟨Nat.zero_le _, Nat.zero_le _⟩ hS (fun _ z => z) (fun H3 L3 hw _ _ hS => ?_)
    refine lv_aload_n hx hb dX4_takes_22 rfl (lv_at hl 0 rfl) ?_
    refine gX4_32 hx hb hB hown hK hw dX4_takes_23 ?_
    refine lv_iload_n hx hb dX4_takes_26 rfl (lv_at hl 1 rfl) ?_
    refine lv_iconst (v := 1) hx hb dX4_takes_27 (by decide) ?_
    refine lv_icmp_ne (tgt := 35) hx hb dX4_takes_28 (by decide) (fun g4 => ?_) (fun g4 => ?_)
    · rw [if_neg g4] at h
      refine lv_iconst (v := 0) hx hb dX4_takes_35 (by decide) ?_
      obtain ⟨r5, e5, h⟩ := ob h
      refine k_VWi ⟨hx, hb, hml, hown, hB⟩ (c_X0_minutesByNumber l E aY ao r2.1 r2.2 0 r5 e5) (clX4_180 hB rfl rfl ⟨Nat.le_of_ble_eq_true rfl, Nat.le_of_ble_eq_true rfl⟩) hK hw (rvO6 hK hw) rfl hl.1 rfl (Nat.le_of_ble_eq_true rfl) dX4_takes_36 ⟨Nat.zero_le _, Nat.zero_le _⟩ hS (fun _ z => z) (fun H6 L6 hw _ _ hS => ?_)
      cases h
      exact e_zW hx hb hr hlk rfl rfl hw hS dX4_takes_39
    · rw [if_pos g4] at h
      refine lv_iconst (v := 1) hx hb dX4_takes_31 (by decide) ?_
      refine lv_goto (tgt := 36) hx hb dX4_takes_32 (by decide) ?_
      obtain ⟨r7, e7, h⟩ := ob h
      refine k_VWi ⟨hx, hb, hml, hown, hB⟩ (c_X0_minutesByNumber l E aY ao r2.1 r2.2 1 r7 e7) (clX4_180 hB rfl rfl ⟨Nat.le_of_ble_eq_true rfl, Nat.le_of_ble_eq_true rfl⟩) hK hw (rvO6 hK hw) rfl hl.1 rfl (Nat.le_of_ble_eq_true rfl) dX4_takes_36 ⟨Nat.zero_le _, Nat.zero_le _⟩ hS (fun _ z => z) (fun H8 L8 hw _ _ hS => ?_)
      cases h
      exact e_zW hx hb hr hlk rfl rfl hw hS dX4_takes_39
  · rw [if_neg g1] at h
    refine lv_iload_n hx hb dX4_takes_4 rfl (lv_at hl 1 rfl) ?_
    refine lv_iconst (v := 1) hx hb dX4_takes_5 (by decide) ?_
    refine lv_icmp_eq (tgt := 11) hx hb dX4_takes_6 (by decide) (fun g9 => ?_) (fun g9 => ?_)
    · rw [if_pos g9] at h
      refine lv_aload_n hx hb dX4_takes_11 rfl (lv_at hl 0 rfl) ?_
      refine gX4_32 hx hb hB hown hK hw dX4_takes_12 ?_
      refine lv_aload_n hx hb dX4_takes_15 rfl (lv_at hl 0 rfl) ?_
      refine gX4_19 hx hb hB hown hK hw dX4_takes_16 ?_
      obtain ⟨r10, e10, h⟩ := ob h
      refine k_VWv ⟨hx, hb, hml, hown, hB⟩ (c_X0_gather l E aY ao Y o 0 (by decide) r10 e10) (clX4_177 hB rfl rfl ⟨Nat.le_of_ble_eq_true rfl, Nat.le_of_ble_eq_true rfl⟩) hK hw (rvO6 hK hw) rfl hl.1 rfl (Nat.le_of_ble_eq_true rfl) dX4_takes_19 ⟨Nat.zero_le _, Nat.zero_le _⟩ hS (fun _ z => z) (fun H11 L11 hw _ _ hS => ?_)
      refine lv_aload_n hx hb dX4_takes_22 rfl (lv_at hl 0 rfl) ?_
      refine gX4_32 hx hb hB hown hK hw dX4_takes_23 ?_
      refine lv_iload_n hx hb dX4_takes_26 rfl (lv_at hl 1 rfl) ?_
      refine lv_iconst (v := 1) hx hb dX4_takes_27 (by decide) ?_
      refine lv_icmp_ne (tgt := 35) hx hb dX4_takes_28 (by decide) (fun g12 => ?_) (fun g12 => ?_)
      · rw [if_neg g12] at h
        refine lv_iconst (v := 0) hx hb dX4_takes_35 (by decide) ?_
        obtain ⟨r13, e13, h⟩ := ob h
        refine k_VWi ⟨hx, hb, hml, hown, hB⟩ (c_X0_minutesByNumber l E aY ao r10.1 r10.2 0 r13 e13) (clX4_180 hB rfl rfl ⟨Nat.le_of_ble_eq_true rfl, Nat.le_of_ble_eq_true rfl⟩) hK hw (rvO6 hK hw) rfl hl.1 rfl (Nat.le_of_ble_eq_true rfl) dX4_takes_36 ⟨Nat.zero_le _, Nat.zero_le _⟩ hS (fun _ z => z) (fun H14 L14 hw _ _ hS => ?_)
        cases h
        exact e_zW hx hb hr hlk rfl rfl hw hS dX4_takes_39
      · rw [if_pos g12] at h
        refine lv_iconst (v := 1) hx hb dX4_takes_31 (by decide) ?_
        refine lv_goto (tgt := 36) hx hb dX4_takes_32 (by decide) ?_
        obtain ⟨r15, e15, h⟩ := ob h
        refine k_VWi ⟨hx, hb, hml, hown, hB⟩ (c_X0_minutesByNumber l E aY ao r10.1 r10.2 1 r15 e15) (clX4_180 hB rfl rfl ⟨Nat.le_of_ble_eq_true rfl, Nat.le_of_ble_eq_true rfl⟩) hK hw (rvO6 hK hw) rfl hl.1 rfl (Nat.le_of_ble_eq_true rfl) dX4_takes_36 ⟨Nat.zero_le _, Nat.zero_le _⟩ hS (fun _ z => z) (fun H16 L16 hw _ _ hS => ?_)
        cases h
        exact e_zW hx hb hr hlk rfl rfl hw hS dX4_takes_39
    · rw [if_neg g9] at h
      refine lv_iconst (v := (-1)) hx hb dX4_takes_9 (by decide) ?_
      cases h
      exact e_zW hx hb hr hlk rfl rfl hw hS dX4_takes_10
def fX4_tour (Y : YS) (o : OS) (a1 : Int32) : Option (Int32 × YS × OS) := if (-1) ≤ a1 then (fX0_gather Y o 0).bind (fun r2 => (if (r2.2 6 0) = 0 then some ((-4), r2.1, r2.2) else (fX0_tryAllOrders r2.1 r2.2).bind (fun r5 => (if a1 = (-1) then (fX0_soonestOf r5.1 r5.2 (r5.2 6 0)).bind (fun r9 => (some (r9, r5.1, r5.2))) else (fX0_inBestOrder r5.1 r5.2 a1).bind (fun r8 => (some (r8, r5.1, r5.2))))))) else some ((-1), Y, o)
abbrev rmX4_tour : Room := { frames := 14, cells := 0, slots := 0, locals := 469 }
set_option maxHeartbeats 4000000 in
set_option maxRecDepth 100000 in
theorem c_X4_tour (l : Launch) (E : En) (aY : Nat → Nat → Nat) (ao : Nat → Nat) (Y : YS) (o : OS) (a1 : Int32) (r : Int32 × YS × OS) (h : fX4_tour Y o a1 = some r) : Met l yX4_tour (kX4_tour :: BIG) rmX4_tour (Pk E [.ref (ao 0), .int a1] (CW E aY ao Y o)) (QW (some (.int r.1)) (AC aY ao) (CW E aY ao r.2.1 r.2.2)) 0 0 (AC aY ao) := by
  refine Mb (by decide) (Nat.le_of_ble_eq_true rfl) ?_
  intro p e s m below meth c ls hx hb hr hlk hB hown hml _ hK hw hl
  have hS : va_S (AC aY ao) s.heap s.heap [] := va_S.rf
  have hl : lv_has ls 2 [(0, .ref (ao 0)), (1, .int a1)] := hl
  rw [fX4_tour] at h
  refine lv_iload_n hx hb dX4_tour_0 rfl (lv_at hl 1 rfl) ?_
  refine lv_iconst (v := (-1)) hx hb dX4_tour_1 (by decide) ?_
  refine lv_icmp_ge (tgt := 7) hx hb dX4_tour_2 (by decide) (fun g1 => ?_) (fun g1 => ?_)
  · rw [if_pos g1] at h
    refine lv_aload_n hx hb dX4_tour_7 rfl (lv_at hl 0 rfl) ?_
    refine gX4_32 hx hb hB hown hK hw dX4_tour_8 ?_
    refine lv_aload_n hx hb dX4_tour_11 rfl (lv_at hl 0 rfl) ?_
    refine gX4_19 hx hb hB hown hK hw dX4_tour_12 ?_
    obtain ⟨r2, e2, h⟩ := ob h
    refine k_VWv ⟨hx, hb, hml, hown, hB⟩ (c_X0_gather l E aY ao Y o 0 (by decide) r2 e2) (clX4_177 hB rfl rfl ⟨Nat.le_of_ble_eq_true rfl, Nat.le_of_ble_eq_true rfl⟩) hK hw (rvO6 hK hw) rfl hl.1 rfl (Nat.le_of_ble_eq_true rfl) dX4_tour_15 ⟨Nat.zero_le _, Nat.zero_le _⟩ hS (fun _ z => z) (fun H3 L3 hw _ _ hS => ?_)
    refine lv_aload_n hx hb dX4_tour_18 rfl (lv_at hl 0 rfl) ?_
    refine gX4_32 hx hb hB hown hK hw dX4_tour_19 ?_
    refine gX4_184 hx hb hB hown hK hw dX4_tour_22 ?_
    refine lv_if_ne (tgt := 31) hx hb dX4_tour_25 (by decide) (fun g4 => ?_) (fun g4 => ?_)
    · rw [if_neg g4] at h
      refine lv_aload_n hx hb dX4_tour_31 rfl (lv_at hl 0 rfl) ?_
      refine gX4_32 hx hb hB hown hK hw dX4_tour_32 ?_
      obtain ⟨r5, e5, h⟩ := ob h
      refine k_VWv ⟨hx, hb, hml, hown, hB⟩ (c_X0_tryAllOrders l E aY ao r2.1 r2.2 r5 e5) (clX4_187 hB rfl rfl ⟨Nat.le_of_ble_eq_true rfl, Nat.le_of_ble_eq_true rfl⟩) hK hw (rvO6 hK hw) rfl hl.1 rfl (Nat.le_of_ble_eq_true rfl) dX4_tour_35 ⟨Nat.zero_le _, Nat.zero_le _⟩ hS (fun _ z => z) (fun H6 L6 hw _ _ hS => ?_)
      refine lv_iload_n hx hb dX4_tour_38 rfl (lv_at hl 1 rfl) ?_
      refine lv_iconst (v := (-1)) hx hb dX4_tour_39 (by decide) ?_
      refine lv_icmp_ne (tgt := 60) hx hb dX4_tour_40 (by decide) (fun g7 => ?_) (fun g7 => ?_)
      · rw [if_neg g7] at h
        refine lv_aload_n hx hb dX4_tour_60 rfl (lv_at hl 0 rfl) ?_
        refine gX4_32 hx hb hB hown hK hw dX4_tour_61 ?_
        refine lv_iload_n hx hb dX4_tour_64 rfl (lv_at hl 1 rfl) ?_
        obtain ⟨r8, e8, h⟩ := ob h
        refine k_VR ⟨hx, hb, hml, hown, hB⟩ (c_X0_inBestOrder l E aY ao r5.1 r5.2 a1 r8 e8) (clX4_193 hB rfl rfl ⟨Nat.le_of_ble_eq_true rfl, Nat.le_of_ble_eq_true rfl⟩) hK hw (rvO6 hK hw) rfl hl.1 rfl (Nat.le_of_ble_eq_true rfl) dX4_tour_65 ⟨Nat.zero_le _, Nat.zero_le _⟩ ?_
        cases h
        exact e_zW hx hb hr hlk rfl rfl hw hS dX4_tour_68
      · rw [if_pos g7] at h
        refine lv_aload_n hx hb dX4_tour_43 rfl (lv_at hl 0 rfl) ?_
        refine gX4_32 hx hb hB hown hK hw dX4_tour_44 ?_
        refine lv_aload_n hx hb dX4_tour_47 rfl (lv_at hl 0 rfl) ?_
        refine gX4_32 hx hb hB hown hK hw dX4_tour_48 ?_
        refine gX4_184 hx hb hB hown hK hw dX4_tour_51 ?_
        obtain ⟨r9, e9, h⟩ := ob h
        refine k_VR ⟨hx, hb, hml, hown, hB⟩ (c_X0_soonestOf l E aY ao r5.1 r5.2 (r5.2 6 0) r9 e9) (clX4_190 hB rfl rfl ⟨Nat.le_of_ble_eq_true rfl, Nat.le_of_ble_eq_true rfl⟩) hK hw (rvO6 hK hw) rfl hl.1 rfl (Nat.le_of_ble_eq_true rfl) dX4_tour_54 ⟨Nat.zero_le _, Nat.zero_le _⟩ ?_
        refine lv_goto (tgt := 68) hx hb dX4_tour_57 (by decide) ?_
        cases h
        exact e_zW hx hb hr hlk rfl rfl hw hS dX4_tour_68
    · rw [if_pos g4] at h
      refine lv_bipush (v := (-4)) hx hb dX4_tour_28 (by decide) ?_
      cases h
      exact e_zW hx hb hr hlk rfl rfl hw hS dX4_tour_30
  · rw [if_neg g1] at h
    refine lv_iconst (v := (-1)) hx hb dX4_tour_5 (by decide) ?_
    cases h
    exact e_zW hx hb hr hlk rfl rfl hw hS dX4_tour_6
def fX4_enough (Y : YS) (o : OS) : Option (Int32 × YS × OS) := (fX0_gather Y o 0).bind (fun r1 => ((fX0_tryAllOrders r1.1 r1.2).bind (fun r3 => ((fX0_soonestOf r3.1 r3.2 (r3.2 6 0)).bind (fun r5 => (if (r3.1 0 0 1) < r5 then some (0, r3.1, r3.2) else some (1, r3.1, r3.2)))))))
abbrev rmX4_enough : Room := { frames := 14, cells := 0, slots := 0, locals := 469 }
set_option maxHeartbeats 4000000 in
set_option maxRecDepth 100000 in
theorem c_X4_enough (l : Launch) (E : En) (aY : Nat → Nat → Nat) (ao : Nat → Nat) (Y : YS) (o : OS) (r : Int32 × YS × OS) (h : fX4_enough Y o = some r) : Met l yX4_enough (kX4_enough :: BIG) rmX4_enough (Pk E [.ref (ao 0)] (CW E aY ao Y o)) (QW (some (.int r.1)) (AC aY ao) (CW E aY ao r.2.1 r.2.2)) 0 0 (AC aY ao) := by
  refine Mb (by decide) (Nat.le_of_ble_eq_true rfl) ?_
  intro p e s m below meth c ls hx hb hr hlk hB hown hml _ hK hw hl
  have hS : va_S (AC aY ao) s.heap s.heap [] := va_S.rf
  have hl : lv_has ls 1 [(0, .ref (ao 0))] := hl
  rw [fX4_enough] at h
  refine lv_aload_n hx hb dX4_enough_0 rfl (lv_at hl 0 rfl) ?_
  refine gX4_32 hx hb hB hown hK hw dX4_enough_1 ?_
  refine lv_aload_n hx hb dX4_enough_4 rfl (lv_at hl 0 rfl) ?_
  refine gX4_19 hx hb hB hown hK hw dX4_enough_5 ?_
  obtain ⟨r1, e1, h⟩ := ob h
  refine k_VWv ⟨hx, hb, hml, hown, hB⟩ (c_X0_gather l E aY ao Y o 0 (by decide) r1 e1) (clX4_177 hB rfl rfl ⟨Nat.le_of_ble_eq_true rfl, Nat.le_of_ble_eq_true rfl⟩) hK hw (rvO6 hK hw) rfl hl.1 rfl (Nat.le_of_ble_eq_true rfl) dX4_enough_8 ⟨Nat.zero_le _, Nat.zero_le _⟩ hS (fun _ z => z) (fun H2 L2 hw _ _ hS => ?_)
  refine lv_aload_n hx hb dX4_enough_11 rfl (lv_at hl 0 rfl) ?_
  refine gX4_32 hx hb hB hown hK hw dX4_enough_12 ?_
  obtain ⟨r3, e3, h⟩ := ob h
  refine k_VWv ⟨hx, hb, hml, hown, hB⟩ (c_X0_tryAllOrders l E aY ao r1.1 r1.2 r3 e3) (clX4_187 hB rfl rfl ⟨Nat.le_of_ble_eq_true rfl, Nat.le_of_ble_eq_true rfl⟩) hK hw (rvO6 hK hw) rfl hl.1 rfl (Nat.le_of_ble_eq_true rfl) dX4_enough_15 ⟨Nat.zero_le _, Nat.zero_le _⟩ hS (fun _ z => z) (fun H4 L4 hw _ _ hS => ?_)
  refine lv_aload_n hx hb dX4_enough_18 rfl (lv_at hl 0 rfl) ?_
  refine gX4_32 hx hb hB hown hK hw dX4_enough_19 ?_
  refine lv_aload_n hx hb dX4_enough_22 rfl (lv_at hl 0 rfl) ?_
  refine gX4_32 hx hb hB hown hK hw dX4_enough_23 ?_
  refine gX4_184 hx hb hB hown hK hw dX4_enough_26 ?_
  obtain ⟨r5, e5, h⟩ := ob h
  refine k_VR ⟨hx, hb, hml, hown, hB⟩ (c_X0_soonestOf l E aY ao r3.1 r3.2 (r3.2 6 0) r5 e5) (clX4_190 hB rfl rfl ⟨Nat.le_of_ble_eq_true rfl, Nat.le_of_ble_eq_true rfl⟩) hK hw (rvO6 hK hw) rfl hl.1 rfl (Nat.le_of_ble_eq_true rfl) dX4_enough_29 ⟨Nat.zero_le _, Nat.zero_le _⟩ ?_
  refine lv_aload_n hx hb dX4_enough_32 rfl (lv_at hl 0 rfl) ?_
  refine gX4_19 hx hb hB hown hK hw dX4_enough_33 ?_
  refine gX4_196 hx hb hB hown hK (hw.yd (by decide)) dX4_enough_36 ?_
  refine lv_icmp_gt (tgt := 46) hx hb dX4_enough_39 (by decide) (fun g6 => ?_) (fun g6 => ?_)
  · rw [if_pos g6] at h
    refine lv_iconst (v := 0) hx hb dX4_enough_46 (by decide) ?_
    cases h
    exact e_zW hx hb hr hlk rfl rfl hw hS dX4_enough_47
  · rw [if_neg g6] at h
    refine lv_iconst (v := 1) hx hb dX4_enough_42 (by decide) ?_
    refine lv_goto (tgt := 47) hx hb dX4_enough_43 (by decide) ?_
    cases h
    exact e_zW hx hb hr hlk rfl rfl hw hS dX4_enough_47
def fX4_leave (Y : YS) (o : OS) : Option (Int32 × YS × OS) := (fX0_gather Y o 0).bind (fun r1 => ((fX0_tryAllOrders r1.1 r1.2).bind (fun r3 => ((fX0_fewestToStay r3.1 r3.2 (r3.1 0 0 1)).bind (fun r5 => (some (r5, r3.1, r3.2)))))))
abbrev rmX4_leave : Room := { frames := 14, cells := 0, slots := 0, locals := 469 }
set_option maxHeartbeats 4000000 in
set_option maxRecDepth 100000 in
theorem c_X4_leave (l : Launch) (E : En) (aY : Nat → Nat → Nat) (ao : Nat → Nat) (Y : YS) (o : OS) (r : Int32 × YS × OS) (h : fX4_leave Y o = some r) : Met l yX4_leave (kX4_leave :: BIG) rmX4_leave (Pk E [.ref (ao 0)] (CW E aY ao Y o)) (QW (some (.int r.1)) (AC aY ao) (CW E aY ao r.2.1 r.2.2)) 0 0 (AC aY ao) := by
  refine Mb (by decide) (Nat.le_of_ble_eq_true rfl) ?_
  intro p e s m below meth c ls hx hb hr hlk hB hown hml _ hK hw hl
  have hS : va_S (AC aY ao) s.heap s.heap [] := va_S.rf
  have hl : lv_has ls 1 [(0, .ref (ao 0))] := hl
  rw [fX4_leave] at h
  refine lv_aload_n hx hb dX4_leave_0 rfl (lv_at hl 0 rfl) ?_
  refine gX4_32 hx hb hB hown hK hw dX4_leave_1 ?_
  refine lv_aload_n hx hb dX4_leave_4 rfl (lv_at hl 0 rfl) ?_
  refine gX4_19 hx hb hB hown hK hw dX4_leave_5 ?_
  obtain ⟨r1, e1, h⟩ := ob h
  refine k_VWv ⟨hx, hb, hml, hown, hB⟩ (c_X0_gather l E aY ao Y o 0 (by decide) r1 e1) (clX4_177 hB rfl rfl ⟨Nat.le_of_ble_eq_true rfl, Nat.le_of_ble_eq_true rfl⟩) hK hw (rvO6 hK hw) rfl hl.1 rfl (Nat.le_of_ble_eq_true rfl) dX4_leave_8 ⟨Nat.zero_le _, Nat.zero_le _⟩ hS (fun _ z => z) (fun H2 L2 hw _ _ hS => ?_)
  refine lv_aload_n hx hb dX4_leave_11 rfl (lv_at hl 0 rfl) ?_
  refine gX4_32 hx hb hB hown hK hw dX4_leave_12 ?_
  obtain ⟨r3, e3, h⟩ := ob h
  refine k_VWv ⟨hx, hb, hml, hown, hB⟩ (c_X0_tryAllOrders l E aY ao r1.1 r1.2 r3 e3) (clX4_187 hB rfl rfl ⟨Nat.le_of_ble_eq_true rfl, Nat.le_of_ble_eq_true rfl⟩) hK hw (rvO6 hK hw) rfl hl.1 rfl (Nat.le_of_ble_eq_true rfl) dX4_leave_15 ⟨Nat.zero_le _, Nat.zero_le _⟩ hS (fun _ z => z) (fun H4 L4 hw _ _ hS => ?_)
  refine lv_aload_n hx hb dX4_leave_18 rfl (lv_at hl 0 rfl) ?_
  refine gX4_32 hx hb hB hown hK hw dX4_leave_19 ?_
  refine lv_aload_n hx hb dX4_leave_22 rfl (lv_at hl 0 rfl) ?_
  refine gX4_19 hx hb hB hown hK hw dX4_leave_23 ?_
  refine gX4_196 hx hb hB hown hK (hw.yd (by decide)) dX4_leave_26 ?_
  obtain ⟨r5, e5, h⟩ := ob h
  refine k_VR ⟨hx, hb, hml, hown, hB⟩ (c_X0_fewestToStay l E aY ao r3.1 r3.2 (r3.1 0 0 1) r5 e5) (clX4_199 hB rfl rfl ⟨Nat.le_of_ble_eq_true rfl, Nat.le_of_ble_eq_true rfl⟩) hK hw (rvO6 hK hw) rfl hl.1 rfl (Nat.le_of_ble_eq_true rfl) dX4_leave_29 ⟨Nat.zero_le _, Nat.zero_le _⟩ ?_
  cases h
  exact e_zW hx hb hr hlk rfl rfl hw hS dX4_leave_32
def fX4_seen (Y : YS) (o : OS) (a1 : Int32) (a2 : Int32) : Option (Int32 × YS × OS) := (fX3_hasDead (Y 0) a1).bind (fun r1 => (if r1 = 0 then some ((-1), Y, o) else (fX3_hasPlot (Y 0) a2).bind (fun r3 => (if r3 = 0 then some ((-1), Y, o) else if (o 0 9) < 0 then some ((-3), Y, o) else if (o 0 9) < 8 then gB (ib (o 0 9) 8) (gB (ib ((u2 o 1 (o 0 9).toNatClampNeg a1) 0 9) 8) (some (((u2 (u2 (u2 o 1 (o 0 9).toNatClampNeg a1) 2 ((u2 o 1 (o 0 9).toNatClampNeg a1) 0 9).toNatClampNeg a2) 0 9 (((u2 (u2 o 1 (o 0 9).toNatClampNeg a1) 2 ((u2 o 1 (o 0 9).toNatClampNeg a1) 0 9).toNatClampNeg a2) 0 9) + 1)) 0 9), Y, (u2 (u2 (u2 o 1 (o 0 9).toNatClampNeg a1) 2 ((u2 o 1 (o 0 9).toNatClampNeg a1) 0 9).toNatClampNeg a2) 0 9 (((u2 (u2 o 1 (o 0 9).toNatClampNeg a1) 2 ((u2 o 1 (o 0 9).toNatClampNeg a1) 0 9).toNatClampNeg a2) 0 9) + 1))))) else some ((-3), Y, o)))))
abbrev rmX4_seen : Room := { frames := 1, cells := 0, slots := 0, locals := 21 }
set_option maxHeartbeats 4000000 in
set_option maxRecDepth 100000 in
theorem c_X4_seen (l : Launch) (E : En) (aY : Nat → Nat → Nat) (ao : Nat → Nat) (Y : YS) (o : OS) (a1 : Int32) (a2 : Int32) (r : Int32 × YS × OS) (h : fX4_seen Y o a1 a2 = some r) : Met l yX4_seen (kX4_seen :: BIG) rmX4_seen (Pk E [.ref (ao 0), .int a1, .int a2] (CW E aY ao Y o)) (QW (some (.int r.1)) (AC aY ao) (CW E aY ao r.2.1 r.2.2)) 0 0 (AC aY ao) := by
  refine Mb (by decide) (Nat.le_of_ble_eq_true rfl) ?_
  intro p e s m below meth c ls hx hb hr hlk hB hown hml _ hK hw hl
  have hS : va_S (AC aY ao) s.heap s.heap [] := va_S.rf
  have hl : lv_has ls 3 [(0, .ref (ao 0)), (1, .int a1), (2, .int a2)] := hl
  rw [fX4_seen] at h
  refine lv_aload_n hx hb dX4_seen_0 rfl (lv_at hl 0 rfl) ?_
  refine gX4_19 hx hb hB hown hK hw dX4_seen_1 ?_
  refine lv_iload_n hx hb dX4_seen_4 rfl (lv_at hl 1 rfl) ?_
  obtain ⟨r1, e1, h⟩ := ob h
  refine k_VR ⟨hx, hb, hml, hown, hB⟩ (c_X3_hasDead l E (aY 0) (Y 0) a1 r1 e1) (clX4_91 hB rfl rfl ⟨Nat.le_of_ble_eq_true rfl, Nat.le_of_ble_eq_true rfl⟩) hK (hw.yd (by decide)) (rvY hK (hw.yd (by decide))) rfl hl.1 rfl (Nat.le_of_ble_eq_true rfl) dX4_seen_5 ⟨Nat.zero_le _, Nat.zero_le _⟩ ?_
  refine lv_if_eq (tgt := 22) hx hb dX4_seen_8 (by decide) (fun g2 => ?_) (fun g2 => ?_)
  · rw [if_pos g2] at h
    refine lv_iconst (v := (-1)) hx hb dX4_seen_22 (by decide) ?_
    cases h
    exact e_zW hx hb hr hlk rfl rfl hw hS dX4_seen_23
  · rw [if_neg g2] at h
    refine lv_aload_n hx hb dX4_seen_11 rfl (lv_at hl 0 rfl) ?_
    refine gX4_19 hx hb hB hown hK hw dX4_seen_12 ?_
    refine lv_iload_n hx hb dX4_seen_15 rfl (lv_at hl 2 rfl) ?_
    obtain ⟨r3, e3, h⟩ := ob h
    refine k_VR ⟨hx, hb, hml, hown, hB⟩ (c_X3_hasPlot l E (aY 0) (Y 0) a2 r3 e3) (clX4_114 hB rfl rfl ⟨Nat.le_of_ble_eq_true rfl, Nat.le_of_ble_eq_true rfl⟩) hK (hw.yd (by decide)) (rvY hK (hw.yd (by decide))) rfl hl.1 rfl (Nat.le_of_ble_eq_true rfl) dX4_seen_16 ⟨Nat.zero_le _, Nat.zero_le _⟩ ?_
    refine lv_if_ne (tgt := 24) hx hb dX4_seen_19 (by decide) (fun g4 => ?_) (fun g4 => ?_)
    · rw [if_neg g4] at h
      refine lv_aload_n hx hb dX4_seen_24 rfl (lv_at hl 0 rfl) ?_
      refine gX4_88 hx hb hB hown hK hw dX4_seen_25 ?_
      refine lv_if_lt (tgt := 40) hx hb dX4_seen_28 (by decide) (fun g5 => ?_) (fun g5 => ?_)
      · rw [if_pos g5] at h
        refine lv_bipush (v := (-3)) hx hb dX4_seen_40 (by decide) ?_
        cases h
        exact e_zW hx hb hr hlk rfl rfl hw hS dX4_seen_42
      · rw [if_neg g5] at h
        refine lv_aload_n hx hb dX4_seen_31 rfl (lv_at hl 0 rfl) ?_
        refine gX4_88 hx hb hB hown hK hw dX4_seen_32 ?_
        refine lv_bipush (v := 8) hx hb dX4_seen_35 (by decide) ?_
        refine lv_icmp_lt (tgt := 43) hx hb dX4_seen_37 (by decide) (fun g6 => ?_) (fun g6 => ?_)
        · rw [if_pos g6] at h
          refine lv_aload_n hx hb dX4_seen_43 rfl (lv_at hl 0 rfl) ?_
          refine gX4_48 hx hb hB hown hK hw dX4_seen_44 ?_
          refine lv_aload_n hx hb dX4_seen_47 rfl (lv_at hl 0 rfl) ?_
          refine gX4_88 hx hb hB hown hK hw dX4_seen_48 ?_
          refine lv_iload_n hx hb dX4_seen_51 rfl (lv_at hl 1 rfl) ?_
          obtain ⟨g7, h⟩ := gB_ok h
          refine sO1 hx hb hK hw hS (fun _ z => z) (ib_ok g7) dX4_seen_52 (fun H8 L8 hw hS => ?_)
          refine lv_aload_n hx hb dX4_seen_53 rfl (lv_at hl 0 rfl) ?_
          refine gX4_52 hx hb hB hown hK hw dX4_seen_54 ?_
          refine lv_aload_n hx hb dX4_seen_57 rfl (lv_at hl 0 rfl) ?_
          refine gX4_88 hx hb hB hown hK hw dX4_seen_58 ?_
          refine lv_iload_n hx hb dX4_seen_61 rfl (lv_at hl 2 rfl) ?_
          obtain ⟨g9, h⟩ := gB_ok h
          refine sO2 hx hb hK hw hS (fun _ z => z) (ib_ok g9) dX4_seen_62 (fun H10 L10 hw hS => ?_)
          refine lv_aload_n hx hb dX4_seen_63 rfl (lv_at hl 0 rfl) ?_
          refine lv_dup hx hb dX4_seen_64 rfl ?_
          refine gX4_88 hx hb hB hown hK hw dX4_seen_65 ?_
          refine lv_iconst (v := 1) hx hb dX4_seen_68 (by decide) ?_
          refine lv_iadd hx hb dX4_seen_69 ?_
          refine pX4_88 hx hb hB hown hK hw hS (fun _ z => z) dX4_seen_70 (fun H11 L11 hw hS => ?_)
          refine lv_aload_n hx hb dX4_seen_73 rfl (lv_at hl 0 rfl) ?_
          refine gX4_88 hx hb hB hown hK hw dX4_seen_74 ?_
          cases h
          exact e_zW hx hb hr hlk rfl rfl hw hS dX4_seen_77
        · rw [if_neg g6] at h
          refine lv_bipush (v := (-3)) hx hb dX4_seen_40 (by decide) ?_
          cases h
          exact e_zW hx hb hr hlk rfl rfl hw hS dX4_seen_42
    · rw [if_pos g4] at h
      refine lv_iconst (v := (-1)) hx hb dX4_seen_22 (by decide) ?_
      cases h
      exact e_zW hx hb hr hlk rfl rfl hw hS dX4_seen_23
def fX4_forget (Y : YS) (o : OS) : Option (Int32 × YS × OS) := some ((o 0 9), Y, (u2 o 0 9 0))
abbrev rmX4_forget : Room := { frames := 0, cells := 0, slots := 0, locals := 0 }
set_option maxHeartbeats 4000000 in
set_option maxRecDepth 100000 in
theorem c_X4_forget (l : Launch) (E : En) (aY : Nat → Nat → Nat) (ao : Nat → Nat) (Y : YS) (o : OS) (r : Int32 × YS × OS) (h : fX4_forget Y o = some r) : Met l yX4_forget (kX4_forget :: BIG) rmX4_forget (Pk E [.ref (ao 0)] (CW E aY ao Y o)) (QW (some (.int r.1)) (AC aY ao) (CW E aY ao r.2.1 r.2.2)) 0 0 (AC aY ao) := by
  refine Mb (by decide) (Nat.le_of_ble_eq_true rfl) ?_
  intro p e s m below meth c ls hx hb hr hlk hB hown hml _ hK hw hl
  have hS : va_S (AC aY ao) s.heap s.heap [] := va_S.rf
  have hl : lv_has ls 2 [(0, .ref (ao 0))] := hl
  rw [fX4_forget] at h
  refine lv_aload_n hx hb dX4_forget_0 rfl (lv_at hl 0 rfl) ?_
  refine gX4_88 hx hb hB hown hK hw dX4_forget_1 ?_
  refine lv_istore_n (lv' := [(1, .int (o 0 9)), (0, .ref (ao 0))]) hx hb dX4_forget_4 rfl hl (by decide) rfl (fun ls hl => ?_)
  refine lv_aload_n hx hb dX4_forget_5 rfl (lv_at hl 1 rfl) ?_
  refine lv_iconst (v := 0) hx hb dX4_forget_6 (by decide) ?_
  refine pX4_88 hx hb hB hown hK hw hS (fun _ z => z) dX4_forget_7 (fun H1 L1 hw hS => ?_)
  refine lv_iload_n hx hb dX4_forget_10 rfl (lv_at hl 0 rfl) ?_
  cases h
  exact e_zW hx hb hr hlk rfl rfl hw hS dX4_forget_11
def fX4_isAllSeenSo_L2 (Y : YS) (o : OS) : Nat → Int32 → Option (Int32)
  | 0, _ => none
  | n_2 + 1, v1_2 => if (o 0 9) ≤ v1_2 then some 1 else if 8 ≤ v1_2 then some 1 else gB (ib v1_2 8) ((fX3_plotOf (Y 1) (o 1 v1_2.toNatClampNeg)).bind (fun r4 => (gB (ib v1_2 8) (if r4 = (o 2 v1_2.toNatClampNeg) then fX4_isAllSeenSo_L2 Y o n_2 (v1_2 + 1) else some 0))))
def fX4_isAllSeenSo (Y : YS) (o : OS) : Option (Int32) := fX4_isAllSeenSo_L2 Y o FU 0
abbrev rmX4_isAllSeenSo : Room := { frames := 3, cells := 0, slots := 0, locals := 67 }
set_option maxHeartbeats 4000000 in
set_option maxRecDepth 100000 in
theorem c_X4_isAllSeenSo (l : Launch) (E : En) (aY : Nat → Nat → Nat) (ao : Nat → Nat) (Y : YS) (o : OS) (r : Int32) (h : fX4_isAllSeenSo Y o = some r) : Met l yX4_isAllSeenSo (kX4_isAllSeenSo :: BIG) rmX4_isAllSeenSo (Pk E [.ref (ao 0)] (CW E aY ao Y o)) (QcRead r) 0 0 (fun _ => False) := by
  refine Mb (by decide) (Nat.le_of_ble_eq_true rfl) ?_
  intro p e s m below meth c ls hx hb hr hlk hB hown hml _ hK hw hl
  have hl : lv_has ls 2 [(0, .ref (ao 0))] := hl
  rw [fX4_isAllSeenSo] at h
  have hL2 : ∀ (n_2 : Nat) (v1_2 : Int32) (ls_2 : Array Slot), lv_has ls_2 2 [(0, .ref (ao 0)), (1, .int v1_2)] → fX4_isAllSeenSo_L2 Y o n_2 v1_2 = some r → W p l e rmX4_isAllSeenSo s m ([.ref (ao 0)] : List Value).toArray below meth c s.heap [] 0 0 (MQ below (QcRead r) ([.ref (ao 0)] : List Value).toArray s 0 0 (fun _ => False)) (F0 m 2 ls_2 []) := by
    intro n_2
    induction n_2 with
    | zero =>
      intro v1_2 ls_2 hl h
      exact nn h
    | succ n_2 ih_2 =>
      intro v1_2 ls_2 hl h
      rw [fX4_isAllSeenSo_L2] at h
      refine lv_iload_n hx hb dX4_isAllSeenSo_2 rfl (lv_at hl 1 rfl) ?_
      refine lv_aload_n hx hb dX4_isAllSeenSo_3 rfl (lv_at hl 0 rfl) ?_
      refine gX4_88 hx hb hB hown hK hw dX4_isAllSeenSo_4 ?_
      refine lv_icmp_ge (tgt := 46) hx hb dX4_isAllSeenSo_7 (by decide) (fun g1 => ?_) (fun g1 => ?_)
      · rw [if_pos g1] at h
        refine lv_iconst (v := 1) hx hb dX4_isAllSeenSo_46 (by decide) ?_
        exact e_zR hx hb hr hlk (by decide) h dX4_isAllSeenSo_47
      · rw [if_neg g1] at h
        refine lv_iload_n hx hb dX4_isAllSeenSo_10 rfl (lv_at hl 1 rfl) ?_
        refine lv_bipush (v := 8) hx hb dX4_isAllSeenSo_11 (by decide) ?_
        refine lv_icmp_ge (tgt := 46) hx hb dX4_isAllSeenSo_13 (by decide) (fun g2 => ?_) (fun g2 => ?_)
        · rw [if_pos g2] at h
          refine lv_iconst (v := 1) hx hb dX4_isAllSeenSo_46 (by decide) ?_
          exact e_zR hx hb hr hlk (by decide) h dX4_isAllSeenSo_47
        · rw [if_neg g2] at h
          refine lv_aload_n hx hb dX4_isAllSeenSo_16 rfl (lv_at hl 0 rfl) ?_
          refine gX4_23 hx hb hB hown hK hw dX4_isAllSeenSo_17 ?_
          refine lv_aload_n hx hb dX4_isAllSeenSo_20 rfl (lv_at hl 0 rfl) ?_
          refine gX4_48 hx hb hB hown hK hw dX4_isAllSeenSo_21 ?_
          refine lv_iload_n hx hb dX4_isAllSeenSo_24 rfl (lv_at hl 1 rfl) ?_
          obtain ⟨g3, h⟩ := gB_ok h
          refine r_ald hx hb hK (aO1 hw) (ib_ok g3) dX4_isAllSeenSo_25 ?_
          obtain ⟨r4, e4, h⟩ := ob h
          refine k_VR ⟨hx, hb, hml, hown, hB⟩ (c_X3_plotOf l E (aY 1) (Y 1) (o 1 v1_2.toNatClampNeg) r4 e4) (clX4_105 hB rfl rfl ⟨Nat.le_of_ble_eq_true rfl, Nat.le_of_ble_eq_true rfl⟩) hK (hw.yd (by decide)) (rvY hK (hw.yd (by decide))) rfl hl.1 rfl (Nat.le_of_ble_eq_true rfl) dX4_isAllSeenSo_26 ⟨Nat.zero_le _, Nat.zero_le _⟩ ?_
          refine lv_aload_n hx hb dX4_isAllSeenSo_29 rfl (lv_at hl 0 rfl) ?_
          refine gX4_52 hx hb hB hown hK hw dX4_isAllSeenSo_30 ?_
          refine lv_iload_n hx hb dX4_isAllSeenSo_33 rfl (lv_at hl 1 rfl) ?_
          obtain ⟨g5, h⟩ := gB_ok h
          refine r_ald hx hb hK (aO2 hw) (ib_ok g5) dX4_isAllSeenSo_34 ?_
          refine lv_icmp_eq (tgt := 40) hx hb dX4_isAllSeenSo_35 (by decide) (fun g6 => ?_) (fun g6 => ?_)
          · rw [if_pos g6] at h
            refine lv_iinc (v := (v1_2 + 1)) (lv' := [(1, .int (v1_2 + 1)), (0, .ref (ao 0))]) hx hb dX4_isAllSeenSo_40 hl (k := 1) rfl rfl (by decide) rfl (fun ls hl => ?_)
            refine lv_goto (tgt := 2) hx hb dX4_isAllSeenSo_43 (by decide) ?_
            exact ih_2 (v1_2 + 1) _ (lv_sub hl [1, 0] rfl) h
          · rw [if_neg g6] at h
            refine lv_iconst (v := 0) hx hb dX4_isAllSeenSo_38 (by decide) ?_
            exact e_zR hx hb hr hlk (by decide) h dX4_isAllSeenSo_39
  refine lv_iconst (v := 0) hx hb dX4_isAllSeenSo_0 (by decide) ?_
  refine lv_istore_n (lv' := [(1, .int 0), (0, .ref (ao 0))]) hx hb dX4_isAllSeenSo_1 rfl hl (by decide) rfl (fun ls hl => ?_)
  exact hL2 FU 0 _ (lv_sub hl [1, 0] rfl) h
def fX4_was_L17 (v1_17 : Int32) : Nat → Int32 → Int32 → YS → OS → Option (Int32 × YS × OS)
  | 0, _, _, _, _ => none
  | n_17 + 1, v2_17, v3_17, Y_17, o_17 => if 9 < v3_17 then some (v2_17, Y_17, o_17) else (fX3_copyFrom Y_17 o_17 1 0).bind (fun r2 => ((fX3_setForgiven (r2.1 1) v1_17 v3_17).bind (fun r4 => ((fX3_digAllAnew ((va_up r2.1 1 r4) 1)).bind (fun r6 => ((fX4_isAllSeenSo (va_up (va_up r2.1 1 r4) 1 r6) r2.2).bind (fun r8 => (if r8 = 0 then fX4_was_L17 v1_17 n_17 v2_17 (v3_17 + 1) (va_up (va_up r2.1 1 r4) 1 r6) r2.2 else fX4_was_L17 v1_17 n_17 (v2_17 ||| (1 <<< (v3_17 &&& 31))) (v3_17 + 1) (va_up (va_up r2.1 1 r4) 1 r6) r2.2))))))))
def fX4_was (Y : YS) (o : OS) (a1 : Int32) : Option (Int32 × YS × OS) := (fX3_hasDead (Y 0) a1).bind (fun r10 => (if r10 = 0 then some ((-1), Y, o) else fX4_was_L17 a1 FU 0 0 Y o))
abbrev rmX4_was : Room := { frames := 4, cells := 0, slots := 0, locals := 95 }
set_option maxHeartbeats 4000000 in
set_option maxRecDepth 100000 in
theorem c_X4_was (l : Launch) (E : En) (aY : Nat → Nat → Nat) (ao : Nat → Nat) (Y : YS) (o : OS) (a1 : Int32) (r : Int32 × YS × OS) (h : fX4_was Y o a1 = some r) : Met l yX4_was (kX4_was :: BIG) rmX4_was (Pk E [.ref (ao 0), .int a1] (CW E aY ao Y o)) (QW (some (.int r.1)) (AC aY ao) (CW E aY ao r.2.1 r.2.2)) 0 0 (AC aY ao) := by
  refine Mb (by decide) (Nat.le_of_ble_eq_true rfl) ?_
  intro p e s m below meth c ls hx hb hr hlk hB hown hml _ hK hw hl
  have hS : va_S (AC aY ao) s.heap s.heap [] := va_S.rf
  have hl : lv_has ls 4 [(0, .ref (ao 0)), (1, .int a1)] := hl
  rw [fX4_was] at h
  have hL17 : ∀ (n_17 : Nat) (v1_17 : Int32) (v2_17 : Int32) (v3_17 : Int32) (Y_17 : YS) (o_17 : OS) (H_17 : Heap) (L_17 : List Loc) (ls_17 : Array Slot), lv_has ls_17 4 [(0, .ref (ao 0)), (1, .int v1_17), (2, .int v2_17), (3, .int v3_17)] → CW E aY ao Y_17 o_17 H_17 → va_S (AC aY ao) s.heap H_17 L_17 → fX4_was_L17 v1_17 n_17 v2_17 v3_17 Y_17 o_17 = some r → W p l e rmX4_was s m ([.ref (ao 0), .int a1] : List Value).toArray below meth c H_17 L_17 0 0 (MQ below (QW (some (.int r.1)) (AC aY ao) (CW E aY ao r.2.1 r.2.2)) ([.ref (ao 0), .int a1] : List Value).toArray s 0 0 (AC aY ao)) (F0 m 17 ls_17 []) := by
    intro n_17
    induction n_17 with
    | zero =>
      intro v1_17 v2_17 v3_17 Y_17 o_17 H_17 L_17 ls_17 hl hw hS h
      exact nn h
    | succ n_17 ih_17 =>
      intro v1_17 v2_17 v3_17 Y_17 o_17 H_17 L_17 ls_17 hl hw hS h
      rw [fX4_was_L17] at h
      refine lv_iload_n hx hb dX4_was_17 rfl (lv_at hl 3 rfl) ?_
      refine lv_bipush (v := 9) hx hb dX4_was_18 (by decide) ?_
      refine lv_icmp_gt (tgt := 69) hx hb dX4_was_20 (by decide) (fun g1 => ?_) (fun g1 => ?_)
      · rw [if_pos g1] at h
        refine lv_iload_n hx hb dX4_was_69 rfl (lv_at hl 2 rfl) ?_
        cases h
        exact e_zW hx hb hr hlk rfl rfl hw hS dX4_was_70
      · rw [if_neg g1] at h
        refine lv_aload_n hx hb dX4_was_23 rfl (lv_at hl 0 rfl) ?_
        refine gX4_23 hx hb hB hown hK hw dX4_was_24 ?_
        refine lv_aload_n hx hb dX4_was_27 rfl (lv_at hl 0 rfl) ?_
        refine gX4_19 hx hb hB hown hK hw dX4_was_28 ?_
        obtain ⟨r2, e2, h⟩ := ob h
        refine k_VWv ⟨hx, hb, hml, hown, hB⟩ (c_X3_copyFrom l E aY ao Y_17 o_17 1 0 (by decide) (by decide) r2 e2) (clX4_81 hB rfl rfl ⟨Nat.le_of_ble_eq_true rfl, Nat.le_of_ble_eq_true rfl⟩) hK hw (rvY hK (hw.yd (by decide))) rfl hl.1 rfl (Nat.le_of_ble_eq_true rfl) dX4_was_31 ⟨Nat.zero_le _, Nat.zero_le _⟩ hS (fun _ z => z) (fun H3 L3 hw _ _ hS => ?_)
        refine lv_aload_n hx hb dX4_was_34 rfl (lv_at hl 0 rfl) ?_
        refine gX4_23 hx hb hB hown hK hw dX4_was_35 ?_
        refine lv_iload_n hx hb dX4_was_38 rfl (lv_at hl 1 rfl) ?_
        refine lv_iload_n hx hb dX4_was_39 rfl (lv_at hl 3 rfl) ?_
        obtain ⟨r4, e4, h⟩ := ob h
        refine k_VWv ⟨hx, hb, hml, hown, hB⟩ (c_X3_setForgiven l E (aY 1) (r2.1 1) v1_17 v3_17 r4 e4) (clX4_148 hB rfl rfl ⟨Nat.le_of_ble_eq_true rfl, Nat.le_of_ble_eq_true rfl⟩) hK (hw.yd (by decide)) (rvY hK (hw.yd (by decide))) rfl hl.1 rfl (Nat.le_of_ble_eq_true rfl) dX4_was_40 ⟨Nat.zero_le _, Nat.zero_le _⟩ hS (AC.ofY (by decide)) (fun H5 L5 hy _ hk hS => ?_)
        have hw := hw.wy (by decide) hy hk
        refine lv_aload_n hx hb dX4_was_43 rfl (lv_at hl 0 rfl) ?_
        refine gX4_23 hx hb hB hown hK hw dX4_was_44 ?_
        obtain ⟨r6, e6, h⟩ := ob h
        refine k_VWv ⟨hx, hb, hml, hown, hB⟩ (c_X3_digAllAnew l E (aY 1) ((va_up r2.1 1 r4) 1) r6 e6) (clX4_202 hB rfl rfl ⟨Nat.le_of_ble_eq_true rfl, Nat.le_of_ble_eq_true rfl⟩) hK (hw.yd (by decide)) (rvY hK (hw.yd (by decide))) rfl hl.1 rfl (Nat.le_of_ble_eq_true rfl) dX4_was_47 ⟨Nat.zero_le _, Nat.zero_le _⟩ hS (AC.ofY (by decide)) (fun H7 L7 hy _ hk hS => ?_)
        have hw := hw.wy (by decide) hy hk
        refine lv_aload_n hx hb dX4_was_50 rfl (lv_at hl 0 rfl) ?_
        obtain ⟨r8, e8, h⟩ := ob h
        refine k_VR ⟨hx, hb, hml, hown, hB⟩ (c_X4_isAllSeenSo l E aY ao (va_up (va_up r2.1 1 r4) 1 r6) r2.2 r8 e8) (clX4_205 hB rfl rfl ⟨Nat.le_of_ble_eq_true rfl, Nat.le_of_ble_eq_true rfl⟩) hK hw (rvO0 hK hw) rfl hl.1 rfl (Nat.le_of_ble_eq_true rfl) dX4_was_51 ⟨Nat.zero_le _, Nat.zero_le _⟩ ?_
        refine lv_if_eq (tgt := 63) hx hb dX4_was_54 (by decide) (fun g9 => ?_) (fun g9 => ?_)
        · rw [if_pos g9] at h
          refine lv_iinc (v := (v3_17 + 1)) (lv' := [(3, .int (v3_17 + 1)), (0, .ref (ao 0)), (1, .int v1_17), (2, .int v2_17)]) hx hb dX4_was_63 hl (k := 3) rfl rfl (by decide) rfl (fun ls hl => ?_)
          refine lv_goto (tgt := 17) hx hb dX4_was_66 (by decide) ?_
          exact ih_17 v1_17 v2_17 (v3_17 + 1) (va_up (va_up r2.1 1 r4) 1 r6) r2.2 _ _ _ (lv_sub hl [1, 2, 3, 0] rfl) hw hS h
        · rw [if_neg g9] at h
          refine lv_iload_n hx hb dX4_was_57 rfl (lv_at hl 2 rfl) ?_
          refine lv_iconst (v := 1) hx hb dX4_was_58 (by decide) ?_
          refine lv_iload_n hx hb dX4_was_59 rfl (lv_at hl 3 rfl) ?_
          refine lv_ishl hx hb dX4_was_60 ?_
          refine lv_ior hx hb dX4_was_61 ?_
          refine lv_istore_n (lv' := [(2, .int (v2_17 ||| (1 <<< (v3_17 &&& 31)))), (0, .ref (ao 0)), (1, .int v1_17), (3, .int v3_17)]) hx hb dX4_was_62 rfl hl (by decide) rfl (fun ls hl => ?_)
          refine lv_iinc (v := (v3_17 + 1)) (lv' := [(3, .int (v3_17 + 1)), (2, .int (v2_17 ||| (1 <<< (v3_17 &&& 31)))), (0, .ref (ao 0)), (1, .int v1_17)]) hx hb dX4_was_63 hl (k := 3) rfl rfl (by decide) rfl (fun ls hl => ?_)
          refine lv_goto (tgt := 17) hx hb dX4_was_66 (by decide) ?_
          exact ih_17 v1_17 (v2_17 ||| (1 <<< (v3_17 &&& 31))) (v3_17 + 1) (va_up (va_up r2.1 1 r4) 1 r6) r2.2 _ _ _ (lv_sub hl [2, 3, 1, 0] rfl) hw hS h
  refine lv_aload_n hx hb dX4_was_0 rfl (lv_at hl 0 rfl) ?_
  refine gX4_19 hx hb hB hown hK hw dX4_was_1 ?_
  refine lv_iload_n hx hb dX4_was_4 rfl (lv_at hl 1 rfl) ?_
  obtain ⟨r10, e10, h⟩ := ob h
  refine k_VR ⟨hx, hb, hml, hown, hB⟩ (c_X3_hasDead l E (aY 0) (Y 0) a1 r10 e10) (clX4_91 hB rfl rfl ⟨Nat.le_of_ble_eq_true rfl, Nat.le_of_ble_eq_true rfl⟩) hK (hw.yd (by decide)) (rvY hK (hw.yd (by decide))) rfl hl.1 rfl (Nat.le_of_ble_eq_true rfl) dX4_was_5 ⟨Nat.zero_le _, Nat.zero_le _⟩ ?_
  refine lv_if_ne (tgt := 13) hx hb dX4_was_8 (by decide) (fun g11 => ?_) (fun g11 => ?_)
  · rw [if_neg g11] at h
    refine lv_iconst (v := 0) hx hb dX4_was_13 (by decide) ?_
    refine lv_istore_n (lv' := [(2, .int 0), (0, .ref (ao 0)), (1, .int a1)]) hx hb dX4_was_14 rfl hl (by decide) rfl (fun ls hl => ?_)
    refine lv_iconst (v := 0) hx hb dX4_was_15 (by decide) ?_
    refine lv_istore_n (lv' := [(3, .int 0), (2, .int 0), (0, .ref (ao 0)), (1, .int a1)]) hx hb dX4_was_16 rfl hl (by decide) rfl (fun ls hl => ?_)
    exact hL17 FU a1 0 0 Y o _ _ _ (lv_sub hl [2, 3, 1, 0] rfl) hw hS h
  · rw [if_pos g11] at h
    refine lv_iconst (v := (-1)) hx hb dX4_was_11 (by decide) ?_
    cases h
    exact e_zW hx hb hr hlk rfl rfl hw hS dX4_was_12
def fX4_owed (Y : YS) (o : OS) (a1 : Int32) : Option (Int32) := (fX4_isSide a1).bind (fun r1 => (if r1 = 0 then some (-1) else (fX3_owedOf (Y 0) a1).bind (fun r3 => (some r3))))
abbrev rmX4_owed : Room := { frames := 5, cells := 0, slots := 0, locals := 110 }
set_option maxHeartbeats 4000000 in
set_option maxRecDepth 100000 in
theorem c_X4_owed (l : Launch) (E : En) (aY : Nat → Nat → Nat) (ao : Nat → Nat) (Y : YS) (o : OS) (a1 : Int32) (r : Int32) (h : fX4_owed Y o a1 = some r) : Met l yX4_owed (kX4_owed :: BIG) rmX4_owed (Pk E [.ref (ao 0), .int a1] (CW E aY ao Y o)) (QcRead r) 0 0 (fun _ => False) := by
  refine Mb (by decide) (Nat.le_of_ble_eq_true rfl) ?_
  intro p e s m below meth c ls hx hb hr hlk hB hown hml _ hK hw hl
  have hl : lv_has ls 2 [(0, .ref (ao 0)), (1, .int a1)] := hl
  rw [fX4_owed] at h
  refine lv_iload_n hx hb dX4_owed_0 rfl (lv_at hl 1 rfl) ?_
  obtain ⟨r1, e1, h⟩ := ob h
  refine k_SR ⟨hx, hb, hml, hown, hB⟩ (c_X4_isSide l E a1 r1 e1) (clX4_111 hB rfl rfl ⟨Nat.le_of_ble_eq_true rfl, Nat.le_of_ble_eq_true rfl⟩) hK trivial rfl hl.1 rfl (Nat.le_of_ble_eq_true rfl) dX4_owed_1 ⟨Nat.zero_le _, Nat.zero_le _⟩ ?_
  refine lv_if_eq (tgt := 18) hx hb dX4_owed_4 (by decide) (fun g2 => ?_) (fun g2 => ?_)
  · rw [if_pos g2] at h
    refine lv_iconst (v := (-1)) hx hb dX4_owed_18 (by decide) ?_
    exact e_zR hx hb hr hlk rfl h dX4_owed_19
  · rw [if_neg g2] at h
    refine lv_aload_n hx hb dX4_owed_7 rfl (lv_at hl 0 rfl) ?_
    refine gX4_19 hx hb hB hown hK hw dX4_owed_8 ?_
    refine lv_iload_n hx hb dX4_owed_11 rfl (lv_at hl 1 rfl) ?_
    obtain ⟨r3, e3, h⟩ := ob h
    refine k_VR ⟨hx, hb, hml, hown, hB⟩ (c_X3_owedOf l E (aY 0) (Y 0) a1 r3 e3) (clX4_209 hB rfl rfl ⟨Nat.le_of_ble_eq_true rfl, Nat.le_of_ble_eq_true rfl⟩) hK (hw.yd (by decide)) (rvY hK (hw.yd (by decide))) rfl hl.1 rfl (Nat.le_of_ble_eq_true rfl) dX4_owed_12 ⟨Nat.zero_le _, Nat.zero_le _⟩ ?_
    refine lv_goto (tgt := 19) hx hb dX4_owed_15 (by decide) ?_
    exact e_zR hx hb hr hlk rfl h dX4_owed_19
def fX4_balance (Y : YS) (o : OS) : Option (Int32) := (fX3_forgivenOfAllWhoLie (Y 0) 0).bind (fun r1 => ((fX3_forgivenOfAllWhoLie (Y 0) 1).bind (fun r2 => (some ((200 + r1) - r2)))))
abbrev rmX4_balance : Room := { frames := 4, cells := 0, slots := 0, locals := 90 }
set_option maxHeartbeats 4000000 in
set_option maxRecDepth 100000 in
theorem c_X4_balance (l : Launch) (E : En) (aY : Nat → Nat → Nat) (ao : Nat → Nat) (Y : YS) (o : OS) (r : Int32) (h : fX4_balance Y o = some r) : Met l yX4_balance (kX4_balance :: BIG) rmX4_balance (Pk E [.ref (ao 0)] (CW E aY ao Y o)) (QcRead r) 0 0 (fun _ => False) := by
  refine Mb (by decide) (Nat.le_of_ble_eq_true rfl) ?_
  intro p e s m below meth c ls hx hb hr hlk hB hown hml _ hK hw hl
  have hl : lv_has ls 1 [(0, .ref (ao 0))] := hl
  rw [fX4_balance] at h
  refine lv_sipush (v := 200) hx hb dX4_balance_0 (by decide) ?_
  refine lv_aload_n hx hb dX4_balance_3 rfl (lv_at hl 0 rfl) ?_
  refine gX4_19 hx hb hB hown hK hw dX4_balance_4 ?_
  refine lv_iconst (v := 0) hx hb dX4_balance_7 (by decide) ?_
  obtain ⟨r1, e1, h⟩ := ob h
  refine k_VR ⟨hx, hb, hml, hown, hB⟩ (c_X3_forgivenOfAllWhoLie l E (aY 0) (Y 0) 0 r1 e1) (clX4_212 hB rfl rfl ⟨Nat.le_of_ble_eq_true rfl, Nat.le_of_ble_eq_true rfl⟩) hK (hw.yd (by decide)) (rvY hK (hw.yd (by decide))) rfl hl.1 rfl (Nat.le_of_ble_eq_true rfl) dX4_balance_8 ⟨Nat.zero_le _, Nat.zero_le _⟩ ?_
  refine lv_iadd hx hb dX4_balance_11 ?_
  refine lv_aload_n hx hb dX4_balance_12 rfl (lv_at hl 0 rfl) ?_
  refine gX4_19 hx hb hB hown hK hw dX4_balance_13 ?_
  refine lv_iconst (v := 1) hx hb dX4_balance_16 (by decide) ?_
  obtain ⟨r2, e2, h⟩ := ob h
  refine k_VR ⟨hx, hb, hml, hown, hB⟩ (c_X3_forgivenOfAllWhoLie l E (aY 0) (Y 0) 1 r2 e2) (clX4_212 hB rfl rfl ⟨Nat.le_of_ble_eq_true rfl, Nat.le_of_ble_eq_true rfl⟩) hK (hw.yd (by decide)) (rvY hK (hw.yd (by decide))) rfl hl.1 rfl (Nat.le_of_ble_eq_true rfl) dX4_balance_17 ⟨Nat.zero_le _, Nat.zero_le _⟩ ?_
  refine lv_isub hx hb dX4_balance_20 ?_
  exact e_zR hx hb hr hlk rfl h dX4_balance_21
def fX4_nextWornOff (Y : YS) (o : OS) (a1 : Int32) (a2 : Int32) : Option (Int32) := (fX3_allOfVillage (Y 0) (1 - a2)).bind (fun r1 => (if (a1 &&& r1) = 0 then some (a1 &&& (-a1)) else some ((a1 &&& r1) &&& (-(a1 &&& r1)))))
abbrev rmX4_nextWornOff : Room := { frames := 3, cells := 0, slots := 0, locals := 65 }
set_option maxHeartbeats 4000000 in
set_option maxRecDepth 100000 in
theorem c_X4_nextWornOff (l : Launch) (E : En) (aY : Nat → Nat → Nat) (ao : Nat → Nat) (Y : YS) (o : OS) (a1 : Int32) (a2 : Int32) (r : Int32) (h : fX4_nextWornOff Y o a1 a2 = some r) : Met l yX4_nextWornOff (kX4_nextWornOff :: BIG) rmX4_nextWornOff (Pk E [.ref (ao 0), .int a1, .int a2] (CW E aY ao Y o)) (QcRead r) 0 0 (fun _ => False) := by
  refine Mb (by decide) (Nat.le_of_ble_eq_true rfl) ?_
  intro p e s m below meth c ls hx hb hr hlk hB hown hml _ hK hw hl
  have hl : lv_has ls 5 [(0, .ref (ao 0)), (1, .int a1), (2, .int a2)] := hl
  rw [fX4_nextWornOff] at h
  refine lv_iload_n hx hb dX4_nextWornOff_0 rfl (lv_at hl 1 rfl) ?_
  refine lv_aload_n hx hb dX4_nextWornOff_1 rfl (lv_at hl 0 rfl) ?_
  refine gX4_19 hx hb hB hown hK hw dX4_nextWornOff_2 ?_
  refine lv_iconst (v := 1) hx hb dX4_nextWornOff_5 (by decide) ?_
  refine lv_iload_n hx hb dX4_nextWornOff_6 rfl (lv_at hl 2 rfl) ?_
  refine lv_isub hx hb dX4_nextWornOff_7 ?_
  obtain ⟨r1, e1, h⟩ := ob h
  refine k_VR ⟨hx, hb, hml, hown, hB⟩ (c_X3_allOfVillage l E (aY 0) (Y 0) (1 - a2) r1 e1) (clX4_242 hB rfl rfl ⟨Nat.le_of_ble_eq_true rfl, Nat.le_of_ble_eq_true rfl⟩) hK (hw.yd (by decide)) (rvY hK (hw.yd (by decide))) rfl hl.1 rfl (Nat.le_of_ble_eq_true rfl) dX4_nextWornOff_8 ⟨Nat.zero_le _, Nat.zero_le _⟩ ?_
  refine lv_iand hx hb dX4_nextWornOff_11 ?_
  refine lv_istore_n (lv' := [(3, .int (a1 &&& r1)), (0, .ref (ao 0)), (1, .int a1), (2, .int a2)]) hx hb dX4_nextWornOff_12 rfl hl (by decide) rfl (fun ls hl => ?_)
  refine lv_iload_n hx hb dX4_nextWornOff_13 rfl (lv_at hl 0 rfl) ?_
  refine lv_if_eq (tgt := 21) hx hb dX4_nextWornOff_14 (by decide) (fun g2 => ?_) (fun g2 => ?_)
  · rw [if_pos g2] at h
    refine lv_iload_n hx hb dX4_nextWornOff_21 rfl (lv_at hl 2 rfl) ?_
    refine lv_istore (lv' := [(4, .int a1), (3, .int (a1 &&& r1)), (0, .ref (ao 0)), (1, .int a1), (2, .int a2)]) hx hb dX4_nextWornOff_22 hl (by decide) rfl (fun ls hl => ?_)
    refine lv_iload hx hb dX4_nextWornOff_24 (lv_at hl 0 rfl) ?_
    refine lv_iload hx hb dX4_nextWornOff_26 (lv_at hl 0 rfl) ?_
    refine lv_ineg hx hb dX4_nextWornOff_28 ?_
    refine lv_iand hx hb dX4_nextWornOff_29 ?_
    exact e_zR hx hb hr hlk rfl h dX4_nextWornOff_30
  · rw [if_neg g2] at h
    refine lv_iload_n hx hb dX4_nextWornOff_17 rfl (lv_at hl 0 rfl) ?_
    refine lv_goto (tgt := 22) hx hb dX4_nextWornOff_18 (by decide) ?_
    refine lv_istore (lv' := [(4, .int (a1 &&& r1)), (3, .int (a1 &&& r1)), (0, .ref (ao 0)), (1, .int a1), (2, .int a2)]) hx hb dX4_nextWornOff_22 hl (by decide) rfl (fun ls hl => ?_)
    refine lv_iload hx hb dX4_nextWornOff_24 (lv_at hl 0 rfl) ?_
    refine lv_iload hx hb dX4_nextWornOff_26 (lv_at hl 0 rfl) ?_
    refine lv_ineg hx hb dX4_nextWornOff_28 ?_
    refine lv_iand hx hb dX4_nextWornOff_29 ?_
    exact e_zR hx hb hr hlk rfl h dX4_nextWornOff_30
def fX4_names_L22 (Y : YS) (o : OS) (v1_22 : Int32) : Nat → Int32 → Int32 → Option (Int32)
  | 0, _, _ => none
  | n_22 + 1, v2_22, v3_22 => if v1_22 ≤ v3_22 then some v2_22 else (fX4_nextWornOff Y o v2_22 (v3_22 &&& 1)).bind (fun r2 => (fX4_names_L22 Y o v1_22 n_22 (v2_22 &&& (r2 ^^^ (-1))) (v3_22 + 1)))
def fX4_names (Y : YS) (o : OS) (a1 : Int32) : Option (Int32) := if a1 < 0 then some (-1) else if a1 ≤ 20 then (fX3_allWhoLie (Y 0)).bind (fun r5 => (fX4_names_L22 Y o a1 FU r5 0)) else some (-1)
abbrev rmX4_names : Room := { frames := 4, cells := 0, slots := 0, locals := 89 }
set_option maxHeartbeats 4000000 in
set_option maxRecDepth 100000 in
theorem c_X4_names (l : Launch) (E : En) (aY : Nat → Nat → Nat) (ao : Nat → Nat) (Y : YS) (o : OS) (a1 : Int32) (r : Int32) (h : fX4_names Y o a1 = some r) : Met l yX4_names (kX4_names :: BIG) rmX4_names (Pk E [.ref (ao 0), .int a1] (CW E aY ao Y o)) (QcRead r) 0 0 (fun _ => False) := by
  refine Mb (by decide) (Nat.le_of_ble_eq_true rfl) ?_
  intro p e s m below meth c ls hx hb hr hlk hB hown hml _ hK hw hl
  have hl : lv_has ls 4 [(0, .ref (ao 0)), (1, .int a1)] := hl
  rw [fX4_names] at h
  have hL22 : ∀ (n_22 : Nat) (v1_22 : Int32) (v2_22 : Int32) (v3_22 : Int32) (ls_22 : Array Slot), lv_has ls_22 4 [(0, .ref (ao 0)), (1, .int v1_22), (2, .int v2_22), (3, .int v3_22)] → fX4_names_L22 Y o v1_22 n_22 v2_22 v3_22 = some r → W p l e rmX4_names s m ([.ref (ao 0), .int a1] : List Value).toArray below meth c s.heap [] 0 0 (MQ below (QcRead r) ([.ref (ao 0), .int a1] : List Value).toArray s 0 0 (fun _ => False)) (F0 m 22 ls_22 []) := by
    intro n_22
    induction n_22 with
    | zero =>
      intro v1_22 v2_22 v3_22 ls_22 hl h
      exact nn h
    | succ n_22 ih_22 =>
      intro v1_22 v2_22 v3_22 ls_22 hl h
      rw [fX4_names_L22] at h
      refine lv_iload_n hx hb dX4_names_22 rfl (lv_at hl 3 rfl) ?_
      refine lv_iload_n hx hb dX4_names_23 rfl (lv_at hl 1 rfl) ?_
      refine lv_icmp_ge (tgt := 46) hx hb dX4_names_24 (by decide) (fun g1 => ?_) (fun g1 => ?_)
      · rw [if_pos g1] at h
        refine lv_iload_n hx hb dX4_names_46 rfl (lv_at hl 2 rfl) ?_
        exact e_zR hx hb hr hlk rfl h dX4_names_47
      · rw [if_neg g1] at h
        refine lv_iload_n hx hb dX4_names_27 rfl (lv_at hl 2 rfl) ?_
        refine lv_aload_n hx hb dX4_names_28 rfl (lv_at hl 0 rfl) ?_
        refine lv_iload_n hx hb dX4_names_29 rfl (lv_at hl 2 rfl) ?_
        refine lv_iload_n hx hb dX4_names_30 rfl (lv_at hl 3 rfl) ?_
        refine lv_iconst (v := 1) hx hb dX4_names_31 (by decide) ?_
        refine lv_iand hx hb dX4_names_32 ?_
        obtain ⟨r2, e2, h⟩ := ob h
        refine k_VR ⟨hx, hb, hml, hown, hB⟩ (c_X4_nextWornOff l E aY ao Y o v2_22 (v3_22 &&& 1) r2 e2) (clX4_218 hB rfl rfl ⟨Nat.le_of_ble_eq_true rfl, Nat.le_of_ble_eq_true rfl⟩) hK hw (rvO0 hK hw) rfl hl.1 rfl (Nat.le_of_ble_eq_true rfl) dX4_names_33 ⟨Nat.zero_le _, Nat.zero_le _⟩ ?_
        refine lv_iconst (v := (-1)) hx hb dX4_names_36 (by decide) ?_
        refine lv_ixor hx hb dX4_names_37 ?_
        refine lv_iand hx hb dX4_names_38 ?_
        refine lv_istore_n (lv' := [(2, .int (v2_22 &&& (r2 ^^^ (-1)))), (0, .ref (ao 0)), (1, .int v1_22), (3, .int v3_22)]) hx hb dX4_names_39 rfl hl (by decide) rfl (fun ls hl => ?_)
        refine lv_iinc (v := (v3_22 + 1)) (lv' := [(3, .int (v3_22 + 1)), (2, .int (v2_22 &&& (r2 ^^^ (-1)))), (0, .ref (ao 0)), (1, .int v1_22)]) hx hb dX4_names_40 hl (k := 3) rfl rfl (by decide) rfl (fun ls hl => ?_)
        refine lv_goto (tgt := 22) hx hb dX4_names_43 (by decide) ?_
        exact ih_22 v1_22 (v2_22 &&& (r2 ^^^ (-1))) (v3_22 + 1) _ (lv_sub hl [2, 3, 1, 0] rfl) h
  refine lv_iload_n hx hb dX4_names_0 rfl (lv_at hl 1 rfl) ?_
  refine lv_if_lt (tgt := 10) hx hb dX4_names_1 (by decide) (fun g3 => ?_) (fun g3 => ?_)
  · rw [if_pos g3] at h
    refine lv_iconst (v := (-1)) hx hb dX4_names_10 (by decide) ?_
    exact e_zR hx hb hr hlk rfl h dX4_names_11
  · rw [if_neg g3] at h
    refine lv_iload_n hx hb dX4_names_4 rfl (lv_at hl 1 rfl) ?_
    refine lv_bipush (v := 20) hx hb dX4_names_5 (by decide) ?_
    refine lv_icmp_le (tgt := 12) hx hb dX4_names_7 (by decide) (fun g4 => ?_) (fun g4 => ?_)
    · rw [if_pos g4] at h
      refine lv_aload_n hx hb dX4_names_12 rfl (lv_at hl 0 rfl) ?_
      refine gX4_19 hx hb hB hown hK hw dX4_names_13 ?_
      obtain ⟨r5, e5, h⟩ := ob h
      refine k_VR ⟨hx, hb, hml, hown, hB⟩ (c_X3_allWhoLie l E (aY 0) (Y 0) r5 e5) (clX4_215 hB rfl rfl ⟨Nat.le_of_ble_eq_true rfl, Nat.le_of_ble_eq_true rfl⟩) hK (hw.yd (by decide)) (rvY hK (hw.yd (by decide))) rfl hl.1 rfl (Nat.le_of_ble_eq_true rfl) dX4_names_16 ⟨Nat.zero_le _, Nat.zero_le _⟩ ?_
      refine lv_istore_n (lv' := [(2, .int r5), (0, .ref (ao 0)), (1, .int a1)]) hx hb dX4_names_19 rfl hl (by decide) rfl (fun ls hl => ?_)
      refine lv_iconst (v := 0) hx hb dX4_names_20 (by decide) ?_
      refine lv_istore_n (lv' := [(3, .int 0), (2, .int r5), (0, .ref (ao 0)), (1, .int a1)]) hx hb dX4_names_21 rfl hl (by decide) rfl (fun ls hl => ?_)
      exact hL22 FU a1 r5 0 _ (lv_sub hl [2, 3, 1, 0] rfl) h
    · rw [if_neg g4] at h
      refine lv_iconst (v := (-1)) hx hb dX4_names_10 (by decide) ?_
      exact e_zR hx hb hr hlk rfl h dX4_names_11
def fX4_next (Y : YS) (o : OS) (a1 : Int32) (a2 : Int32) (a3 : Int32) : Option (Int32) := (fX4_isOneOfTheDead a1 a2 a3).bind (fun r1 => (if r1 = 0 then some (-1) else (fX3_freePlot (Y 0) (1 - a1) a2 a3).bind (fun r3 => (some r3))))
abbrev rmX4_next : Room := { frames := 2, cells := 0, slots := 0, locals := 49 }
set_option maxHeartbeats 4000000 in
set_option maxRecDepth 100000 in
theorem c_X4_next (l : Launch) (E : En) (aY : Nat → Nat → Nat) (ao : Nat → Nat) (Y : YS) (o : OS) (a1 : Int32) (a2 : Int32) (a3 : Int32) (r : Int32) (h : fX4_next Y o a1 a2 a3 = some r) : Met l yX4_next (kX4_next :: BIG) rmX4_next (Pk E [.ref (ao 0), .int a1, .int a2, .int a3] (CW E aY ao Y o)) (QcRead r) 0 0 (fun _ => False) := by
  refine Mb (by decide) (Nat.le_of_ble_eq_true rfl) ?_
  intro p e s m below meth c ls hx hb hr hlk hB hown hml _ hK hw hl
  have hl : lv_has ls 4 [(0, .ref (ao 0)), (1, .int a1), (2, .int a2), (3, .int a3)] := hl
  rw [fX4_next] at h
  refine lv_iload_n hx hb dX4_next_0 rfl (lv_at hl 1 rfl) ?_
  refine lv_iload_n hx hb dX4_next_1 rfl (lv_at hl 2 rfl) ?_
  refine lv_iload_n hx hb dX4_next_2 rfl (lv_at hl 3 rfl) ?_
  obtain ⟨r1, e1, h⟩ := ob h
  refine k_SR ⟨hx, hb, hml, hown, hB⟩ (c_X4_isOneOfTheDead l E a1 a2 a3 r1 e1) (clX4_130 hB rfl rfl ⟨Nat.le_of_ble_eq_true rfl, Nat.le_of_ble_eq_true rfl⟩) hK trivial rfl hl.1 rfl (Nat.le_of_ble_eq_true rfl) dX4_next_3 ⟨Nat.zero_le _, Nat.zero_le _⟩ ?_
  refine lv_if_ne (tgt := 11) hx hb dX4_next_6 (by decide) (fun g2 => ?_) (fun g2 => ?_)
  · rw [if_neg g2] at h
    refine lv_aload_n hx hb dX4_next_11 rfl (lv_at hl 0 rfl) ?_
    refine gX4_19 hx hb hB hown hK hw dX4_next_12 ?_
    refine lv_iconst (v := 1) hx hb dX4_next_15 (by decide) ?_
    refine lv_iload_n hx hb dX4_next_16 rfl (lv_at hl 1 rfl) ?_
    refine lv_isub hx hb dX4_next_17 ?_
    refine lv_iload_n hx hb dX4_next_18 rfl (lv_at hl 2 rfl) ?_
    refine lv_iload_n hx hb dX4_next_19 rfl (lv_at hl 3 rfl) ?_
    obtain ⟨r3, e3, h⟩ := ob h
    refine k_VR ⟨hx, hb, hml, hown, hB⟩ (c_X3_freePlot l E (aY 0) (Y 0) (1 - a1) a2 a3 r3 e3) (clX4_221 hB rfl rfl ⟨Nat.le_of_ble_eq_true rfl, Nat.le_of_ble_eq_true rfl⟩) hK (hw.yd (by decide)) (rvY hK (hw.yd (by decide))) rfl hl.1 rfl (Nat.le_of_ble_eq_true rfl) dX4_next_20 ⟨Nat.zero_le _, Nat.zero_le _⟩ ?_
    exact e_zR hx hb hr hlk rfl h dX4_next_23
  · rw [if_pos g2] at h
    refine lv_iconst (v := (-1)) hx hb dX4_next_9 (by decide) ?_
    exact e_zR hx hb hr hlk rfl h dX4_next_10
def fX4_year_L49 (v1_49 : Int32) (v2_49 : Int32) (v3_49 : Int32) : Nat → Int32 → YS → OS → Option (Int32 × YS × OS)
  | 0, _, _, _ => none
  | n_49 + 1, v4_49, Y_49, o_49 => if v2_49 ≤ v4_49 then if v3_49 = 0 then (fX3_owedOf (Y_49 2) 0).bind (fun r6 => ((fX3_owedOf (Y_49 2) 1).bind (fun r7 => (some ((r6 + r7), Y_49, o_49))))) else (fX4_movedIn Y_49 o_49 2).bind (fun r3 => ((fJ6_bitCount_0f7a4 r3.1).bind (fun r5 => (some (r5, r3.2.1, r3.2.2))))) else (fX4_draw v1_49 v4_49).bind (fun r8 => ((fX4_passWinter (Y_49 2) r8).bind (fun r9 => (fX4_year_L49 v1_49 v2_49 v3_49 n_49 (v4_49 + 1) (va_up Y_49 2 r9) o_49))))
def fX4_year (Y : YS) (o : OS) (a1 : Int32) (a2 : Int32) (a3 : Int32) : Option (Int32 × YS × OS) := if a1 < 0 then some ((-1), Y, o) else if 9999 < a1 then some ((-1), Y, o) else if a2 < 1 then some ((-1), Y, o) else if a2 ≤ 30 then if a3 = 0 then (fX3_copyFrom Y o 2 0).bind (fun r16 => (fX4_year_L49 a1 a2 a3 FU 0 r16.1 r16.2)) else if a3 = 1 then (fX3_copyFrom Y o 2 0).bind (fun r19 => (fX4_year_L49 a1 a2 a3 FU 0 r19.1 r19.2)) else some ((-1), Y, o) else some ((-1), Y, o)
abbrev rmX4_year : Room := { frames := 6, cells := 0, slots := 0, locals := 139 }
set_option maxHeartbeats 4000000 in
set_option maxRecDepth 100000 in
theorem c_X4_year (l : Launch) (E : En) (aY : Nat → Nat → Nat) (ao : Nat → Nat) (Y : YS) (o : OS) (a1 : Int32) (a2 : Int32) (a3 : Int32) (r : Int32 × YS × OS) (h : fX4_year Y o a1 a2 a3 = some r) : Met l yX4_year (kX4_year :: BIG) rmX4_year (Pk E [.ref (ao 0), .int a1, .int a2, .int a3] (CW E aY ao Y o)) (QW (some (.int r.1)) (AC aY ao) (CW E aY ao r.2.1 r.2.2)) 0 0 (AC aY ao) := by
  refine Mb (by decide) (Nat.le_of_ble_eq_true rfl) ?_
  intro p e s m below meth c ls hx hb hr hlk hB hown hml _ hK hw hl
  have hS : va_S (AC aY ao) s.heap s.heap [] := va_S.rf
  have hl : lv_has ls 5 [(0, .ref (ao 0)), (1, .int a1), (2, .int a2), (3, .int a3)] := hl
  rw [fX4_year] at h
  have hL49 : ∀ (n_49 : Nat) (v1_49 : Int32) (v2_49 : Int32) (v3_49 : Int32) (v4_49 : Int32) (Y_49 : YS) (o_49 : OS) (H_49 : Heap) (L_49 : List Loc) (ls_49 : Array Slot), lv_has ls_49 5 [(0, .ref (ao 0)), (1, .int v1_49), (2, .int v2_49), (3, .int v3_49), (4, .int v4_49)] → CW E aY ao Y_49 o_49 H_49 → va_S (AC aY ao) s.heap H_49 L_49 → fX4_year_L49 v1_49 v2_49 v3_49 n_49 v4_49 Y_49 o_49 = some r → W p l e rmX4_year s m ([.ref (ao 0), .int a1, .int a2, .int a3] : List Value).toArray below meth c H_49 L_49 0 0 (MQ below (QW (some (.int r.1)) (AC aY ao) (CW E aY ao r.2.1 r.2.2)) ([.ref (ao 0), .int a1, .int a2, .int a3] : List Value).toArray s 0 0 (AC aY ao)) (F0 m 49 ls_49 []) := by
    intro n_49
    induction n_49 with
    | zero =>
      intro v1_49 v2_49 v3_49 v4_49 Y_49 o_49 H_49 L_49 ls_49 hl hw hS h
      exact nn h
    | succ n_49 ih_49 =>
      intro v1_49 v2_49 v3_49 v4_49 Y_49 o_49 H_49 L_49 ls_49 hl hw hS h
      rw [fX4_year_L49] at h
      refine lv_iload hx hb dX4_year_49 (lv_at hl 4 rfl) ?_
      refine lv_iload_n hx hb dX4_year_51 rfl (lv_at hl 2 rfl) ?_
      refine lv_icmp_ge (tgt := 74) hx hb dX4_year_52 (by decide) (fun g1 => ?_) (fun g1 => ?_)
      · rw [if_pos g1] at h
        refine lv_iload_n hx hb dX4_year_74 rfl (lv_at hl 3 rfl) ?_
        refine lv_if_ne (tgt := 98) hx hb dX4_year_75 (by decide) (fun g2 => ?_) (fun g2 => ?_)
        · rw [if_neg g2] at h
          refine lv_aload_n hx hb dX4_year_98 rfl (lv_at hl 0 rfl) ?_
          refine lv_aload_n hx hb dX4_year_99 rfl (lv_at hl 0 rfl) ?_
          refine gX4_26 hx hb hB hown hK hw dX4_year_100 ?_
          obtain ⟨r3, e3, h⟩ := ob h
          refine k_VWi ⟨hx, hb, hml, hown, hB⟩ (c_X4_movedIn l E aY ao Y_49 o_49 2 (by decide) r3 e3) (clX4_170 hB rfl rfl ⟨Nat.le_of_ble_eq_true rfl, Nat.le_of_ble_eq_true rfl⟩) hK hw (rvO0 hK hw) rfl hl.1 rfl (Nat.le_of_ble_eq_true rfl) dX4_year_103 ⟨Nat.zero_le _, Nat.zero_le _⟩ hS (fun _ z => z) (fun H4 L4 hw _ _ hS => ?_)
          obtain ⟨r5, e5, h⟩ := ob h
          refine k_SR ⟨hx, hb, hml, hown, hB⟩ (c_J6_bitCount_0f7a4 l E r3.1 r5 e5) (clX4_231 hB rfl rfl ⟨Nat.le_of_ble_eq_true rfl, Nat.le_of_ble_eq_true rfl⟩) hK trivial rfl hl.1 rfl (Nat.le_of_ble_eq_true rfl) dX4_year_106 ⟨Nat.zero_le _, Nat.zero_le _⟩ ?_
          cases h
          exact e_zW hx hb hr hlk rfl rfl hw hS dX4_year_109
        · rw [if_pos g2] at h
          refine lv_aload_n hx hb dX4_year_78 rfl (lv_at hl 0 rfl) ?_
          refine gX4_26 hx hb hB hown hK hw dX4_year_79 ?_
          refine lv_iconst (v := 0) hx hb dX4_year_82 (by decide) ?_
          obtain ⟨r6, e6, h⟩ := ob h
          refine k_VR ⟨hx, hb, hml, hown, hB⟩ (c_X3_owedOf l E (aY 2) (Y_49 2) 0 r6 e6) (clX4_209 hB rfl rfl ⟨Nat.le_of_ble_eq_true rfl, Nat.le_of_ble_eq_true rfl⟩) hK (hw.yd (by decide)) (rvY hK (hw.yd (by decide))) rfl hl.1 rfl (Nat.le_of_ble_eq_true rfl) dX4_year_83 ⟨Nat.zero_le _, Nat.zero_le _⟩ ?_
          refine lv_aload_n hx hb dX4_year_86 rfl (lv_at hl 0 rfl) ?_
          refine gX4_26 hx hb hB hown hK hw dX4_year_87 ?_
          refine lv_iconst (v := 1) hx hb dX4_year_90 (by decide) ?_
          obtain ⟨r7, e7, h⟩ := ob h
          refine k_VR ⟨hx, hb, hml, hown, hB⟩ (c_X3_owedOf l E (aY 2) (Y_49 2) 1 r7 e7) (clX4_209 hB rfl rfl ⟨Nat.le_of_ble_eq_true rfl, Nat.le_of_ble_eq_true rfl⟩) hK (hw.yd (by decide)) (rvY hK (hw.yd (by decide))) rfl hl.1 rfl (Nat.le_of_ble_eq_true rfl) dX4_year_91 ⟨Nat.zero_le _, Nat.zero_le _⟩ ?_
          refine lv_iadd hx hb dX4_year_94 ?_
          refine lv_goto (tgt := 109) hx hb dX4_year_95 (by decide) ?_
          cases h
          exact e_zW hx hb hr hlk rfl rfl hw hS dX4_year_109
      · rw [if_neg g1] at h
        refine lv_aload_n hx hb dX4_year_55 rfl (lv_at hl 0 rfl) ?_
        refine gX4_26 hx hb hB hown hK hw dX4_year_56 ?_
        refine lv_iload_n hx hb dX4_year_59 rfl (lv_at hl 1 rfl) ?_
        refine lv_iload hx hb dX4_year_60 (lv_at hl 4 rfl) ?_
        obtain ⟨r8, e8, h⟩ := ob h
        refine k_SR ⟨hx, hb, hml, hown, hB⟩ (c_X4_draw l E v1_49 v4_49 r8 e8) (clX4_224 hB rfl rfl ⟨Nat.le_of_ble_eq_true rfl, Nat.le_of_ble_eq_true rfl⟩) hK trivial rfl hl.1 rfl (Nat.le_of_ble_eq_true rfl) dX4_year_62 ⟨Nat.zero_le _, Nat.zero_le _⟩ ?_
        obtain ⟨r9, e9, h⟩ := ob h
        refine k_SWv ⟨hx, hb, hml, hown, hB⟩ (c_X4_passWinter l E (aY 2) (Y_49 2) r8 r9 e9) (clX4_227 hB rfl rfl ⟨Nat.le_of_ble_eq_true rfl, Nat.le_of_ble_eq_true rfl⟩) hK (hw.yd (by decide)) rfl hl.1 rfl (Nat.le_of_ble_eq_true rfl) dX4_year_65 ⟨Nat.zero_le _, Nat.zero_le _⟩ hS (AC.ofY (by decide)) (fun H10 L10 hy _ hk hS => ?_)
        have hw := hw.wy (by decide) hy hk
        refine lv_iinc (v := (v4_49 + 1)) (lv' := [(4, .int (v4_49 + 1)), (0, .ref (ao 0)), (1, .int v1_49), (2, .int v2_49), (3, .int v3_49)]) hx hb dX4_year_68 hl (k := 4) rfl rfl (by decide) rfl (fun ls hl => ?_)
        refine lv_goto (tgt := 49) hx hb dX4_year_71 (by decide) ?_
        exact ih_49 v1_49 v2_49 v3_49 (v4_49 + 1) (va_up Y_49 2 r9) o_49 _ _ _ (lv_sub hl [1, 2, 3, 4, 0] rfl) hw hS h
  refine lv_iload_n hx hb dX4_year_0 rfl (lv_at hl 1 rfl) ?_
  refine lv_if_lt (tgt := 22) hx hb dX4_year_1 (by decide) (fun g11 => ?_) (fun g11 => ?_)
  · rw [if_pos g11] at h
    refine lv_iconst (v := (-1)) hx hb dX4_year_22 (by decide) ?_
    cases h
    exact e_zW hx hb hr hlk rfl rfl hw hS dX4_year_23
  · rw [if_neg g11] at h
    refine lv_iload_n hx hb dX4_year_4 rfl (lv_at hl 1 rfl) ?_
    refine lv_sipush (v := 9999) hx hb dX4_year_5 (by decide) ?_
    refine lv_icmp_gt (tgt := 22) hx hb dX4_year_8 (by decide) (fun g12 => ?_) (fun g12 => ?_)
    · rw [if_pos g12] at h
      refine lv_iconst (v := (-1)) hx hb dX4_year_22 (by decide) ?_
      cases h
      exact e_zW hx hb hr hlk rfl rfl hw hS dX4_year_23
    · rw [if_neg g12] at h
      refine lv_iload_n hx hb dX4_year_11 rfl (lv_at hl 2 rfl) ?_
      refine lv_iconst (v := 1) hx hb dX4_year_12 (by decide) ?_
      refine lv_icmp_lt (tgt := 22) hx hb dX4_year_13 (by decide) (fun g13 => ?_) (fun g13 => ?_)
      · rw [if_pos g13] at h
        refine lv_iconst (v := (-1)) hx hb dX4_year_22 (by decide) ?_
        cases h
        exact e_zW hx hb hr hlk rfl rfl hw hS dX4_year_23
      · rw [if_neg g13] at h
        refine lv_iload_n hx hb dX4_year_16 rfl (lv_at hl 2 rfl) ?_
        refine lv_bipush (v := 30) hx hb dX4_year_17 (by decide) ?_
        refine lv_icmp_le (tgt := 24) hx hb dX4_year_19 (by decide) (fun g14 => ?_) (fun g14 => ?_)
        · rw [if_pos g14] at h
          refine lv_iload_n hx hb dX4_year_24 rfl (lv_at hl 3 rfl) ?_
          refine lv_if_eq (tgt := 35) hx hb dX4_year_25 (by decide) (fun g15 => ?_) (fun g15 => ?_)
          · rw [if_pos g15] at h
            refine lv_aload_n hx hb dX4_year_35 rfl (lv_at hl 0 rfl) ?_
            refine gX4_26 hx hb hB hown hK hw dX4_year_36 ?_
            refine lv_aload_n hx hb dX4_year_39 rfl (lv_at hl 0 rfl) ?_
            refine gX4_19 hx hb hB hown hK hw dX4_year_40 ?_
            obtain ⟨r16, e16, h⟩ := ob h
            refine k_VWv ⟨hx, hb, hml, hown, hB⟩ (c_X3_copyFrom l E aY ao Y o 2 0 (by decide) (by decide) r16 e16) (clX4_81 hB rfl rfl ⟨Nat.le_of_ble_eq_true rfl, Nat.le_of_ble_eq_true rfl⟩) hK hw (rvY hK (hw.yd (by decide))) rfl hl.1 rfl (Nat.le_of_ble_eq_true rfl) dX4_year_43 ⟨Nat.zero_le _, Nat.zero_le _⟩ hS (fun _ z => z) (fun H17 L17 hw _ _ hS => ?_)
            refine lv_iconst (v := 0) hx hb dX4_year_46 (by decide) ?_
            refine lv_istore (lv' := [(4, .int 0), (0, .ref (ao 0)), (1, .int a1), (2, .int a2), (3, .int a3)]) hx hb dX4_year_47 hl (by decide) rfl (fun ls hl => ?_)
            exact hL49 FU a1 a2 a3 0 r16.1 r16.2 _ _ _ (lv_sub hl [1, 2, 3, 4, 0] rfl) hw hS h
          · rw [if_neg g15] at h
            refine lv_iload_n hx hb dX4_year_28 rfl (lv_at hl 3 rfl) ?_
            refine lv_iconst (v := 1) hx hb dX4_year_29 (by decide) ?_
            refine lv_icmp_eq (tgt := 35) hx hb dX4_year_30 (by decide) (fun g18 => ?_) (fun g18 => ?_)
            · rw [if_pos g18] at h
              refine lv_aload_n hx hb dX4_year_35 rfl (lv_at hl 0 rfl) ?_
              refine gX4_26 hx hb hB hown hK hw dX4_year_36 ?_
              refine lv_aload_n hx hb dX4_year_39 rfl (lv_at hl 0 rfl) ?_
              refine gX4_19 hx hb hB hown hK hw dX4_year_40 ?_
              obtain ⟨r19, e19, h⟩ := ob h
              refine k_VWv ⟨hx, hb, hml, hown, hB⟩ (c_X3_copyFrom l E aY ao Y o 2 0 (by decide) (by decide) r19 e19) (clX4_81 hB rfl rfl ⟨Nat.le_of_ble_eq_true rfl, Nat.le_of_ble_eq_true rfl⟩) hK hw (rvY hK (hw.yd (by decide))) rfl hl.1 rfl (Nat.le_of_ble_eq_true rfl) dX4_year_43 ⟨Nat.zero_le _, Nat.zero_le _⟩ hS (fun _ z => z) (fun H20 L20 hw _ _ hS => ?_)
              refine lv_iconst (v := 0) hx hb dX4_year_46 (by decide) ?_
              refine lv_istore (lv' := [(4, .int 0), (0, .ref (ao 0)), (1, .int a1), (2, .int a2), (3, .int a3)]) hx hb dX4_year_47 hl (by decide) rfl (fun ls hl => ?_)
              exact hL49 FU a1 a2 a3 0 r19.1 r19.2 _ _ _ (lv_sub hl [1, 2, 3, 4, 0] rfl) hw hS h
            · rw [if_neg g18] at h
              refine lv_iconst (v := (-1)) hx hb dX4_year_33 (by decide) ?_
              cases h
              exact e_zW hx hb hr hlk rfl rfl hw hS dX4_year_34
        · rw [if_neg g14] at h
          refine lv_iconst (v := (-1)) hx hb dX4_year_22 (by decide) ?_
          cases h
          exact e_zW hx hb hr hlk rfl rfl hw hS dX4_year_23
def fX4_keep (Y : YS) (o : OS) : Option (Int32 × YS × OS) := if (o 15 0) < 2 then (fX1_put_k Y o 0).bind (fun r2 => (some ((r2.2 15 0), r2.1, r2.2))) else some ((-3), Y, o)
abbrev rmX4_keep : Room := { frames := 2, cells := 0, slots := 0, locals := 43 }
set_option maxHeartbeats 4000000 in
set_option maxRecDepth 100000 in
theorem c_X4_keep (l : Launch) (E : En) (aY : Nat → Nat → Nat) (ao : Nat → Nat) (Y : YS) (o : OS) (r : Int32 × YS × OS) (h : fX4_keep Y o = some r) : Met l yX4_keep (kX4_keep :: BIG) rmX4_keep (Pk E [.ref (ao 0)] (CW E aY ao Y o)) (QW (some (.int r.1)) (AC aY ao) (CW E aY ao r.2.1 r.2.2)) 0 0 (AC aY ao) := by
  refine Mb (by decide) (Nat.le_of_ble_eq_true rfl) ?_
  intro p e s m below meth c ls hx hb hr hlk hB hown hml _ hK hw hl
  have hS : va_S (AC aY ao) s.heap s.heap [] := va_S.rf
  have hl : lv_has ls 1 [(0, .ref (ao 0))] := hl
  rw [fX4_keep] at h
  refine lv_aload_n hx hb dX4_keep_0 rfl (lv_at hl 0 rfl) ?_
  refine gX4_45 hx hb hB hown hK hw dX4_keep_1 ?_
  refine gkX4_161 hx hb hB hown hK hw dX4_keep_4 ?_
  refine lv_iconst (v := 2) hx hb dX4_keep_7 (by decide) ?_
  refine lv_icmp_lt (tgt := 14) hx hb dX4_keep_8 (by decide) (fun g1 => ?_) (fun g1 => ?_)
  · rw [if_pos g1] at h
    refine lv_aload_n hx hb dX4_keep_14 rfl (lv_at hl 0 rfl) ?_
    refine gX4_45 hx hb hB hown hK hw dX4_keep_15 ?_
    refine lv_aload_n hx hb dX4_keep_18 rfl (lv_at hl 0 rfl) ?_
    refine gX4_19 hx hb hB hown hK hw dX4_keep_19 ?_
    obtain ⟨r2, e2, h⟩ := ob h
    refine k_VWv ⟨hx, hb, hml, hown, hB⟩ (c_X1_put_k l E aY ao Y o 0 (by decide) r2 e2) (clX4_134 hB rfl rfl ⟨Nat.le_of_ble_eq_true rfl, Nat.le_of_ble_eq_true rfl⟩) hK hw (rvO15 hK hw) rfl hl.1 rfl (Nat.le_of_ble_eq_true rfl) dX4_keep_22 ⟨Nat.zero_le _, Nat.zero_le _⟩ hS (fun _ z => z) (fun H3 L3 hw _ _ hS => ?_)
    refine lv_aload_n hx hb dX4_keep_25 rfl (lv_at hl 0 rfl) ?_
    refine gX4_45 hx hb hB hown hK hw dX4_keep_26 ?_
    refine gkX4_161 hx hb hB hown hK hw dX4_keep_29 ?_
    cases h
    exact e_zW hx hb hr hlk rfl rfl hw hS dX4_keep_32
  · rw [if_neg g1] at h
    refine lv_bipush (v := (-3)) hx hb dX4_keep_11 (by decide) ?_
    cases h
    exact e_zW hx hb hr hlk rfl rfl hw hS dX4_keep_13
def fX4_back (Y : YS) (o : OS) : Option (Int32 × YS × OS) := if (o 15 0) = 0 then some ((-2), Y, o) else (fX1_take_k Y o 0).bind (fun r2 => ((fX1_clear_p r2.1 r2.2).bind (fun r4 => (some ((r4.2 15 0), r4.1, r4.2)))))
abbrev rmX4_back : Room := { frames := 2, cells := 0, slots := 0, locals := 43 }
set_option maxHeartbeats 4000000 in
set_option maxRecDepth 100000 in
theorem c_X4_back (l : Launch) (E : En) (aY : Nat → Nat → Nat) (ao : Nat → Nat) (Y : YS) (o : OS) (r : Int32 × YS × OS) (h : fX4_back Y o = some r) : Met l yX4_back (kX4_back :: BIG) rmX4_back (Pk E [.ref (ao 0)] (CW E aY ao Y o)) (QW (some (.int r.1)) (AC aY ao) (CW E aY ao r.2.1 r.2.2)) 0 0 (AC aY ao) := by
  refine Mb (by decide) (Nat.le_of_ble_eq_true rfl) ?_
  intro p e s m below meth c ls hx hb hr hlk hB hown hml _ hK hw hl
  have hS : va_S (AC aY ao) s.heap s.heap [] := va_S.rf
  have hl : lv_has ls 1 [(0, .ref (ao 0))] := hl
  rw [fX4_back] at h
  refine lv_aload_n hx hb dX4_back_0 rfl (lv_at hl 0 rfl) ?_
  refine gX4_45 hx hb hB hown hK hw dX4_back_1 ?_
  refine gkX4_161 hx hb hB hown hK hw dX4_back_4 ?_
  refine lv_if_ne (tgt := 13) hx hb dX4_back_7 (by decide) (fun g1 => ?_) (fun g1 => ?_)
  · rw [if_neg g1] at h
    refine lv_aload_n hx hb dX4_back_13 rfl (lv_at hl 0 rfl) ?_
    refine gX4_45 hx hb hB hown hK hw dX4_back_14 ?_
    refine lv_aload_n hx hb dX4_back_17 rfl (lv_at hl 0 rfl) ?_
    refine gX4_19 hx hb hB hown hK hw dX4_back_18 ?_
    obtain ⟨r2, e2, h⟩ := ob h
    refine k_VWv ⟨hx, hb, hml, hown, hB⟩ (c_X1_take_k l E aY ao Y o 0 (by decide) r2 e2) (clX4_164 hB rfl rfl ⟨Nat.le_of_ble_eq_true rfl, Nat.le_of_ble_eq_true rfl⟩) hK hw (rvO15 hK hw) rfl hl.1 rfl (Nat.le_of_ble_eq_true rfl) dX4_back_21 ⟨Nat.zero_le _, Nat.zero_le _⟩ hS (fun _ z => z) (fun H3 L3 hw _ _ hS => ?_)
    refine lv_aload_n hx hb dX4_back_24 rfl (lv_at hl 0 rfl) ?_
    refine gX4_41 hx hb hB hown hK hw dX4_back_25 ?_
    obtain ⟨r4, e4, h⟩ := ob h
    refine k_VWv ⟨hx, hb, hml, hown, hB⟩ (c_X1_clear_p l E aY ao r2.1 r2.2 r4 e4) (clX4_85 hB rfl rfl ⟨Nat.le_of_ble_eq_true rfl, Nat.le_of_ble_eq_true rfl⟩) hK hw (rvO13 hK hw) rfl hl.1 rfl (Nat.le_of_ble_eq_true rfl) dX4_back_28 ⟨Nat.zero_le _, Nat.zero_le _⟩ hS (fun _ z => z) (fun H5 L5 hw _ _ hS => ?_)
    refine lv_aload_n hx hb dX4_back_31 rfl (lv_at hl 0 rfl) ?_
    refine gX4_45 hx hb hB hown hK hw dX4_back_32 ?_
    refine gkX4_161 hx hb hB hown hK hw dX4_back_35 ?_
    cases h
    exact e_zW hx hb hr hlk rfl rfl hw hS dX4_back_38
  · rw [if_pos g1] at h
    refine lv_bipush (v := (-2)) hx hb dX4_back_10 (by decide) ?_
    cases h
    exact e_zW hx hb hr hlk rfl rfl hw hS dX4_back_12
def fX4_count (Y : YS) (o : OS) (a1 : Int32) : Option (Int32) := if a1 = 0 then some (Y 0 0 2) else if a1 = 1 then some (Y 0 0 3) else if a1 = 2 then some (Y 0 0 0) else if a1 = 3 then some (Y 0 0 1) else if a1 = 4 then (fX3_doubles (Y 0)).bind (fun r6 => (some r6)) else if a1 = 5 then some (o 0 9) else if a1 = 6 then some (o 13 0) else if a1 = 7 then some (o 15 0) else if a1 = 8 then some (o 3 0) else if (a1).toInt < 0 ∨ 8 < (a1).toInt then some (-1) else none
abbrev rmX4_count : Room := { frames := 4, cells := 0, slots := 0, locals := 89 }
set_option maxHeartbeats 4000000 in
set_option maxRecDepth 100000 in
theorem c_X4_count (l : Launch) (E : En) (aY : Nat → Nat → Nat) (ao : Nat → Nat) (Y : YS) (o : OS) (a1 : Int32) (r : Int32) (h : fX4_count Y o a1 = some r) : Met l yX4_count (kX4_count :: BIG) rmX4_count (Pk E [.ref (ao 0), .int a1] (CW E aY ao Y o)) (QcRead r) 0 0 (fun _ => False) := by
  refine Mb (by decide) (Nat.le_of_ble_eq_true rfl) ?_
  intro p e s m below meth c ls hx hb hr hlk hB hown hml _ hK hw hl
  have hl : lv_has ls 2 [(0, .ref (ao 0)), (1, .int a1)] := hl
  rw [fX4_count] at h
  refine lv_iload_n hx hb dX4_count_0 rfl (lv_at hl 1 rfl) ?_
  by_cases g1 : a1 = 0
  · rw [if_pos g1] at h
    refine lv_tableIn (off := 51) (tgt := 52) hx hb dX4_count_1 (by rw [g1]; decide) (by rw [g1]; decide) (by rw [g1]; rfl) (by decide) ?_
    refine lv_aload_n hx hb dX4_count_52 rfl (lv_at hl 0 rfl) ?_
    refine gX4_19 hx hb hB hown hK hw dX4_count_53 ?_
    refine gX4_78 hx hb hB hown hK (hw.yd (by decide)) dX4_count_56 ?_
    exact e_zR hx hb hr hlk rfl h dX4_count_59
  · rw [if_neg g1] at h
    by_cases g2 : a1 = 1
    · rw [if_pos g2] at h
      refine lv_tableIn (off := 59) (tgt := 60) hx hb dX4_count_1 (by rw [g2]; decide) (by rw [g2]; decide) (by rw [g2]; rfl) (by decide) ?_
      refine lv_aload_n hx hb dX4_count_60 rfl (lv_at hl 0 rfl) ?_
      refine gX4_19 hx hb hB hown hK hw dX4_count_61 ?_
      refine gX4_155 hx hb hB hown hK (hw.yd (by decide)) dX4_count_64 ?_
      exact e_zR hx hb hr hlk rfl h dX4_count_67
    · rw [if_neg g2] at h
      by_cases g3 : a1 = 2
      · rw [if_pos g3] at h
        refine lv_tableIn (off := 67) (tgt := 68) hx hb dX4_count_1 (by rw [g3]; decide) (by rw [g3]; decide) (by rw [g3]; rfl) (by decide) ?_
        refine lv_aload_n hx hb dX4_count_68 rfl (lv_at hl 0 rfl) ?_
        refine gX4_19 hx hb hB hown hK hw dX4_count_69 ?_
        refine gX4_236 hx hb hB hown hK (hw.yd (by decide)) dX4_count_72 ?_
        exact e_zR hx hb hr hlk rfl h dX4_count_75
      · rw [if_neg g3] at h
        by_cases g4 : a1 = 3
        · rw [if_pos g4] at h
          refine lv_tableIn (off := 75) (tgt := 76) hx hb dX4_count_1 (by rw [g4]; decide) (by rw [g4]; decide) (by rw [g4]; rfl) (by decide) ?_
          refine lv_aload_n hx hb dX4_count_76 rfl (lv_at hl 0 rfl) ?_
          refine gX4_19 hx hb hB hown hK hw dX4_count_77 ?_
          refine gX4_196 hx hb hB hown hK (hw.yd (by decide)) dX4_count_80 ?_
          exact e_zR hx hb hr hlk rfl h dX4_count_83
        · rw [if_neg g4] at h
          by_cases g5 : a1 = 4
          · rw [if_pos g5] at h
            refine lv_tableIn (off := 83) (tgt := 84) hx hb dX4_count_1 (by rw [g5]; decide) (by rw [g5]; decide) (by rw [g5]; rfl) (by decide) ?_
            refine lv_aload_n hx hb dX4_count_84 rfl (lv_at hl 0 rfl) ?_
            refine gX4_19 hx hb hB hown hK hw dX4_count_85 ?_
            obtain ⟨r6, e6, h⟩ := ob h
            refine k_VR ⟨hx, hb, hml, hown, hB⟩ (c_X3_doubles l E (aY 0) (Y 0) r6 e6) (clX4_239 hB rfl rfl ⟨Nat.le_of_ble_eq_true rfl, Nat.le_of_ble_eq_true rfl⟩) hK (hw.yd (by decide)) (rvY hK (hw.yd (by decide))) rfl hl.1 rfl (Nat.le_of_ble_eq_true rfl) dX4_count_88 ⟨Nat.zero_le _, Nat.zero_le _⟩ ?_
            exact e_zR hx hb hr hlk rfl h dX4_count_91
          · rw [if_neg g5] at h
            by_cases g7 : a1 = 5
            · rw [if_pos g7] at h
              refine lv_tableIn (off := 91) (tgt := 92) hx hb dX4_count_1 (by rw [g7]; decide) (by rw [g7]; decide) (by rw [g7]; rfl) (by decide) ?_
              refine lv_aload_n hx hb dX4_count_92 rfl (lv_at hl 0 rfl) ?_
              refine gX4_88 hx hb hB hown hK hw dX4_count_93 ?_
              exact e_zR hx hb hr hlk rfl h dX4_count_96
            · rw [if_neg g7] at h
              by_cases g8 : a1 = 6
              · rw [if_pos g8] at h
                refine lv_tableIn (off := 96) (tgt := 97) hx hb dX4_count_1 (by rw [g8]; decide) (by rw [g8]; decide) (by rw [g8]; rfl) (by decide) ?_
                refine lv_aload_n hx hb dX4_count_97 rfl (lv_at hl 0 rfl) ?_
                refine gX4_41 hx hb hB hown hK hw dX4_count_98 ?_
                refine gpX4_161 hx hb hB hown hK hw dX4_count_101 ?_
                exact e_zR hx hb hr hlk rfl h dX4_count_104
              · rw [if_neg g8] at h
                by_cases g9 : a1 = 7
                · rw [if_pos g9] at h
                  refine lv_tableIn (off := 104) (tgt := 105) hx hb dX4_count_1 (by rw [g9]; decide) (by rw [g9]; decide) (by rw [g9]; rfl) (by decide) ?_
                  refine lv_aload_n hx hb dX4_count_105 rfl (lv_at hl 0 rfl) ?_
                  refine gX4_45 hx hb hB hown hK hw dX4_count_106 ?_
                  refine gkX4_161 hx hb hB hown hK hw dX4_count_109 ?_
                  exact e_zR hx hb hr hlk rfl h dX4_count_112
                · rw [if_neg g9] at h
                  by_cases g10 : a1 = 8
                  · rw [if_pos g10] at h
                    refine lv_tableIn (off := 112) (tgt := 113) hx hb dX4_count_1 (by rw [g10]; decide) (by rw [g10]; decide) (by rw [g10]; rfl) (by decide) ?_
                    refine lv_aload_n hx hb dX4_count_113 rfl (lv_at hl 0 rfl) ?_
                    refine gX4_10 hx hb hB hown hK hw dX4_count_114 ?_
                    refine gX4_75 hx hb hB hown hK hw dX4_count_117 ?_
                    exact e_zR hx hb hr hlk rfl h dX4_count_120
                  · rw [if_neg g10] at h
                    by_cases g11 : (a1).toInt < 0 ∨ 8 < (a1).toInt
                    · rw [if_pos g11] at h
                      refine lv_tableOut (tgt := 121) hx hb dX4_count_1 g11 (by decide) ?_
                      refine lv_iconst (v := (-1)) hx hb dX4_count_121 (by decide) ?_
                      exact e_zR hx hb hr hlk rfl h dX4_count_122
                    · rw [if_neg g11] at h
                      exact nn h
