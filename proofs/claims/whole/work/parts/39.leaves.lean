/-! the constructors -/
theorem imObj : Cond.instanceMethod objectInit ∈ BIG := bg (inT1 (List.mem_of_getElem? (i := 19) (by decide +kernel))) rfl
theorem mcObj : Cond.code objectInit ⟨#[0xb1]⟩ 1 none ∈ BIG := bg (inT1 (List.mem_of_getElem? (i := 20) (by decide +kernel))) rfl
theorem oiX0 : Cond.methodLink RX0 3 objectInit ∈ BIG := bg (inT1 (List.mem_of_getElem? (i := 105) (by decide +kernel))) rfl
theorem oiX1 : Cond.methodLink RX1 1 objectInit ∈ BIG := bg (inT1 (List.mem_of_getElem? (i := 146) (by decide +kernel))) rfl
theorem oiX2 : Cond.methodLink RX2 3 objectInit ∈ BIG := bg (inT1 (List.mem_of_getElem? (i := 26) (by decide +kernel))) rfl
theorem oiX3 : Cond.methodLink RX3 3 objectInit ∈ BIG := bg (inT1 (List.mem_of_getElem? (i := 51) (by decide +kernel))) rfl
theorem oiX4 : Cond.methodLink RX4 1 objectInit ∈ BIG := bg (inT1 (List.mem_of_getElem? (i := 18) (by decide +kernel))) rfl
theorem oiX5 : Cond.methodLink RX5 1 objectInit ∈ BIG := bg (inT3 (List.mem_of_getElem? (i := 189) (by decide +kernel))) rfl
theorem clX4_c7 : Cond.classLink RX4 7 RX2 ∈ BIG := bg (inT1 (List.mem_of_getElem? (i := 21) (by decide +kernel))) rfl
theorem clX4_c16 : Cond.classLink RX4 16 RX3 ∈ BIG := bg (inT1 (List.mem_of_getElem? (i := 46) (by decide +kernel))) rfl
theorem clX4_c29 : Cond.classLink RX4 29 RX0 ∈ BIG := bg (inT1 (List.mem_of_getElem? (i := 100) (by decide +kernel))) rfl
theorem clX4_c36 : Cond.classLink RX4 36 RX1 ∈ BIG := bg (inT1 (List.mem_of_getElem? (i := 141) (by decide +kernel))) rfl
theorem clX1_c13 : Cond.classLink RX1 13 RX3 ∈ BIG := bg (inT1 (List.mem_of_getElem? (i := 150) (by decide +kernel))) rfl
theorem clL_c7 : Cond.classLink RL 7 RX4 ∈ BIG := bg (inT1 (List.mem_of_getElem? (i := 13) (by decide +kernel))) rfl
theorem clL_c10 : Cond.classLink RL 10 RX5 ∈ BIG := bg (inT3 (List.mem_of_getElem? (i := 184) (by decide +kernel))) rfl
theorem insX0 : Cond.instantiable RX0 11 ∈ BIG := bg (inT1 (List.mem_of_getElem? (i := 101) (by decide +kernel))) rfl
theorem insX1 : Cond.instantiable RX1 2 ∈ BIG := bg (inT1 (List.mem_of_getElem? (i := 142) (by decide +kernel))) rfl
theorem insX2 : Cond.instantiable RX2 5 ∈ BIG := bg (inT1 (List.mem_of_getElem? (i := 22) (by decide +kernel))) rfl
theorem insX3 : Cond.instantiable RX3 10 ∈ BIG := bg (inT1 (List.mem_of_getElem? (i := 47) (by decide +kernel))) rfl
theorem insX4 : Cond.instantiable RX4 10 ∈ BIG := bg (inT1 (List.mem_of_getElem? (i := 14) (by decide +kernel))) rfl
theorem insX5 : Cond.instantiable RX5 26 ∈ BIG := bg (inT3 (List.mem_of_getElem? (i := 185) (by decide +kernel))) rfl
theorem miX4_18 : Cond.methodLink RX4 18 yX3_init ∈ BIG := bg (inT1 (List.mem_of_getElem? (i := 48) (by decide +kernel))) rfl
theorem miX4_38 : Cond.methodLink RX4 38 yX1_init ∈ BIG := bg (inT1 (List.mem_of_getElem? (i := 143) (by decide +kernel))) rfl
theorem miX1_21 : Cond.methodLink RX1 21 yX3_init ∈ BIG := bg (inT1 (List.mem_of_getElem? (i := 152) (by decide +kernel))) rfl
theorem miL_9 : Cond.methodLink RL 9 yX4_init ∈ BIG := bg (inT1 (List.mem_of_getElem? (i := 15) (by decide +kernel))) rfl
theorem miL_12 : Cond.methodLink RL 12 yX5_init ∈ BIG := bg (inT3 (List.mem_of_getElem? (i := 186) (by decide +kernel))) rfl
def zO : OS := fun _ _ => 0
def yE : OS := (fX3_empty zO).getD zO
theorem yE_ok : fX3_empty zO = some yE := by
  obtain ⟨y', e, -⟩ := y_empty zO
  rw [yE, e]; rfl
theorem yE_row : RY yE (an zr 6) 6 60 := by
  obtain ⟨y', e, r⟩ := y_empty zO
  rw [yE, e]; exact r
theorem Ij_n (n N : Nat) : Ij N (fun c => n + c) := fun i j _ _ h => Nat.add_left_cancel h
def clT (E : En) : Nat → va_E := fun j => match j with
  | 1 => .inl (E.2 1, 200, .inl (fun _ => 0))
  | _ => .inl (E.2 0, 3, .inl (fun _ => 0))
def clB (E : En) : Nat → va_E := fun j => match j with
  | 4 => .inl (E.2 0, 64, .inl (fun _ => 0))
  | _ => .inl (E.2 0, 6, .inl (fun _ => 0))
abbrev rmX3_init : Room := { frames := 2, cells := 6, slots := 64, locals := 41 }
set_option maxHeartbeats 4000000 in
set_option maxRecDepth 100000 in
theorem c_X3_init (l : Launch) (E : En) (n : Nat) : Met l yX3_init (kX3_init :: BIG) rmX3_init (Pk E [.ref n] (fun H => H.size = n + 1 ∧ va_at E.1 vwCl (n, .inr (3, [.int 0, .int 0, .int 0, .int 0, .null, .null, .null, .null, .null, .null])) H)) (QW none (fun q => n ≤ q) (fun H => H.size = n + 7 ∧ Yd E (fun c => n + c) yE H)) 6 64 (fun q => n ≤ q) := by
  refine Mb (by decide) (Nat.le_of_ble_eq_true rfl) ?_
  intro p e s m below meth c ls hx hb hr hlk hB hown hml hnm hK hw hl
  obtain ⟨hz, hw⟩ := hw
  have hS : va_S (fun q => n ≤ q) s.heap s.heap [] := va_S.rf
  have hl : lv_has ls 1 [(0, .ref n)] := hl
  have hin2 : meth.name = "<init>" := hnm
  have hA : ∀ q : Nat, n ≤ q → (fun q => n ≤ q) q := fun _ z => z
  have st : St E 3 n 1 [.int 0, .int 0, .int 0, .int 0, .null, .null, .null, .null, .null, .null] (cY E (fun c => n + c) zO) s.heap := St.one hz hw
  refine lv_aload_n hx hb dX3_init_0 rfl (lv_at hl 0 rfl) ?_
  refine W.objInit hx hb hown (hB _ oiX3) (hB _ imObj) (hB _ mcObj) rfl (by rw [hml]; exact hl.1) rfl dX3_init_1 (Nat.le_of_ble_eq_true rfl) (Nat.le_of_ble_eq_true rfl) ?_
  refine W.eq (g2 := F0 m 4 ls []) rfl ?_
  refine lv_aload_n hx hb dX3_init_4 rfl (lv_at hl 0 rfl) ?_
  refine lv_bipush (v := 12) hx hb dX3_init_5 (by decide) ?_
  refine r_np (len := 12) hx hb hB inX3 tyX3 tyX3_ok nmX3 hown hin2 hK st hS hA rfl 4 (by decide) lkX3_9 rfl rfl (by decide +kernel) (Nat.le_of_ble_eq_true rfl) (by decide) rfl (by decide) rfl (Nat.le_of_ble_eq_true rfl) (Nat.le_of_ble_eq_true rfl) dX3_init_7 dX3_init_9 (fun H L st hS => ?_)
  refine lv_aload_n hx hb dX3_init_12 rfl (lv_at hl 0 rfl) ?_
  refine lv_bipush (v := 12) hx hb dX3_init_13 (by decide) ?_
  refine r_np (len := 12) hx hb hB inX3 tyX3 tyX3_ok nmX3 hown hin2 hK st hS hA rfl 5 (by decide) lkX3_15 rfl rfl (by decide +kernel) (Nat.le_of_ble_eq_true rfl) (by decide) rfl (by decide) rfl (Nat.le_of_ble_eq_true rfl) (Nat.le_of_ble_eq_true rfl) dX3_init_15 dX3_init_17 (fun H L st hS => ?_)
  refine lv_aload_n hx hb dX3_init_20 rfl (lv_at hl 0 rfl) ?_
  refine lv_bipush (v := 12) hx hb dX3_init_21 (by decide) ?_
  refine r_np (len := 12) hx hb hB inX3 tyX3 tyX3_ok nmX3 hown hin2 hK st hS hA rfl 6 (by decide) lkX3_18 rfl rfl (by decide +kernel) (Nat.le_of_ble_eq_true rfl) (by decide) rfl (by decide) rfl (Nat.le_of_ble_eq_true rfl) (Nat.le_of_ble_eq_true rfl) dX3_init_23 dX3_init_25 (fun H L st hS => ?_)
  refine lv_aload_n hx hb dX3_init_28 rfl (lv_at hl 0 rfl) ?_
  refine lv_bipush (v := 16) hx hb dX3_init_29 (by decide) ?_
  refine r_np (len := 16) hx hb hB inX3 tyX3 tyX3_ok nmX3 hown hin2 hK st hS hA rfl 7 (by decide) lkX3_21 rfl rfl (by decide +kernel) (Nat.le_of_ble_eq_true rfl) (by decide) rfl (by decide) rfl (Nat.le_of_ble_eq_true rfl) (Nat.le_of_ble_eq_true rfl) dX3_init_31 dX3_init_33 (fun H L st hS => ?_)
  refine lv_aload_n hx hb dX3_init_36 rfl (lv_at hl 0 rfl) ?_
  refine lv_bipush (v := 6) hx hb dX3_init_37 (by decide) ?_
  refine r_np (len := 6) hx hb hB inX3 tyX3 tyX3_ok nmX3 hown hin2 hK st hS hA rfl 8 (by decide) lkX3_24 rfl rfl (by decide +kernel) (Nat.le_of_ble_eq_true rfl) (by decide) rfl (by decide) rfl (Nat.le_of_ble_eq_true rfl) (Nat.le_of_ble_eq_true rfl) dX3_init_39 dX3_init_41 (fun H L st hS => ?_)
  refine lv_aload_n hx hb dX3_init_44 rfl (lv_at hl 0 rfl) ?_
  refine lv_bipush (v := 6) hx hb dX3_init_45 (by decide) ?_
  refine r_np (len := 6) hx hb hB inX3 tyX3 tyX3_ok nmX3 hown hin2 hK st hS hA rfl 9 (by decide) lkX3_27 rfl rfl (by decide +kernel) (Nat.le_of_ble_eq_true rfl) (by decide) rfl (by decide) rfl (Nat.le_of_ble_eq_true rfl) (Nat.le_of_ble_eq_true rfl) dX3_init_47 dX3_init_49 (fun H L st hS => ?_)
  have hy : Yd E (fun c => n + c) zO H := ⟨fun c hc => by
    cases c with
    | zero => exact st.2.2.1
    | succ c => exact st.2.2.2 (c + 1) (by omega) hc, Ij_n n 7⟩
  refine lv_aload_n hx hb dX3_init_52 rfl (lv_at hl 0 rfl) ?_
  refine k_VWv (b := n) ⟨hx, hb, hml, hown, hB⟩ (c_X3_empty l E (fun c => n + c) zO yE yE_ok) (clX3_30 hB rfl rfl ⟨Nat.le_of_ble_eq_true rfl, Nat.le_of_ble_eq_true rfl⟩) hK hy (rvY hK hy) rfl hl.1 rfl (Nat.le_of_ble_eq_true rfl) dX3_init_53 ⟨Nat.le_of_ble_eq_true rfl, Nat.le_of_ble_eq_true rfl⟩ hS (fun q h => by obtain ⟨c, -, rfl⟩ := h; exact Nat.le_add_right n c) (fun H6 L6 hw h6 _ hS => ?_)
  have h7 := st.1
  refine W_sz (fun hsz => ?_)
  exact e_vW hx hb hr hlk ⟨by omega, hw⟩ hS dX3_init_56
abbrev rmX2_init : Room := { frames := 1, cells := 2, slots := 203, locals := 12 }
set_option maxHeartbeats 4000000 in
set_option maxRecDepth 100000 in
theorem c_X2_init (l : Launch) (E : En) (n : Nat) : Met l yX2_init (kX2_init :: BIG) rmX2_init (Pk E [.ref n] (fun H => H.size = n + 1 ∧ va_at E.1 vwCl (n, .inr (2, [.int 0, .int 0, .int 0, .null, .null])) H)) (QW none (fun q => n ≤ q) (St E 2 n 3 [.int 0, .int 0, .int 0, .ref (n + 1), .ref (n + 2)] (clT E))) 2 203 (fun q => n ≤ q) := by
  refine Mb (by decide) (Nat.le_of_ble_eq_true rfl) ?_
  intro p e s m below meth c ls hx hb hr hlk hB hown hml hnm hK hw hl
  obtain ⟨hz, hw⟩ := hw
  have hS : va_S (fun q => n ≤ q) s.heap s.heap [] := va_S.rf
  have hl : lv_has ls 1 [(0, .ref n)] := hl
  have hin2 : meth.name = "<init>" := hnm
  have hA : ∀ q : Nat, n ≤ q → (fun q => n ≤ q) q := fun _ z => z
  have st : St E 2 n 1 [.int 0, .int 0, .int 0, .null, .null] (clT E) s.heap := St.one hz hw
  refine lv_aload_n hx hb dX2_init_0 rfl (lv_at hl 0 rfl) ?_
  refine W.objInit hx hb hown (hB _ oiX2) (hB _ imObj) (hB _ mcObj) rfl (by rw [hml]; exact hl.1) rfl dX2_init_1 (Nat.le_of_ble_eq_true rfl) (Nat.le_of_ble_eq_true rfl) ?_
  refine W.eq (g2 := F0 m 4 ls []) rfl ?_
  refine lv_aload_n hx hb dX2_init_4 rfl (lv_at hl 0 rfl) ?_
  refine lv_sipush (v := 200) hx hb dX2_init_5 (by decide) ?_
  refine r_npc (len := 200) hx hb hB inX2 tyX2 tyX2_ok nmX2 hown hin2 hK st hS hA rfl 3 (by decide) lkX2_9 rfl rfl (by decide +kernel) (Nat.le_of_ble_eq_true rfl) (by decide) rfl (by decide) rfl (Nat.le_of_ble_eq_true rfl) (Nat.le_of_ble_eq_true rfl) dX2_init_8 dX2_init_10 (fun H L st hS => ?_)
  refine lv_aload_n hx hb dX2_init_13 rfl (lv_at hl 0 rfl) ?_
  refine lv_iconst (v := 3) hx hb dX2_init_14 (by decide) ?_
  refine r_np (len := 3) hx hb hB inX2 tyX2 tyX2_ok nmX2 hown hin2 hK st hS hA rfl 4 (by decide) lkX2_15 rfl rfl (by decide +kernel) (Nat.le_of_ble_eq_true rfl) (by decide) rfl (by decide) rfl (Nat.le_of_ble_eq_true rfl) (Nat.le_of_ble_eq_true rfl) dX2_init_15 dX2_init_17 (fun H L st hS => ?_)
  exact e_vW hx hb hr hlk st hS dX2_init_20
abbrev rmX0_init : Room := { frames := 1, cells := 6, slots := 94, locals := 12 }
set_option maxHeartbeats 4000000 in
set_option maxRecDepth 100000 in
theorem c_X0_init (l : Launch) (E : En) (n : Nat) : Met l yX0_init (kX0_init :: BIG) rmX0_init (Pk E [.ref n] (fun H => H.size = n + 1 ∧ va_at E.1 vwCl (n, .inr (0, [.int 0, .int 0, .null, .null, .null, .null, .null, .null, .int 0, .int 0, .int 0])) H)) (QW none (fun q => n ≤ q) (St E 0 n 7 [.int 0, .int 0, .ref (n + 1), .ref (n + 2), .ref (n + 3), .ref (n + 4), .ref (n + 5), .ref (n + 6), .int 0, .int 0, .int 0] (clB E))) 6 94 (fun q => n ≤ q) := by
  refine Mb (by decide) (Nat.le_of_ble_eq_true rfl) ?_
  intro p e s m below meth c ls hx hb hr hlk hB hown hml hnm hK hw hl
  obtain ⟨hz, hw⟩ := hw
  have hS : va_S (fun q => n ≤ q) s.heap s.heap [] := va_S.rf
  have hl : lv_has ls 1 [(0, .ref n)] := hl
  have hin2 : meth.name = "<init>" := hnm
  have hA : ∀ q : Nat, n ≤ q → (fun q => n ≤ q) q := fun _ z => z
  have st : St E 0 n 1 [.int 0, .int 0, .null, .null, .null, .null, .null, .null, .int 0, .int 0, .int 0] (clB E) s.heap := St.one hz hw
  refine lv_aload_n hx hb dX0_init_0 rfl (lv_at hl 0 rfl) ?_
  refine W.objInit hx hb hown (hB _ oiX0) (hB _ imObj) (hB _ mcObj) rfl (by rw [hml]; exact hl.1) rfl dX0_init_1 (Nat.le_of_ble_eq_true rfl) (Nat.le_of_ble_eq_true rfl) ?_
  refine W.eq (g2 := F0 m 4 ls []) rfl ?_
  refine lv_aload_n hx hb dX0_init_4 rfl (lv_at hl 0 rfl) ?_
  refine lv_bipush (v := 6) hx hb dX0_init_5 (by decide) ?_
  refine r_np (len := 6) hx hb hB inX0 tyX0 tyX0_ok nmX0 hown hin2 hK st hS hA rfl 2 (by decide) lkX0_9 rfl rfl (by decide +kernel) (Nat.le_of_ble_eq_true rfl) (by decide) rfl (by decide) rfl (Nat.le_of_ble_eq_true rfl) (Nat.le_of_ble_eq_true rfl) dX0_init_7 dX0_init_9 (fun H L st hS => ?_)
  refine lv_aload_n hx hb dX0_init_12 rfl (lv_at hl 0 rfl) ?_
  refine lv_bipush (v := 6) hx hb dX0_init_13 (by decide) ?_
  refine r_np (len := 6) hx hb hB inX0 tyX0 tyX0_ok nmX0 hown hin2 hK st hS hA rfl 3 (by decide) lkX0_15 rfl rfl (by decide +kernel) (Nat.le_of_ble_eq_true rfl) (by decide) rfl (by decide) rfl (Nat.le_of_ble_eq_true rfl) (Nat.le_of_ble_eq_true rfl) dX0_init_15 dX0_init_17 (fun H L st hS => ?_)
  refine lv_aload_n hx hb dX0_init_20 rfl (lv_at hl 0 rfl) ?_
  refine lv_bipush (v := 6) hx hb dX0_init_21 (by decide) ?_
  refine r_np (len := 6) hx hb hB inX0 tyX0 tyX0_ok nmX0 hown hin2 hK st hS hA rfl 4 (by decide) lkX0_18 rfl rfl (by decide +kernel) (Nat.le_of_ble_eq_true rfl) (by decide) rfl (by decide) rfl (Nat.le_of_ble_eq_true rfl) (Nat.le_of_ble_eq_true rfl) dX0_init_23 dX0_init_25 (fun H L st hS => ?_)
  refine lv_aload_n hx hb dX0_init_28 rfl (lv_at hl 0 rfl) ?_
  refine lv_bipush (v := 64) hx hb dX0_init_29 (by decide) ?_
  refine r_np (len := 64) hx hb hB inX0 tyX0 tyX0_ok nmX0 hown hin2 hK st hS hA rfl 5 (by decide) lkX0_21 rfl rfl (by decide +kernel) (Nat.le_of_ble_eq_true rfl) (by decide) rfl (by decide) rfl (Nat.le_of_ble_eq_true rfl) (Nat.le_of_ble_eq_true rfl) dX0_init_31 dX0_init_33 (fun H L st hS => ?_)
  refine lv_aload_n hx hb dX0_init_36 rfl (lv_at hl 0 rfl) ?_
  refine lv_bipush (v := 6) hx hb dX0_init_37 (by decide) ?_
  refine r_np (len := 6) hx hb hB inX0 tyX0 tyX0_ok nmX0 hown hin2 hK st hS hA rfl 6 (by decide) lkX0_24 rfl rfl (by decide +kernel) (Nat.le_of_ble_eq_true rfl) (by decide) rfl (by decide) rfl (Nat.le_of_ble_eq_true rfl) (Nat.le_of_ble_eq_true rfl) dX0_init_39 dX0_init_41 (fun H L st hS => ?_)
  refine lv_aload_n hx hb dX0_init_44 rfl (lv_at hl 0 rfl) ?_
  refine lv_bipush (v := 6) hx hb dX0_init_45 (by decide) ?_
  refine r_np (len := 6) hx hb hB inX0 tyX0 tyX0_ok nmX0 hown hin2 hK st hS hA rfl 7 (by decide) lkX0_27 rfl rfl (by decide +kernel) (Nat.le_of_ble_eq_true rfl) (by decide) rfl (by decide) rfl (Nat.le_of_ble_eq_true rfl) (Nat.le_of_ble_eq_true rfl) dX0_init_47 dX0_init_49 (fun H L st hS => ?_)
  exact e_vW hx hb hr hlk st hS dX0_init_52
