/-! the constructor of the class -/
def bY (i : Nat) : Nat := if i < 3 then 4 + 7 * i else if i < 11 then 34 + 7 * (i - 3) else 92 + 7 * (i - 11)
def bO (k : Nat) : Nat := [0, 106, 107, 1, 2, 3, 25, 26, 27, 28, 29, 30, 31, 32, 33, 90, 91].getD k 0
def aYn (n : Nat) : Nat → Nat → Nat := fun i c => n + bY i + c
def aOn (n : Nat) : Nat → Nat := fun k => n + bO k
def dec (j : Nat) : Nat × Nat := if j < 4 then (13, j + 2) else if j < 25 then ((j - 4) / 7, (j - 4) % 7) else if j < 34 then (13, j - 19) else if j < 90 then (3 + (j - 34) / 7, (j - 34) % 7) else if j < 92 then (13, j - 75) else if j < 106 then (11 + (j - 92) / 7, (j - 92) % 7) else (13, j - 105)
def clC (E : En) (n j : Nat) : va_E := if (dec j).1 < 13 then cY E (aYn n (dec j).1) yE (dec j).2 else cO E (aYn n) (aOn n) o00 (dec j).2
theorem dec_y : ∀ i, i < 13 → ∀ c, c < 7 → dec (bY i + c) = (i, c) := by decide +kernel
theorem dec_o : ∀ k, k < 17 → k ≠ 0 → dec (bO k) = (13, k) := by decide +kernel
theorem bY_b : ∀ i, i < 13 → ∀ c, c < 7 → 1 ≤ bY i + c ∧ bY i + c < 108 := by decide +kernel
theorem bO_b : ∀ k, k < 17 → k ≠ 0 → 1 ≤ bO k ∧ bO k < 108 := by decide +kernel
theorem bO_i : ∀ i, i < 17 → ∀ j, j < 17 → bO i = bO j → i = j := by decide +kernel
theorem bYO : ∀ i, i < 13 → ∀ c, c < 7 → ∀ k, k < 17 → bY i + c ≠ bO k := by decide +kernel
theorem clC_y {E : En} {n i c : Nat} (hi : i < 13) (hc : c < 7) : clC E n (bY i + c) = cY E (aYn n i) yE c := by
  unfold clC; rw [dec_y i hi c hc]; exact if_pos hi
theorem clC_o {E : En} {n k : Nat} (hk : k < 17) (h0 : k ≠ 0) : clC E n (bO k) = cO E (aYn n) (aOn n) o00 k := by
  unfold clC; rw [dec_o k hk h0]; exact if_neg (Nat.lt_irrefl 13)
theorem IjC_n (n : Nat) : IjC (aYn n) (aOn n) := by
  refine ⟨fun i j c d hi hj hc hd e => ?_, fun i j hi hj e => bO_i i hi j hj (Nat.add_left_cancel e), fun i c k hi hc hk e => ?_⟩
  · have e : n + bY i + c = n + bY j + d := e
    have e2 : bY i + c = bY j + d := by omega
    have := dec_y i hi c hc
    rw [e2, dec_y j hj d hd] at this
    cases this
    exact ⟨rfl, rfl⟩
  · have e : n + bY i + c = n + bO k := e
    exact bYO i hi c hc k hk (by omega)
theorem AC_n {n : Nat} : ∀ q, AC (aYn n) (aOn n) q → AN n q := by
  rintro q (⟨i, c, -, -, rfl⟩ | ⟨c, -, rfl⟩)
  · show n ≤ n + bY i + c; omega
  · show n ≤ n + bO c; omega
theorem bY_3 {i : Nat} (h : i < 8) : bY (3 + i) = 34 + 7 * i := by
  unfold bY; rw [if_neg (by omega), if_pos (by omega)]; omega
theorem bY_11 {i : Nat} : bY (11 + i) = 92 + 7 * i := by
  unfold bY; rw [if_neg (by omega), if_neg (by omega)]; omega
theorem blkS {E : En} {n b k i0 ko : Nat} {H : Heap} (h : ShW E (n + b) k H) (hk : k ≤ 8) (hi0 : i0 + k ≤ 13) (hb : ∀ i, i < k → bY (i0 + i) = b + 2 + 7 * i) (h0 : clC E n b = .inr (1, [.int 0, .ref (n + b + 1)])) (h1 : clC E n (b + 1) = .inl (E.2 2, k, .inr (.inr (.inr (.inr (fun j => some (aYn n (nI (i0 + j)).toNatClampNeg 0))))))) : ∀ j, j < 2 + 7 * k → va_at E.1 vwCl (n + b + j, clC E n (b + j)) H := by
  obtain ⟨-, w2, w3, w5⟩ := h
  intro j hj
  rcases (show j = 0 ∨ j = 1 ∨ 2 ≤ j by omega) with rfl | rfl | h2
  · show va_at E.1 vwCl (n + b, clC E n b) H; rw [h0]; exact w2
  · rw [h1]
    refine at_cgq w3 (fun j hj => ?_)
    rw [nI_clamp (by omega)]
    show some (n + b + 2 + 7 * j) = some (n + bY (i0 + j) + 0)
    rw [hb j hj]; congr 1; omega
  · obtain ⟨i, c, hi, hc, rfl⟩ : ∃ i c, i < k ∧ c < 7 ∧ j = 2 + 7 * i + c := ⟨(j - 2) / 7, (j - 2) % 7, by omega, by omega, by omega⟩
    have e := clC_y (E := E) (n := n) (i := i0 + i) (c := c) (by omega) hc
    rw [hb i hi] at e
    have ea : aYn n (i0 + i) = fun c => n + b + 2 + 7 * i + c := by
      funext c; show n + bY (i0 + i) + c = _; rw [hb i hi]; omega
    rw [ea] at e
    rw [show b + (2 + 7 * i + c) = b + 2 + 7 * i + c by omega, e, show n + b + (2 + 7 * i + c) = n + b + 2 + 7 * i + c by omega]
    exact (w5 i hi).1 c hc
theorem CW_of {E : En} {n : Nat} {H : Heap} (h : St E 4 n 108 [.ref (n + 1), .ref (n + 4), .ref (n + 11), .ref (n + 18), .ref (n + 25), .ref (n + 32), .ref (n + 90), .ref (n + 106), .ref (n + 107), .int 0] (clC E n) H) : CW E (aYn n) (aOn n) Y00 o00 H := by
  refine ⟨fun i hi c hc => ?_, fun k hk => ?_, IjC_n n⟩
  · have b := bY_b i hi c hc
    have e := h.2.2.2 (bY i + c) b.1 b.2
    rw [clC_y hi hc] at e
    have ea : aYn n i c = n + (bY i + c) := by show n + bY i + c = _; omega
    rw [ea]; exact e
  · by_cases k0 : k = 0
    · subst k0; exact h.2.2.1
    · have b := bO_b k hk k0
      have e := h.2.2.2 (bO k) b.1 b.2
      rw [clC_o hk k0] at e
      exact e
abbrev rmX4_init : Room := { frames := 10, cells := 107, slots := 1305, locals := 300 }
set_option maxHeartbeats 4000000 in
set_option maxRecDepth 100000 in
theorem c_X4_init (l : Launch) (E : En) (n q qv : Nat) : Met l yX4_init (kX4_init :: BIG) rmX4_init (PkG E (SF n q qv) [.ref n] (fun H => H.size = n + 1 ∧ va_at E.1 vwCl (n, .inr (4, [.null, .null, .null, .null, .null, .null, .null, .null, .null, .int 0])) H)) (QW none (AN n) (fun H => ∃ Y o, CW E (aYn n) (aOn n) Y o H ∧ CI Y o (an fF11 4) 4 40 P0 P0 Z0 X0)) 107 1305 (AN n) := by
  refine MbG (by decide) (Nat.le_of_ble_eq_true rfl) ?_
  intro p e s m below meth c ls hx hb hr hlk hB hown hml hnm hK hw hK2 hl
  obtain ⟨hz, hw⟩ := hw
  have hS : va_S (AN n) s.heap s.heap [] := va_S.rf
  have hl : lv_has ls 2 [(0, .ref n)] := hl
  have hin2 : meth.name = "<init>" := hnm
  have hA : ∀ q : Nat, n ≤ q → AN n q := fun _ z => z
  have loop : ∀ (d i : Nat) (H : Heap) (L : List Loc) (ls : Array Slot) (o : OS), i + d = 76 → lv_has ls 2 [(0, .ref (aOn n 0)), (1, .int (nI i))] → CW E (aYn n) (aOn n) Y00 o H → AI o i → va_S (AN n) s.heap H L → W p l e rmX4_init s m ([.ref n] : List Value).toArray below meth c H L 107 1305 (MQ below (QW none (AN n) (fun H => ∃ Y o, CW E (aYn n) (aOn n) Y o H ∧ CI Y o (an fF11 4) 4 40 P0 P0 Z0 X0)) ([.ref n] : List Value).toArray s 107 1305 (AN n)) (F0 m 102 ls []) := by
    intro d
    induction d with
    | zero =>
      intro i H L ls o hi hl hw hi2 hS
      have hi : i = 76 := hi
      subst hi
      have hs : SF n q qv s H := hK2.kept hS.2.1
      refine lv_iload_n hx hb dX4_init_102 rfl (lv_at hl 1 rfl) ?_
      refine va_ldcS hx hb hown hK2.2.1 dX4_init_103 ?_
      refine k_VRG (SF_st n q qv) (As := []) ⟨hx, hb, hml, hown, hB⟩ (c_length l E n q qv) (clX4_57 hB rfl rfl ⟨Nat.le_of_ble_eq_true rfl, Nat.le_of_ble_eq_true rfl⟩) hK hs trivial hs.recv rfl hl.1 rfl (Nat.le_of_ble_eq_true rfl) dX4_init_105 ⟨Nat.le_of_ble_eq_true rfl, Nat.le_of_ble_eq_true rfl⟩ ?_
      refine lv_icmp_ge (tgt := 130) hx hb dX4_init_108 (by decide) (fun g1 => ?_) (fun g1 => absurd (show (76 : Int32) ≤ nI 76 by decide) g1)
      obtain ⟨Y', o', e1, ci, -⟩ := first_c hi2
      refine lv_aload_n hx hb dX4_init_130 rfl (lv_at hl 0 rfl) ?_
      refine gX4_10 hx hb hB hown hK hw dX4_init_131 ?_
      refine lv_aload_n hx hb dX4_init_134 rfl (lv_at hl 0 rfl) ?_
      refine gX4_19 hx hb hB hown hK hw dX4_init_135 ?_
      refine k_VWi ⟨hx, hb, hml, hown, hB⟩ (c_X2_tellAll l E (aYn n) (aOn n) Y00 o 0 (by decide) (-4, Y', o') e1) (clX4_71 hB rfl rfl ⟨Nat.le_of_ble_eq_true rfl, Nat.le_of_ble_eq_true rfl⟩) hK hw (rvO3 hK hw) rfl hl.1 rfl (Nat.le_of_ble_eq_true rfl) dX4_init_138 ⟨Nat.le_of_ble_eq_true rfl, Nat.le_of_ble_eq_true rfl⟩ hS AC_n (fun H L hw _ _ hS => ?_)
      refine lv_pop hx hb dX4_init_141 rfl ?_
      refine lv_aload_n hx hb dX4_init_142 rfl (lv_at hl 0 rfl) ?_
      refine gX4_10 hx hb hB hown hK hw dX4_init_143 ?_
      refine lv_iconst (v := 0) hx hb dX4_init_146 (by decide) ?_
      refine pX4_75 hx hb hB hown hK hw hS AC_n dX4_init_147 (fun H L hw hS => ?_)
      exact e_vW hx hb hr hlk ⟨Y', u2 o' 3 0 0, hw, ci⟩ hS dX4_init_150
    | succ d ih =>
      intro i H L ls o hi hl hw hi2 hS
      have hs : SF n q qv s H := hK2.kept hS.2.1
      refine lv_iload_n hx hb dX4_init_102 rfl (lv_at hl 1 rfl) ?_
      refine va_ldcS hx hb hown hK2.2.1 dX4_init_103 ?_
      refine k_VRG (SF_st n q qv) (As := []) ⟨hx, hb, hml, hown, hB⟩ (c_length l E n q qv) (clX4_57 hB rfl rfl ⟨Nat.le_of_ble_eq_true rfl, Nat.le_of_ble_eq_true rfl⟩) hK hs trivial hs.recv rfl hl.1 rfl (Nat.le_of_ble_eq_true rfl) dX4_init_105 ⟨Nat.le_of_ble_eq_true rfl, Nat.le_of_ble_eq_true rfl⟩ ?_
      refine lv_icmp_ge (tgt := 130) hx hb dX4_init_108 (by decide) (fun g1 => absurd ((nI_leI (a := 76) (b := i) (by omega) (by omega)).mp g1) (by omega)) (fun g1 => ?_)
      obtain ⟨o', e1, ai⟩ := AI_s hi2 (by omega)
      refine lv_aload_n hx hb dX4_init_111 rfl (lv_at hl 0 rfl) ?_
      refine gX4_10 hx hb hB hown hK hw dX4_init_112 ?_
      refine va_ldcS hx hb hown hK2.2.1 dX4_init_115 ?_
      refine lv_iload_n hx hb dX4_init_117 rfl (lv_at hl 1 rfl) ?_
      refine k_VRG (SF_st n q qv) (As := [.int (nI i)]) ⟨hx, hb, hml, hown, hB⟩ (c_charAt l E n q qv i (by omega)) (clX4_63 hB rfl rfl ⟨Nat.le_of_ble_eq_true rfl, Nat.le_of_ble_eq_true rfl⟩) hK hs trivial hs.recv rfl hl.1 rfl (Nat.le_of_ble_eq_true rfl) dX4_init_118 ⟨Nat.le_of_ble_eq_true rfl, Nat.le_of_ble_eq_true rfl⟩ ?_
      refine k_VWv (As := [.int (chI i)]) ⟨hx, hb, hml, hown, hB⟩ (c_X2_append l E (aYn n) (aOn n) Y00 o (chI i) (Y00, o') e1) (clX4_67 hB rfl rfl ⟨Nat.le_of_ble_eq_true rfl, Nat.le_of_ble_eq_true rfl⟩) hK hw (rvO3 hK hw) rfl hl.1 rfl (Nat.le_of_ble_eq_true rfl) dX4_init_121 ⟨Nat.le_of_ble_eq_true rfl, Nat.le_of_ble_eq_true rfl⟩ hS AC_n (fun H L hw _ _ hS => ?_)
      refine lv_iinc (v := (nI i + 1)) (lv' := [(1, .int (nI i + 1)), (0, .ref (aOn n 0))]) hx hb dX4_init_124 hl (k := 1) rfl rfl (by decide) rfl (fun ls hl => ?_)
      refine lv_goto (tgt := 102) hx hb dX4_init_127 (by decide) ?_
      have hl : lv_has ls 2 [(1, .int (nI (i + 1))), (0, .ref (aOn n 0))] := by rw [← nI_add i 1]; exact hl
      exact ih (i + 1) H L ls o' (by omega) (lv_sub hl [1, 0] rfl) hw ai hS
  have st : St E 4 n 1 [.null, .null, .null, .null, .null, .null, .null, .null, .null, .int 0] (clC E n) s.heap := St.one hz hw
  refine lv_aload_n hx hb dX4_init_0 rfl (lv_at hl 0 rfl) ?_
  refine W.objInit hx hb hown (hB _ oiX4) (hB _ imObj) (hB _ mcObj) rfl (by rw [hml]; exact hl.1) rfl dX4_init_1 (Nat.le_of_ble_eq_true rfl) (Nat.le_of_ble_eq_true rfl) ?_
  refine W.eq (g2 := F0 m 4 ls []) rfl ?_
  refine lv_aload_n hx hb dX4_init_4 rfl (lv_at hl 0 rfl) ?_
  refine r_new (ci := 2) (fs := [.int 0, .int 0, .int 0, .null, .null]) hx hb hB inX2 tyX2 tyX2_ok hown (hB _ clX4_c7) (hB _ insX2) (hB _ iniX2) hK hS rfl (fun j hj => by rcases (show j = 0 ∨ j = 1 ∨ j = 2 ∨ j = 3 ∨ j = 4 by omega) with rfl | rfl | rfl | rfl | rfl <;> rfl) (Nat.le_of_ble_eq_true rfl) (Nat.le_of_ble_eq_true rfl) dX4_init_5 (fun H1 e1 z1 o1 hS => ?_)
  rw [st.1] at e1 z1 o1 ⊢
  refine lv_dup hx hb dX4_init_8 rfl ?_
  refine k_I (va_runIN (As := []) (rest := [.ref (n + 1), .ref n]) ⟨hx, hb, hml, hown, hB⟩ (c_X2_init l E (n + 1)) ⟨va_cnB 0 hB (bgG mcX2_init) rfl rfl rfl hK.2.1 (hB _ iniX2) (by decide +kernel) ⟨Nat.le_of_ble_eq_true rfl, Nat.le_of_ble_eq_true rfl⟩, rfl, hB _ imX2_init⟩ (Pk.S hK ⟨z1, e1⟩) rfl rfl hl.1 rfl (lv_room (Nat.le_of_ble_eq_true rfl)) dX4_init_9 ⟨Nat.le_of_ble_eq_true rfl, Nat.le_of_ble_eq_true rfl⟩) hS (fun q h => Nat.le_trans (Nat.le_add_right n 1) h) (fun H2 L2 hw2 h6 h7 hS => ?_)
  replace st := st.blk (len := 3) hw2.1 (fun q hq => (h7 q (by omega) (by show ¬ n + 1 ≤ q; omega)).trans (o1 q hq)) (fun j hj => by
    rcases (show j = 0 ∨ j = 1 ∨ j = 2 by omega) with rfl | rfl | rfl
    · rw [show clC E n (1 + 0) = cO E (aYn n) (aOn n) o00 3 from clC_o (k := 3) (by decide) (by decide)]; exact hw2.2.2.1
    · rw [show clC E n (1 + 1) = cO E (aYn n) (aOn n) o00 4 from clC_o (k := 4) (by decide) (by decide)]; exact hw2.2.2.2 1 (by decide) (by decide)
    · rw [show clC E n (1 + 2) = cO E (aYn n) (aOn n) o00 5 from clC_o (k := 5) (by decide) (by decide)]; exact hw2.2.2.2 2 (by decide) (by decide))
  refine r_putF (ref := RX4) (a := n) (ty := .object RX2) hx hb hB inX4 tyX4 tyX4_ok nmX4 hown hK st.2.2.1 hS (Nat.le_refl n) rfl 0 (by decide) lkX4_10 rfl rfl hin2 rfl (by decide +kernel) rfl rfl (Nat.le_of_ble_eq_true rfl) dX4_init_12 (fun H L e2 z2 o2 hS => ?_)
  replace st := st.put e2 z2 o2
  clear e2 z2 o2 e1 z1 o1 h6 h7 hw2
  refine lv_aload_n hx hb dX4_init_15 rfl (lv_at hl 0 rfl) ?_
  refine r_new (ci := 3) (fs := [.int 0, .int 0, .int 0, .int 0, .null, .null, .null, .null, .null, .null]) hx hb hB inX3 tyX3 tyX3_ok hown (hB _ clX4_c16) (hB _ insX3) (hB _ iniX3) hK hS rfl (fun j hj => by rcases (show j = 0 ∨ j = 1 ∨ j = 2 ∨ j = 3 ∨ j = 4 ∨ j = 5 ∨ j = 6 ∨ j = 7 ∨ j = 8 ∨ j = 9 by omega) with rfl | rfl | rfl | rfl | rfl | rfl | rfl | rfl | rfl | rfl <;> rfl) (Nat.le_of_ble_eq_true rfl) (Nat.le_of_ble_eq_true rfl) dX4_init_16 (fun H1 e1 z1 o1 hS => ?_)
  rw [st.1] at e1 z1 o1 ⊢
  refine lv_dup hx hb dX4_init_19 rfl ?_
  refine k_I (va_runI (As := []) (rest := [.ref (n + 4), .ref n]) ⟨hx, hb, hml, hown, hB⟩ (c_X3_init l E (n + 4)) (cwI 0 hB (bgG mcX3_init) rfl rfl rfl (hB _ iniX3) (hB _ miX4_18) (hB _ imX3_init) rfl (by decide +kernel) ⟨Nat.le_of_ble_eq_true rfl, Nat.le_of_ble_eq_true rfl⟩) (Pk.S hK ⟨z1, e1⟩) rfl rfl hl.1 rfl (lv_room (Nat.le_of_ble_eq_true rfl)) dX4_init_20 ⟨Nat.le_of_ble_eq_true rfl, Nat.le_of_ble_eq_true rfl⟩) hS (fun q h => Nat.le_trans (Nat.le_add_right n 4) h) (fun H2 L2 hw2 h6 h7 hS => ?_)
  replace st := st.blk (len := 7) hw2.1 (fun q hq => (h7 q (by omega) (by show ¬ n + 4 ≤ q; omega)).trans (o1 q hq)) (fun j hj => by rw [show clC E n (4 + j) = cY E (aYn n 0) yE j from clC_y (i := 0) (by decide) hj]; exact hw2.2.1 j hj)
  refine r_putF (ref := RX4) (a := n) (ty := .object RX3) hx hb hB inX4 tyX4 tyX4_ok nmX4 hown hK st.2.2.1 hS (Nat.le_refl n) rfl 1 (by decide) lkX4_19 rfl rfl hin2 rfl (by decide +kernel) rfl rfl (Nat.le_of_ble_eq_true rfl) dX4_init_23 (fun H L e2 z2 o2 hS => ?_)
  replace st := st.put e2 z2 o2
  clear e2 z2 o2 e1 z1 o1 h6 h7 hw2
  refine lv_aload_n hx hb dX4_init_26 rfl (lv_at hl 0 rfl) ?_
  refine r_new (ci := 3) (fs := [.int 0, .int 0, .int 0, .int 0, .null, .null, .null, .null, .null, .null]) hx hb hB inX3 tyX3 tyX3_ok hown (hB _ clX4_c16) (hB _ insX3) (hB _ iniX3) hK hS rfl (fun j hj => by rcases (show j = 0 ∨ j = 1 ∨ j = 2 ∨ j = 3 ∨ j = 4 ∨ j = 5 ∨ j = 6 ∨ j = 7 ∨ j = 8 ∨ j = 9 by omega) with rfl | rfl | rfl | rfl | rfl | rfl | rfl | rfl | rfl | rfl <;> rfl) (Nat.le_of_ble_eq_true rfl) (Nat.le_of_ble_eq_true rfl) dX4_init_27 (fun H1 e1 z1 o1 hS => ?_)
  rw [st.1] at e1 z1 o1 ⊢
  refine lv_dup hx hb dX4_init_30 rfl ?_
  refine k_I (va_runI (As := []) (rest := [.ref (n + 11), .ref n]) ⟨hx, hb, hml, hown, hB⟩ (c_X3_init l E (n + 11)) (cwI 0 hB (bgG mcX3_init) rfl rfl rfl (hB _ iniX3) (hB _ miX4_18) (hB _ imX3_init) rfl (by decide +kernel) ⟨Nat.le_of_ble_eq_true rfl, Nat.le_of_ble_eq_true rfl⟩) (Pk.S hK ⟨z1, e1⟩) rfl rfl hl.1 rfl (lv_room (Nat.le_of_ble_eq_true rfl)) dX4_init_31 ⟨Nat.le_of_ble_eq_true rfl, Nat.le_of_ble_eq_true rfl⟩) hS (fun q h => Nat.le_trans (Nat.le_add_right n 11) h) (fun H2 L2 hw2 h6 h7 hS => ?_)
  replace st := st.blk (len := 7) hw2.1 (fun q hq => (h7 q (by omega) (by show ¬ n + 11 ≤ q; omega)).trans (o1 q hq)) (fun j hj => by rw [show clC E n (11 + j) = cY E (aYn n 1) yE j from clC_y (i := 1) (by decide) hj]; exact hw2.2.1 j hj)
  refine r_putF (ref := RX4) (a := n) (ty := .object RX3) hx hb hB inX4 tyX4 tyX4_ok nmX4 hown hK st.2.2.1 hS (Nat.le_refl n) rfl 2 (by decide) lkX4_23 rfl rfl hin2 rfl (by decide +kernel) rfl rfl (Nat.le_of_ble_eq_true rfl) dX4_init_34 (fun H L e2 z2 o2 hS => ?_)
  replace st := st.put e2 z2 o2
  clear e2 z2 o2 e1 z1 o1 h6 h7 hw2
  refine lv_aload_n hx hb dX4_init_37 rfl (lv_at hl 0 rfl) ?_
  refine r_new (ci := 3) (fs := [.int 0, .int 0, .int 0, .int 0, .null, .null, .null, .null, .null, .null]) hx hb hB inX3 tyX3 tyX3_ok hown (hB _ clX4_c16) (hB _ insX3) (hB _ iniX3) hK hS rfl (fun j hj => by rcases (show j = 0 ∨ j = 1 ∨ j = 2 ∨ j = 3 ∨ j = 4 ∨ j = 5 ∨ j = 6 ∨ j = 7 ∨ j = 8 ∨ j = 9 by omega) with rfl | rfl | rfl | rfl | rfl | rfl | rfl | rfl | rfl | rfl <;> rfl) (Nat.le_of_ble_eq_true rfl) (Nat.le_of_ble_eq_true rfl) dX4_init_38 (fun H1 e1 z1 o1 hS => ?_)
  rw [st.1] at e1 z1 o1 ⊢
  refine lv_dup hx hb dX4_init_41 rfl ?_
  refine k_I (va_runI (As := []) (rest := [.ref (n + 18), .ref n]) ⟨hx, hb, hml, hown, hB⟩ (c_X3_init l E (n + 18)) (cwI 0 hB (bgG mcX3_init) rfl rfl rfl (hB _ iniX3) (hB _ miX4_18) (hB _ imX3_init) rfl (by decide +kernel) ⟨Nat.le_of_ble_eq_true rfl, Nat.le_of_ble_eq_true rfl⟩) (Pk.S hK ⟨z1, e1⟩) rfl rfl hl.1 rfl (lv_room (Nat.le_of_ble_eq_true rfl)) dX4_init_42 ⟨Nat.le_of_ble_eq_true rfl, Nat.le_of_ble_eq_true rfl⟩) hS (fun q h => Nat.le_trans (Nat.le_add_right n 18) h) (fun H2 L2 hw2 h6 h7 hS => ?_)
  replace st := st.blk (len := 7) hw2.1 (fun q hq => (h7 q (by omega) (by show ¬ n + 18 ≤ q; omega)).trans (o1 q hq)) (fun j hj => by rw [show clC E n (18 + j) = cY E (aYn n 2) yE j from clC_y (i := 2) (by decide) hj]; exact hw2.2.1 j hj)
  refine r_putF (ref := RX4) (a := n) (ty := .object RX3) hx hb hB inX4 tyX4 tyX4_ok nmX4 hown hK st.2.2.1 hS (Nat.le_refl n) rfl 3 (by decide) lkX4_26 rfl rfl hin2 rfl (by decide +kernel) rfl rfl (Nat.le_of_ble_eq_true rfl) dX4_init_45 (fun H L e2 z2 o2 hS => ?_)
  replace st := st.put e2 z2 o2
  clear e2 z2 o2 e1 z1 o1 h6 h7 hw2
  refine lv_aload_n hx hb dX4_init_48 rfl (lv_at hl 0 rfl) ?_
  refine r_new (ci := 0) (fs := [.int 0, .int 0, .null, .null, .null, .null, .null, .null, .int 0, .int 0, .int 0]) hx hb hB inX0 tyX0 tyX0_ok hown (hB _ clX4_c29) (hB _ insX0) (hB _ iniX0) hK hS rfl (fun j hj => by rcases (show j = 0 ∨ j = 1 ∨ j = 2 ∨ j = 3 ∨ j = 4 ∨ j = 5 ∨ j = 6 ∨ j = 7 ∨ j = 8 ∨ j = 9 ∨ j = 10 by omega) with rfl | rfl | rfl | rfl | rfl | rfl | rfl | rfl | rfl | rfl | rfl <;> rfl) (Nat.le_of_ble_eq_true rfl) (Nat.le_of_ble_eq_true rfl) dX4_init_49 (fun H1 e1 z1 o1 hS => ?_)
  rw [st.1] at e1 z1 o1 ⊢
  refine lv_dup hx hb dX4_init_52 rfl ?_
  refine k_I (va_runIN (As := []) (rest := [.ref (n + 25), .ref n]) ⟨hx, hb, hml, hown, hB⟩ (c_X0_init l E (n + 25)) ⟨va_cnB 0 hB (bgG mcX0_init) rfl rfl rfl hK.2.2.1 (hB _ iniX0) (by decide +kernel) ⟨Nat.le_of_ble_eq_true rfl, Nat.le_of_ble_eq_true rfl⟩, rfl, hB _ imX0_init⟩ (Pk.S hK ⟨z1, e1⟩) rfl rfl hl.1 rfl (lv_room (Nat.le_of_ble_eq_true rfl)) dX4_init_53 ⟨Nat.le_of_ble_eq_true rfl, Nat.le_of_ble_eq_true rfl⟩) hS (fun q h => Nat.le_trans (Nat.le_add_right n 25) h) (fun H2 L2 hw2 h6 h7 hS => ?_)
  replace st := st.blk (len := 7) hw2.1 (fun q hq => (h7 q (by omega) (by show ¬ n + 25 ≤ q; omega)).trans (o1 q hq)) (fun j hj => by
    rcases (show j = 0 ∨ j = 1 ∨ j = 2 ∨ j = 3 ∨ j = 4 ∨ j = 5 ∨ j = 6 by omega) with rfl | rfl | rfl | rfl | rfl | rfl | rfl
    · rw [show clC E n (25 + 0) = cO E (aYn n) (aOn n) o00 6 from clC_o (k := 6) (by decide) (by decide)]; exact hw2.2.2.1
    · rw [show clC E n (25 + 1) = cO E (aYn n) (aOn n) o00 7 from clC_o (k := 7) (by decide) (by decide)]; exact hw2.2.2.2 1 (by decide) (by decide)
    · rw [show clC E n (25 + 2) = cO E (aYn n) (aOn n) o00 8 from clC_o (k := 8) (by decide) (by decide)]; exact hw2.2.2.2 2 (by decide) (by decide)
    · rw [show clC E n (25 + 3) = cO E (aYn n) (aOn n) o00 9 from clC_o (k := 9) (by decide) (by decide)]; exact hw2.2.2.2 3 (by decide) (by decide)
    · rw [show clC E n (25 + 4) = cO E (aYn n) (aOn n) o00 10 from clC_o (k := 10) (by decide) (by decide)]; exact hw2.2.2.2 4 (by decide) (by decide)
    · rw [show clC E n (25 + 5) = cO E (aYn n) (aOn n) o00 11 from clC_o (k := 11) (by decide) (by decide)]; exact hw2.2.2.2 5 (by decide) (by decide)
    · rw [show clC E n (25 + 6) = cO E (aYn n) (aOn n) o00 12 from clC_o (k := 12) (by decide) (by decide)]; exact hw2.2.2.2 6 (by decide) (by decide))
  refine r_putF (ref := RX4) (a := n) (ty := .object RX0) hx hb hB inX4 tyX4 tyX4_ok nmX4 hown hK st.2.2.1 hS (Nat.le_refl n) rfl 4 (by decide) lkX4_32 rfl rfl hin2 rfl (by decide +kernel) rfl rfl (Nat.le_of_ble_eq_true rfl) dX4_init_56 (fun H L e2 z2 o2 hS => ?_)
  replace st := st.put e2 z2 o2
  clear e2 z2 o2 e1 z1 o1 h6 h7 hw2
  refine lv_aload_n hx hb dX4_init_59 rfl (lv_at hl 0 rfl) ?_
  refine r_new (ci := 1) (fs := [.int 0, .null]) hx hb hB inX1 tyX1 tyX1_ok hown (hB _ clX4_c36) (hB _ insX1) (hB _ iniX1) hK hS rfl (fun j hj => by rcases (show j = 0 ∨ j = 1 by omega) with rfl | rfl <;> rfl) (Nat.le_of_ble_eq_true rfl) (Nat.le_of_ble_eq_true rfl) dX4_init_60 (fun H1 e1 z1 o1 hS => ?_)
  rw [st.1] at e1 z1 o1 ⊢
  refine lv_dup hx hb dX4_init_63 rfl ?_
  refine lv_bipush (v := 8) hx hb dX4_init_64 (by decide) ?_
  refine k_I (va_runI (As := [.int (nI 8)]) (rest := [.ref (n + 32), .ref n]) ⟨hx, hb, hml, hown, hB⟩ (c_X1_init l E (n + 32) 8 (by decide) (by decide)) (cwI 1 hB (bgG mcX1_init) rfl rfl rfl (hB _ iniX1) (hB _ miX4_38) (hB _ imX1_init) rfl (by decide +kernel) ⟨Nat.le_of_ble_eq_true rfl, Nat.le_of_ble_eq_true rfl⟩) (PkG.S KA_st hK hK2.1 ⟨z1, e1⟩) rfl rfl hl.1 rfl (lv_room (Nat.le_of_ble_eq_true rfl)) dX4_init_66 ⟨Nat.le_of_ble_eq_true rfl, Nat.le_of_ble_eq_true rfl⟩) hS (fun q h => Nat.le_trans (Nat.le_add_right n 32) h) (fun H2 L2 hw2 h6 h7 hS => ?_)
  replace st := st.blk (len := 2 + 7 * 8) (hw2.1.trans (by omega)) (fun q hq => (h7 q (by omega) (by show ¬ n + 32 ≤ q; omega)).trans (o1 q hq)) (blkS (k := 8) (i0 := 3) (ko := 13) hw2 (by decide) (by decide) (fun i hi => by rw [bY_3 hi]) (clC_o (k := 13) (by decide) (by decide)) (clC_o (k := 14) (by decide) (by decide)))
  refine r_putF (ref := RX4) (a := n) (ty := .object RX1) hx hb hB inX4 tyX4 tyX4_ok nmX4 hown hK st.2.2.1 hS (Nat.le_refl n) rfl 5 (by decide) lkX4_41 rfl rfl hin2 rfl (by decide +kernel) rfl rfl (Nat.le_of_ble_eq_true rfl) dX4_init_69 (fun H L e2 z2 o2 hS => ?_)
  replace st := st.put e2 z2 o2
  clear e2 z2 o2 e1 z1 o1 h6 h7 hw2
  refine lv_aload_n hx hb dX4_init_72 rfl (lv_at hl 0 rfl) ?_
  refine r_new (ci := 1) (fs := [.int 0, .null]) hx hb hB inX1 tyX1 tyX1_ok hown (hB _ clX4_c36) (hB _ insX1) (hB _ iniX1) hK hS rfl (fun j hj => by rcases (show j = 0 ∨ j = 1 by omega) with rfl | rfl <;> rfl) (Nat.le_of_ble_eq_true rfl) (Nat.le_of_ble_eq_true rfl) dX4_init_73 (fun H1 e1 z1 o1 hS => ?_)
  rw [st.1] at e1 z1 o1 ⊢
  refine lv_dup hx hb dX4_init_76 rfl ?_
  refine lv_iconst (v := 2) hx hb dX4_init_77 (by decide) ?_
  refine k_I (va_runI (As := [.int (nI 2)]) (rest := [.ref (n + 90), .ref n]) ⟨hx, hb, hml, hown, hB⟩ (c_X1_init l E (n + 90) 2 (by decide) (by decide)) (cwI 1 hB (bgG mcX1_init) rfl rfl rfl (hB _ iniX1) (hB _ miX4_38) (hB _ imX1_init) rfl (by decide +kernel) ⟨Nat.le_of_ble_eq_true rfl, Nat.le_of_ble_eq_true rfl⟩) (PkG.S KA_st hK hK2.1 ⟨z1, e1⟩) rfl rfl hl.1 rfl (lv_room (Nat.le_of_ble_eq_true rfl)) dX4_init_78 ⟨Nat.le_of_ble_eq_true rfl, Nat.le_of_ble_eq_true rfl⟩) hS (fun q h => Nat.le_trans (Nat.le_add_right n 90) h) (fun H2 L2 hw2 h6 h7 hS => ?_)
  replace st := st.blk (len := 2 + 7 * 2) (hw2.1.trans (by omega)) (fun q hq => (h7 q (by omega) (by show ¬ n + 90 ≤ q; omega)).trans (o1 q hq)) (blkS (k := 2) (i0 := 11) (ko := 15) hw2 (by decide) (by decide) (fun i hi => by rw [bY_11]) (clC_o (k := 15) (by decide) (by decide)) (clC_o (k := 16) (by decide) (by decide)))
  refine r_putF (ref := RX4) (a := n) (ty := .object RX1) hx hb hB inX4 tyX4 tyX4_ok nmX4 hown hK st.2.2.1 hS (Nat.le_refl n) rfl 6 (by decide) lkX4_45 rfl rfl hin2 rfl (by decide +kernel) rfl rfl (Nat.le_of_ble_eq_true rfl) dX4_init_81 (fun H L e2 z2 o2 hS => ?_)
  replace st := st.put e2 z2 o2
  clear e2 z2 o2 e1 z1 o1 h6 h7 hw2
  refine lv_aload_n hx hb dX4_init_84 rfl (lv_at hl 0 rfl) ?_
  refine lv_bipush (v := 8) hx hb dX4_init_85 (by decide) ?_
  refine r_np (len := 8) hx hb hB inX4 tyX4 tyX4_ok nmX4 hown hin2 hK st hS hA rfl 7 (by decide) lkX4_48 rfl rfl (by decide +kernel) (Nat.le_of_ble_eq_true rfl) (by decide) rfl (by decide) (clC_o (k := 1) (by decide) (by decide)) (Nat.le_of_ble_eq_true rfl) (Nat.le_of_ble_eq_true rfl) dX4_init_87 dX4_init_89 (fun H L st hS => ?_)
  refine lv_aload_n hx hb dX4_init_92 rfl (lv_at hl 0 rfl) ?_
  refine lv_bipush (v := 8) hx hb dX4_init_93 (by decide) ?_
  refine r_np (len := 8) hx hb hB inX4 tyX4 tyX4_ok nmX4 hown hin2 hK st hS hA rfl 8 (by decide) lkX4_52 rfl rfl (by decide +kernel) (Nat.le_of_ble_eq_true rfl) (by decide) rfl (by decide) (clC_o (k := 2) (by decide) (by decide)) (Nat.le_of_ble_eq_true rfl) (Nat.le_of_ble_eq_true rfl) dX4_init_95 dX4_init_97 (fun H L st hS => ?_)
  have hw : CW E (aYn n) (aOn n) Y00 o00 H := CW_of st
  refine lv_iconst (v := 0) hx hb dX4_init_100 (by decide) ?_
  refine lv_istore_n (lv' := [(1, .int 0), (0, .ref n)]) hx hb dX4_init_101 rfl hl (by decide) rfl (fun ls hl => ?_)
  refine W.widen (k := 107) (n := 1305) (Nat.le_of_ble_eq_true rfl) (Nat.le_of_ble_eq_true rfl) ?_
  exact loop 76 0 H L ls o00 (by decide) (lv_sub hl [1, 0] rfl) hw AI_0 hS
