/-! THE CLAIM OUT OF ONE WALK OF THE LAW'S BODY. Your part is whole_start (and what it stands on); all else here is the same for every law, but numbers. -/
def R_law : String := "GravesExchangedLaw"
def lw_P (b : Addr) (xs : List Int32) (args : Array Value) (s : State) : Prop := args = #[.ref b] ∧ s.IntsAt b xs ∧ xs.length ≤ 256 ∧ (Jvm.Cond.and given_1 narrow_1).before args s = true
def lw_Q (_ : Array Value) (s : State) (o : Outcome) (t : State) : Prop := o = .returned (some (.int 1)) ∧ Framed s o t [] 600000 7302250
def lw_Z (below : List Frame) (a : Array Value) (s : State) : State → Prop := fun t => ∃ o, t.status = .running ∧ Ended t below o ∧ lw_Q a s o t
/-- the law's own end, with 1 on the stack, nothing written that was there before, its room as the claim has it -/
theorem lw_ret {p : Program} {l : Launch} {e : Env} {s : State} {m : MethodId} {below : List Frame} {meth : Method} {c : Code} {b : Nat} (hx : p.tables.exec = Jvm.exec) (hb : c.code = code) (hr : meth.sig.returnType = ret) (hlocks : meth.locks = false) {pc : Nat} {H : Heap} {ls : Array Slot} (hdg : decode code pc = .ok (.ireturn, 1)) : W p l e room_1 s m #[Value.ref b] below meth c H [] 600000 7302250 (lw_Z below #[Value.ref b] s) (F0 m pc ls [.int 1]) := by
  intro T hT X
  obtain ⟨fs, hret, hrun, hended, hW, hframe⟩ := X.leave (v := some (.int 1)) (hlocks := hlocks) (fun h => by rw [hr] at h; cases h)
  have hmeth' : T.vm.method? m = some meth := X.method'
  refine ⟨T.setFrames fs, ?_, .returned (some (.int 1)), hrun, hended, rfl, ⟨_, rfl⟩, hW, hframe⟩
  jvm_step X.here [X.here.top, hx, hb, hdg, hmeth', hr, ret, narrow_b1]
  (try refine ⟨rfl, ?_⟩); (try refine ⟨rfl, ?_⟩)
  first | (intro acts; rw [hret _ acts rfl rfl rfl]) | rw [hret _ _ rfl rfl rfl]
  exact Steps.refl _
/-- what holds at the law's entry: the machine, the code, the tables' words (any of lw_tbl by 'hts w (by decide +kernel)'), the script of L ints xs at the cell b, what the Statement gives of the start (any of its parts by flat_of_before) -/
def lw_At (p : Program) (s : State) (m : MethodId) (meth : Method) (c : Code) (b L : Nat) (xs : Nat → Int32) : Prop :=
  p.tables.exec = Jvm.exec ∧ c.code = code ∧ meth.sig.returnType = ret ∧ c.maxLocals = 4 ∧ s.vm.findClass R_law = some m.cls ∧ (∀ w ∈ lw_tbl, w.before #[Value.ref b] s = true) ∧ va_X b L xs s s.heap ∧ b < s.heap.size ∧ meth.locks = false ∧ (Jvm.Cond.and given_1 narrow_1).before #[Value.ref b] s = true
theorem law_K {args : Array Value} {s : State} (hts : ∀ w ∈ lw_tbl, w.before args s = true) : ∃ E : En, KK E s := by
  have hB : ∀ w ∈ BIG, w.before args s = true := fun w h => hts w (List.mem_filter.mp h).1
  obtain ⟨c0, iS0, hKn0⟩ := u_known (C := RX0) (T := TX0) (N := 11) (n := 11) hB inX0 (hB _ insX0)
  obtain ⟨c1, iS1, hKn1⟩ := u_known (C := RX1) (T := TX1) (N := 2) (n := 2) hB inX1 (hB _ insX1)
  obtain ⟨c2, iS2, hKn2⟩ := u_known (C := RX2) (T := TX2) (N := 5) (n := 5) hB inX2 (hB _ insX2)
  obtain ⟨c3, iS3, hKn3⟩ := u_known (C := RX3) (T := TX3) (N := 10) (n := 10) hB inX3 (hB _ insX3)
  obtain ⟨c4, iS4, hKn4⟩ := u_known (C := RX4) (T := TX4) (N := 10) (n := 10) hB inX4 (hB _ insX4)
  obtain ⟨c5, iS5, hKn5⟩ := u_known (C := RX5) (T := TX5) (N := 26) (n := 26) hB inX5 (hB _ insX5)
  obtain ⟨cI, kI, cmI, a1, a2, a3⟩ := Cond.arrayClass_spec (args := args) (first := s) (o := none) (s := s) (idx := []) (hB _ acI)
  obtain ⟨cC, kC, cmC, b1, b2, b3⟩ := Cond.arrayClass_spec (args := args) (first := s) (o := none) (s := s) (idx := []) (hB _ acC)
  obtain ⟨cm, cQ, kQ, g1, -, g3, g4, g5⟩ := Cond.arrayOver_spec (args := args) (first := s) (o := none) (s := s) (idx := []) (hts (.arrayOver (.object RX3)) (inT1 (List.mem_of_getElem? (i := 151) (by decide +kernel))))
  refine ⟨((fun k => match k with
    | 0 => c0
    | 1 => c1
    | 2 => c2
    | 3 => c3
    | 4 => c4
    | _ => c5, fun k => match k with
    | 0 => iS0
    | 1 => iS1
    | 2 => iS2
    | 3 => iS3
    | 4 => iS4
    | _ => iS5), fun k => match k with
    | 0 => cI
    | 1 => cC
    | _ => cQ), ⟨fun k q hq => ?_, fun k q hq => ?_⟩, va_Nw.of rfl (hts (.methodLinkNest RX4 9 yX2_init RX4) (inT1 (List.mem_of_getElem? (i := 23) (by decide +kernel)))), va_Nw.of rfl (hts (.methodLinkNest RX4 31 yX0_init RX4) (inT1 (List.mem_of_getElem? (i := 102) (by decide +kernel)))), va_Nw.of rfl (hts (.methodLinkNest RX2 54 yX4_isOneOfTheDead RX4) (inT2 (List.mem_of_getElem? (i := 1) (by decide +kernel)))), va_Nw.of rfl (hts (.methodLinkNest RX3 114 yX4_isSide RX4) (inT2 (List.mem_of_getElem? (i := 46) (by decide +kernel)))), va_Nw.of rfl (hts (.methodLinkNest RX2 68 yX4_isMinutes RX4) (inT2 (List.mem_of_getElem? (i := 52) (by decide +kernel))))⟩
  · match k, hq with
    | 0, hq => cases hq; exact hKn0
    | 1, hq => cases hq; exact hKn1
    | 2, hq => cases hq; exact hKn2
    | 3, hq => cases hq; exact hKn3
    | 4, hq => cases hq; exact hKn4
    | 5, hq => cases hq; exact hKn5
    | k + 6, hq => simp [vwCl] at hq
  · match k, hq with
    | 0, hq => cases hq; exact ⟨fun N z => ⟨(fun k h => by cases h), kI, a2, cmI, a3⟩, a1⟩
    | 1, hq => cases hq; exact ⟨fun N z => ⟨(fun k h => by cases h), kC, b2, cmC, b3⟩, b1⟩
    | 2, hq => cases hq; exact ⟨fun N z => ⟨(fun k h => by cases h), kQ, g3, cm, g4⟩, kQ, cm, g3, g4, g1, g5⟩
    | k + 3, hq => simp [tysE] at hq
theorem law_bytes : ∀ j, j < 76 → Cond.eq (.elem (.field (Jvm.Term.string "GravesExchanged" 55) "java/lang/String" "value" "[B") (.int (Int32.ofNat j))) (.int (([BYT].getD 0 []).getD j 0)) ∈ flatC (Jvm.Cond.and given_1 narrow_1) := by decide +kernel
theorem law_S {args : Array Value} {s : State} (hts : ∀ w ∈ lw_tbl, w.before args s = true) (hgv : (Jvm.Cond.and given_1 narrow_1).before args s = true) : ∃ q qv, SF s.heap.size q qv s s.heap := by
  have hB : ∀ w ∈ BIG, w.before args s = true := fun w h => hts w (List.mem_filter.mp h).1
  have hs := flat_of_before _ hgv
  have hA : ∀ a : Nat, a < s.heap.size → ¬ AN s.heap.size a := fun a h => Nat.not_le.mpr h
  obtain ⟨adK, adV, hS, hev⟩ := vk_Sof (args := args) (s := s) (N := 1) (tm := fun _ => (Jvm.Term.string "GravesExchanged" 55)) (len := [76]) (byt := [BYT]) (A := AN s.heap.size)
    (fun i hi => by obtain rfl : i = 0 := by omega
                    decide)
    (fun i hi => hs _ (by decide +kernel)) (fun i hi => hs _ (by decide +kernel)) (fun i hi => hs _ (by decide +kernel))
    (fun i hi => by obtain rfl : i = 0 := by omega
                    exact hs _ (by decide +kernel))
    (fun i hi j hj => by obtain rfl : i = 0 := by omega
                         exact hs _ (law_bytes j hj))
    (fun i j hi hj hn => absurd (show i = j by omega) hn) hA
  have h0 := hS.1 0 (by decide)
  exact ⟨adK 0, adV 0, va_AO.of (hts (.arrayOver (.object RX3)) (inT1 (List.mem_of_getElem? (i := 151) (by decide +kernel)))), vk_R.of (hts (.stringRef RX4 55 TXT) (inT1 (List.mem_of_getElem? (i := 161) (by decide +kernel)))) (hev 0 (by decide)), h0.1, h0.2.1, h0.2.2.1, h0.2.2.2,
    va_Zof (hts (.laysStatic "java/lang/String" "COMPACT_STRINGS" "Z") (inT1 (List.mem_of_getElem? (i := 171) (by decide +kernel)))) (hB _ iniJ0) (va_eqt (hs (.eq (.static "java/lang/String" "COMPACT_STRINGS" "Z") (.int 1)) (by decide +kernel))) hA,
    va_Zqof (hts (.laysStatic "jdk/internal/util/Preconditions" "SIOOBE_FORMATTER" "Ljava/util/function/BiFunction;") (inT1 (List.mem_of_getElem? (i := 187) (by decide +kernel)))) (hB _ iniJ3) (hs (.isRef (.static "jdk/internal/util/Preconditions" "SIOOBE_FORMATTER" "Ljava/util/function/BiFunction;")) (by decide +kernel)) hA⟩
theorem AI_ex : ∀ i, i ≤ 76 → ∃ o, AI o i
  | 0, _ => ⟨o00, AI_0⟩
  | i + 1, h => by
    obtain ⟨o, ho⟩ := AI_ex i (by omega)
    obtain ⟨o', -, h'⟩ := AI_s ho (by omega)
    exact ⟨o', h'⟩
theorem first_g : TG fF11 4 40 false := by
  obtain ⟨o, ho⟩ := AI_ex 76 (Nat.le_refl _)
  obtain ⟨-, -, -, -, hg⟩ := first_c ho
  exact hg
theorem gt4 {L i : Nat} (hL : L ≤ 256) (hi : i ≤ 256) : nI L - 4 < nI i ↔ L < i + 4 := by
  rw [Int32.lt_iff_toInt_lt, show (nI L - 4).toInt = (L : Int) - 4 from pk_sub_toInt (b := 4) (by omega) (by decide), nI_toInt (by omega)]
  omega
section LOOP
variable {p : Program} {l : Launch} {e : Env} {s : State} {m : MethodId} {below : List Frame} {meth : Method} {c : Code} {b L n n2 : Nat} {xs : Nat → Int32} {E : En}
set_option maxHeartbeats 4000000 in
set_option maxRecDepth 100000 in
theorem law_loop (C : LC p s m c b L n n2 xs E 600000 7302250) (hr : meth.sig.returnType = ret) (hlocks : meth.locks = false) : ∀ (d i : Nat) (H : Heap) (locs : List Loc) (ls : Array Slot) (Y : YS) (o S : OS), L < i + 4 + 4 * d → i ≤ 256 → lv_has ls 4 [(0, .ref b), (1, .ref (aOn n 0)), (2, .ref (aMn n2 0)), (3, .int (nI i))] → Inv Y o S → CW E (aYn n) (aOn n) Y o H → MW E (aMn n2) S H → va_S (AN n) s.heap H locs → W p l e room_1 s m #[Value.ref b] below meth c H locs 600000 7302250 (lw_Z below #[Value.ref b] s) (F0 m 18 ls []) := by
  obtain ⟨hx, hb, hml, hown, hB, hK, hX, hbl, hn, hlo, hnn, hL, hcs⟩ := id C
  have hbA : ¬ AN n b := by show ¬ n ≤ b; omega
  have fin : ∀ (H : Heap) (locs : List Loc) (ls : Array Slot), va_S (AN n) s.heap H locs → W p l e room_1 s m #[Value.ref b] below meth c H locs 600000 7302250 (lw_Z below #[Value.ref b] s) (F0 m 911 ls []) := by
    intro H locs ls hS
    refine va_forget (fun q hq => by have h : n ≤ q.base := hS.2.2 q hq; omega) ?_
    refine lv_iconst (v := 1) hx hb dL_law_911 (by decide) ?_
    exact lw_ret hx hb hr hlocks dL_law_912
  intro d
  induction d with
  | zero =>
    intro i H locs ls Y o S hd hi hl hv hc hm hS
    refine lv_iload_n hx hb dL_law_18 rfl (lv_at hl 3 rfl) ?_
    refine lv_aload_n hx hb dL_law_19 rfl (lv_at hl 0 rfl) ?_
    refine va_slen hx hb hX hbl hbA hS dL_law_20 ?_
    refine lv_iconst (v := 4) hx hb dL_law_21 (by decide) ?_
    refine lv_isub hx hb dL_law_22 ?_
    refine lv_icmp_gt (tgt := 911) hx hb dL_law_23 (by decide) (fun g => fin H locs ls hS) (fun g => absurd ((gt4 hL hi).mpr (by omega)) g)
  | succ d ih =>
    intro i H locs ls Y o S hd hi hl hv hc hm hS
    refine lv_iload_n hx hb dL_law_18 rfl (lv_at hl 3 rfl) ?_
    refine lv_aload_n hx hb dL_law_19 rfl (lv_at hl 0 rfl) ?_
    refine va_slen hx hb hX hbl hbA hS dL_law_20 ?_
    refine lv_iconst (v := 4) hx hb dL_law_21 (by decide) ?_
    refine lv_isub hx hb dL_law_22 ?_
    refine lv_icmp_gt (tgt := 911) hx hb dL_law_23 (by decide) (fun g => fin H locs ls hS) (fun g => ?_)
    have hi4 : i + 4 ≤ L := Nat.not_lt.mp (fun z => g ((gt4 hL hi).mpr z))
    have go : ∀ (H1 : Heap) (L1 : List Loc) (Y1 : YS) (o1 S1 : OS), Inv Y1 o1 S1 → CW E (aYn n) (aOn n) Y1 o1 H1 → MW E (aMn n2) S1 H1 → va_S (AN n) s.heap H1 L1 → W p l e room_1 s m #[Value.ref b] below meth c H1 L1 600000 7302250 (lw_Z below #[Value.ref b] s) (F0 m 905 ls []) := by
      intro H1 L1 Y1 o1 S1 hv hc hm hS
      refine lv_iinc (v := (nI i + 4)) (lv' := [(3, .int (nI i + 4)), (0, .ref b), (1, .ref (aOn n 0)), (2, .ref (aMn n2 0))]) hx hb dL_law_905 hl (k := 3) rfl rfl (by decide) rfl (fun ls hl => ?_)
      refine lv_goto (tgt := 18) hx hb dL_law_908 (by decide) ?_
      have hl : lv_has ls 4 [(3, .int (nI (i + 4))), (0, .ref b), (1, .ref (aOn n 0)), (2, .ref (aMn n2 0))] := by rw [← nI_add i 4]; exact hl
      exact ih (i + 4) H1 L1 ls Y1 o1 S1 (by omega) (by omega) (lv_sub hl [1, 2, 3, 0] rfl) hv hc hm hS
    refine lv_aload_n hx hb dL_law_26 rfl (lv_at hl 0 rfl) ?_
    refine lv_iload_n hx hb dL_law_27 rfl (lv_at hl 3 rfl) ?_
    refine va_sld hx hb hX hbl hbA hS (vp_in_nI (by omega) (by omega)) dL_law_28 ?_
    refine lv_bipush (v := 31) hx hb dL_law_29 (by decide) ?_
    refine lv_iand hx hb dL_law_31 ?_
    obtain ⟨j, hj, e1⟩ := pk_andE (xs (nI i).toNatClampNeg) (m := 31) 5 (by decide)
    rw [e1]
    have hj : j < 32 := hj
    rcases (show j = 0 ∨ j = 1 ∨ j = 2 ∨ j = 3 ∨ j = 4 ∨ j = 5 ∨ j = 6 ∨ j = 7 ∨ j = 8 ∨ j = 9 ∨ j = 10 ∨ j = 11 ∨ j = 12 ∨ j = 13 ∨ j = 14 ∨ j = 15 ∨ j = 16 ∨ j = 17 ∨ j = 18 ∨ j = 19 ∨ j = 20 ∨ j = 21 ∨ j = 22 ∨ j = 23 ∨ j = 24 ∨ j = 25 ∨ j = 26 ∨ j = 27 ∨ j = 28 ∨ j = 29 ∨ j = 30 ∨ j = 31 by omega) with rfl | rfl | rfl | rfl | rfl | rfl | rfl | rfl | rfl | rfl | rfl | rfl | rfl | rfl | rfl | rfl | rfl | rfl | rfl | rfl | rfl | rfl | rfl | rfl | rfl | rfl | rfl | rfl | rfl | rfl | rfl | rfl
    · exact lv_tableIn (tgt := 172) hx hb dL_law_32 (by decide) (by decide) rfl (by decide) (law_write C hi4 hl hv hc hm hS go)
    · exact lv_tableIn (tgt := 195) hx hb dL_law_32 (by decide) (by decide) rfl (by decide) (law_wipe C hi4 hl hv hc hm hS go)
    · exact lv_tableIn (tgt := 208) hx hb dL_law_32 (by decide) (by decide) rfl (by decide) (law_fault C hi4 hl hv hc hm hS go)
    · exact lv_tableIn (tgt := 221) hx hb dL_law_32 (by decide) (by decide) rfl (by decide) (law_lay C hi4 hl hv hc hm hS go)
    · exact lv_tableIn (tgt := 234) hx hb dL_law_32 (by decide) (by decide) rfl (by decide) (law_dead C hi4 hl hv hc hm hS go)
    · exact lv_tableIn (tgt := 267) hx hb dL_law_32 (by decide) (by decide) rfl (by decide) (law_plot C hi4 hl hv hc hm hS go)
    · exact lv_tableIn (tgt := 300) hx hb dL_law_32 (by decide) (by decide) rfl (by decide) (law_visitor C hi4 hl hv hc hm hS go)
    · exact lv_tableIn (tgt := 333) hx hb dL_law_32 (by decide) (by decide) rfl (by decide) (law_bury C hi4 hl hv hc hm hS go)
    · exact lv_tableIn (tgt := 376) hx hb dL_law_32 (by decide) (by decide) rfl (by decide) (law_change C hi4 hl hv hc hm hS go)
    · exact lv_tableIn (tgt := 419) hx hb dL_law_32 (by decide) (by decide) rfl (by decide) (law_forgive C hi4 hl hv hc hm hS go)
    · exact lv_tableIn (tgt := 452) hx hb dL_law_32 (by decide) (by decide) rfl (by decide) (law_visit C hi4 hl hv hc hm hS go)
    · exact lv_tableIn (tgt := 485) hx hb dL_law_32 (by decide) (by decide) rfl (by decide) (law_undo C hi4 hl hv hc hm hS go)
    · exact lv_tableIn (tgt := 498) hx hb dL_law_32 (by decide) (by decide) rfl (by decide) (law_right C hi4 hl hv hc hm hS go)
    · exact lv_tableIn (tgt := 521) hx hb dL_law_32 (by decide) (by decide) rfl (by decide) (law_moved C hi4 hl hv hc hm hS go)
    · exact lv_tableIn (tgt := 534) hx hb dL_law_32 (by decide) (by decide) rfl (by decide) (law_mend C hi4 hl hv hc hm hS go)
    · exact lv_tableIn (tgt := 557) hx hb dL_law_32 (by decide) (by decide) rfl (by decide) (law_grudge C hi4 hl hv hc hm hS go)
    · exact lv_tableIn (tgt := 570) hx hb dL_law_32 (by decide) (by decide) rfl (by decide) (law_takes C hi4 hl hv hc hm hS go)
    · exact lv_tableIn (tgt := 593) hx hb dL_law_32 (by decide) (by decide) rfl (by decide) (law_tour C hi4 hl hv hc hm hS go)
    · exact lv_tableIn (tgt := 616) hx hb dL_law_32 (by decide) (by decide) rfl (by decide) (law_enough C hi4 hl hv hc hm hS go)
    · exact lv_tableIn (tgt := 629) hx hb dL_law_32 (by decide) (by decide) rfl (by decide) (law_leave C hi4 hl hv hc hm hS go)
    · exact lv_tableIn (tgt := 642) hx hb dL_law_32 (by decide) (by decide) rfl (by decide) (law_seen C hi4 hl hv hc hm hS go)
    · exact lv_tableIn (tgt := 675) hx hb dL_law_32 (by decide) (by decide) rfl (by decide) (law_forget C hi4 hl hv hc hm hS go)
    · exact lv_tableIn (tgt := 688) hx hb dL_law_32 (by decide) (by decide) rfl (by decide) (law_was C hi4 hl hv hc hm hS go)
    · exact lv_tableIn (tgt := 711) hx hb dL_law_32 (by decide) (by decide) rfl (by decide) (law_owed C hi4 hl hv hc hm hS go)
    · exact lv_tableIn (tgt := 734) hx hb dL_law_32 (by decide) (by decide) rfl (by decide) (law_balance C hi4 hl hv hc hm hS go)
    · exact lv_tableIn (tgt := 747) hx hb dL_law_32 (by decide) (by decide) rfl (by decide) (law_names C hi4 hl hv hc hm hS go)
    · exact lv_tableIn (tgt := 770) hx hb dL_law_32 (by decide) (by decide) rfl (by decide) (law_next C hi4 hl hv hc hm hS go)
    · exact lv_tableIn (tgt := 813) hx hb dL_law_32 (by decide) (by decide) rfl (by decide) (law_year C hi4 hl hv hc hm hS go)
    · exact lv_tableIn (tgt := 856) hx hb dL_law_32 (by decide) (by decide) rfl (by decide) (law_keep C hi4 hl hv hc hm hS go)
    · exact lv_tableIn (tgt := 869) hx hb dL_law_32 (by decide) (by decide) rfl (by decide) (law_back C hi4 hl hv hc hm hS go)
    · exact lv_tableIn (tgt := 882) hx hb dL_law_32 (by decide) (by decide) rfl (by decide) (law_count C hi4 hl hv hc hm hS go)
    · exact lv_tableOut (tgt := 905) hx hb dL_law_32 (by decide) (by decide) (go H locs Y o S hv hc hm hS)
end LOOP
set_option maxHeartbeats 4000000 in
set_option maxRecDepth 100000 in
theorem whole_start {p : Program} {e : Env} {s : State} {m : MethodId} {below : List Frame} {meth : Method} {c : Code} (l : Launch) {b L : Nat} {xs : Nat → Int32} (hL : L ≤ 256) (C0 : lw_At p s m meth c b L xs) : W p l e room_1 s m #[Value.ref b] below meth c s.heap [] 0 0 (lw_Z below #[Value.ref b] s) (entryFrame m ([Value.ref b] : List Value).toArray 4) := by
  obtain ⟨hx, hb, hr, hml, hown, hts, hX, hbl, hlocks, hgv⟩ := id C0
  have hB : ∀ w ∈ BIG, w.before #[Value.ref b] s = true := fun w h => hts w (List.mem_filter.mp h).1
  obtain ⟨E, hK⟩ := law_K hts
  obtain ⟨q, qv, hF⟩ := law_S hts hgv
  obtain ⟨n, hn⟩ : ∃ n, s.heap.size = n := ⟨_, rfl⟩
  rw [hn] at hF
  have hS : va_S (AN n) s.heap s.heap [] := va_S.rf
  have hl := lv_entry ([.ref b]) (n := 4) (Nat.le_of_ble_eq_true rfl)
  rw [lg_entry_eq]
  generalize (lg_sl ([.ref b]) ++ List.replicate (4 - (lg_sl ([.ref b])).length) Slot.unset).toArray = ls at hl ⊢
  have hl : lv_has ls 4 [(0, .ref b)] := hl
  refine r_new (ci := 4) (fs := [.null, .null, .null, .null, .null, .null, .null, .null, .null, .int 0]) hx hb hB inX4 tyX4 tyX4_ok hown (hB _ clL_c7) (hB _ insX4) (hB _ iniX4) hK hS rfl (fun j hj => by rcases (show j = 0 ∨ j = 1 ∨ j = 2 ∨ j = 3 ∨ j = 4 ∨ j = 5 ∨ j = 6 ∨ j = 7 ∨ j = 8 ∨ j = 9 by omega) with rfl | rfl | rfl | rfl | rfl | rfl | rfl | rfl | rfl | rfl <;> rfl) (Nat.le_of_ble_eq_true rfl) (Nat.le_of_ble_eq_true rfl) dL_law_0 (fun H1 e1 z1 o1 hS => ?_)
  rw [hn] at e1 z1 o1 ⊢
  have hF1 : SF n q qv s H1 := hF.kept (fun a ha _ => o1 a (by omega))
  refine lv_dup hx hb dL_law_3 rfl ?_
  refine k_I (va_runI (As := []) (rest := [.ref n]) ⟨hx, hb, hml, hown, hB⟩ (c_X4_init l E n q qv) (cwI 0 hB (bgG mcX4_init) rfl rfl rfl (hB _ iniX4) (hB _ miL_9) (hB _ imX4_init) rfl (by decide +kernel) ⟨Nat.le_of_ble_eq_true rfl, Nat.le_of_ble_eq_true rfl⟩) (PkG.S (SF_st n q qv) hK hF1 ⟨z1, e1⟩) rfl rfl hl.1 rfl (lv_room (Nat.le_of_ble_eq_true rfl)) dL_law_4 ⟨Nat.le_of_ble_eq_true rfl, Nat.le_of_ble_eq_true rfl⟩) hS (fun q h => h) (fun H2 L2 hw2 h6 h7 hS => ?_)
  obtain ⟨Y0, o0, hc, ci⟩ := hw2
  refine lv_astore_n (lv' := [(1, .ref n), (0, .ref b)]) hx hb dL_law_7 rfl hl (by decide) rfl (fun ls hl => ?_)
  refine r_new (ci := 5) (fs := [.int 0, .int 0, .null, .int 0, .null, .int 0, .null, .int 0, .null, .null, .int 0, .int 0, .null, .int 0, .int 0, .int 0, .null, .null, .null, .null, .int 0, .int 0, .int 0, .int 0, .null, .null]) hx hb hB inX5 tyX5 tyX5_ok hown (hB _ clL_c10) (hB _ insX5) (hB _ iniX5) hK hS rfl (fun j hj => by rcases (show j = 0 ∨ j = 1 ∨ j = 2 ∨ j = 3 ∨ j = 4 ∨ j = 5 ∨ j = 6 ∨ j = 7 ∨ j = 8 ∨ j = 9 ∨ j = 10 ∨ j = 11 ∨ j = 12 ∨ j = 13 ∨ j = 14 ∨ j = 15 ∨ j = 16 ∨ j = 17 ∨ j = 18 ∨ j = 19 ∨ j = 20 ∨ j = 21 ∨ j = 22 ∨ j = 23 ∨ j = 24 ∨ j = 25 by omega) with rfl | rfl | rfl | rfl | rfl | rfl | rfl | rfl | rfl | rfl | rfl | rfl | rfl | rfl | rfl | rfl | rfl | rfl | rfl | rfl | rfl | rfl | rfl | rfl | rfl | rfl <;> rfl) (Nat.le_of_ble_eq_true rfl) (Nat.le_of_ble_eq_true rfl) dL_law_8 (fun H3 e3 z3 o3 hS => ?_)
  obtain ⟨n2, hn2⟩ : ∃ n2, H2.size = n2 := ⟨_, rfl⟩
  rw [hn2] at e3 z3 o3 ⊢
  obtain ⟨r0, e0, mi⟩ := first_m first_g
  refine lv_dup hx hb dL_law_11 rfl ?_
  have hnn : n ≤ n2 := by omega
  refine k_I (va_runI (As := []) (rest := [.ref n2]) ⟨hx, hb, hml, hown, hB⟩ (c_X5_init l E n2 r0 e0) (cwI 0 hB (bgG mcX5_init) rfl rfl rfl (hB _ iniX5) (hB _ miL_12) (hB _ imX5_init) rfl (by decide +kernel) ⟨Nat.le_of_ble_eq_true rfl, Nat.le_of_ble_eq_true rfl⟩) (Pk.S hK ⟨z3, e3⟩) rfl rfl hl.1 rfl (lv_room (Nat.le_of_ble_eq_true rfl)) dL_law_12 ⟨Nat.le_of_ble_eq_true rfl, Nat.le_of_ble_eq_true rfl⟩) hS (fun q h => Nat.le_trans hnn h) (fun H4 L4 hm h8 h9 hS => ?_)
  have hlo : ∀ q, AC (aYn n) (aOn n) q → q < n2 := by
    rintro q (⟨i, k, hi, hk, rfl⟩ | ⟨k, hk, rfl⟩)
    · rw [← hn2]; exact (hc.1 i hi k hk).lt
    · rw [← hn2]; exact (hc.2.1 k hk).lt
  have kp : ∀ q : Nat, q < n2 → H4[q]? = H2[q]? := fun q hq => (h9 q (by omega) (by show ¬ n2 ≤ q; omega)).trans (o3 q hq)
  have hc4 : CW E (aYn n) (aOn n) Y0 o0 H4 := ⟨fun i hi => (hc.1 i hi).kept (fun k hk => kp _ (hlo _ (AC.y hi hk))), hc.2.1.kept (fun k hk => kp _ (hlo _ (AC.o hk))), hc.2.2⟩
  refine lv_astore_n (lv' := [(2, .ref n2), (1, .ref n), (0, .ref b)]) hx hb dL_law_15 rfl hl (by decide) rfl (fun ls hl => ?_)
  refine lv_iconst (v := 0) hx hb dL_law_16 (by decide) ?_
  refine lv_istore_n (lv' := [(3, .int 0), (2, .ref n2), (1, .ref n), (0, .ref b)]) hx hb dL_law_17 rfl hl (by decide) rfl (fun ls hl => ?_)
  refine W.widen (k := 600000) (n := 7302250) (Nat.le_of_ble_eq_true rfl) (Nat.le_of_ble_eq_true rfl) ?_
  have hl2 : lv_has ls 4 [(0, .ref b), (1, .ref (aOn n 0)), (2, .ref (aMn n2 0)), (3, .int (nI 0))] := lv_sub hl [3, 2, 1, 0] rfl
  exact law_loop (n := n) (n2 := n2) (E := E) (xs := xs) (L := L) ⟨hx, hb, hml, hown, hB, hK, hX, hbl, hn, hlo, hnn, hL, Nat.le_refl _, Nat.le_refl _⟩ hr hlocks 64 0 H4 L4 ls Y0 o0 r0 (by omega) (by omega) hl2 (first_inv ci mi first_g) hc4 hm hS
