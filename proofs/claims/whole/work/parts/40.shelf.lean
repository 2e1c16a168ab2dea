/-! Shelf, the reference -/
def PkG (E : En) (K : State → Heap → Prop) (av : List Value) (X : Heap → Prop) : Array Value → State → Prop := va_Pc av (fun U => X U.heap ∧ KK E U ∧ K U U.heap)
def Stb (K : State → Heap → Prop) : Prop := (∀ (s U : State) (H : Heap), s.WarmedH U.vm → K s H → K U H) ∧ ∀ (U : State) (H : Heap) (g : JFrame) (mk : MethodId) (a : Array Value), K U H → K (U.calling g mk a) H
theorem PkG.S {E : En} {K : State → Heap → Prop} {s : State} {H : Heap} {As : List Value} {X : Heap → Prop} (hst : Stb K) (hK : KK E s) (hK2 : K s H) (hX : X H) : PreS s H (PkG E K As X) As :=
  ⟨fun a U g mk q => ⟨q.1, q.2.1, q.2.2.1.call, hst.2 U _ g mk a q.2.2.2⟩, fun U hU hW => ⟨rfl, by rw [hU]; exact hX, hK.warm hW, by rw [hU]; exact hst.1 _ _ _ hW hK2⟩⟩
theorem PkG.V {E : En} {K : State → Heap → Prop} {s : State} {H : Heap} {C : String} {b : Addr} {As : List Value} {X : Heap → Prop} (hst : Stb K) (hK : KK E s) (hK2 : K s H) (hX : X H) (hr : ∃ cellB : Cell, H[b]? = some cellB ∧ cellB.vm.isStatics = false ∧ s.vm.findClass C = some cellB.cls) : PreV s H C b (PkG E K (.ref b :: As) X) As :=
  ⟨fun a U g mk q => ⟨q.1, q.2.1, q.2.2.1.call, hst.2 U _ g mk a q.2.2.2⟩, hr, fun U hU hW => ⟨rfl, by rw [hU]; exact hX, hK.warm hW, by rw [hU]; exact hst.1 _ _ _ hW hK2⟩⟩
theorem MbG {l : Launch} {E : En} {K : State → Heap → Prop} {y : MethodName} {cc : ByteArray} {maxL : Nat} {ret : Option FieldType} {rm : Room} {av : List Value} {X : Heap → Prop} {Qc : Array Value → State → Outcome → State → Prop} {mc ms : Nat} {free : Addr → Prop} (hy : plainName y.cls = true) (nv : (lg_sl av).length ≤ maxL)
    (body : ∀ (p : Program) (e : Env) (s : State) (m : MethodId) (below : List Frame) (meth : Method) (c : Code) (ls : Array Slot), p.tables.exec = Jvm.exec → c.code = cc → meth.sig.returnType = ret → meth.locks = false → (∀ w ∈ BIG, w.before av.toArray s = true) → s.vm.findClass y.cls = some m.cls → c.maxLocals = maxL → meth.name = y.name → KK E s → X s.heap → K s s.heap → lv_has ls maxL (lv_args 0 av) →
      W p l e rm s m av.toArray below meth c s.heap [] 0 0 (MQ below Qc av.toArray s mc ms free) (F0 m 0 ls [])) : Met l y (Cond.code y cc maxL ret :: BIG) rm (PkG E K av X) Qc mc ms free := by
  refine Met.ofW (cc := cc) (maxL := maxL) (ret := ret) hy rfl ?_
  intro p e s m args below meth c s₁ B hml hv
  obtain ⟨rfl, hX, hK, hK2⟩ := hv
  have hts := atoms_spec (ws := Cond.code y cc maxL ret :: BIG) B.pre
  have hl := lv_entry av (n := maxL) nv
  rw [lg_entry_eq]
  exact body p e s m below meth c _ B.exec B.bytes B.returns B.notSynchronized (fun w h => hts w (List.mem_cons_of_mem _ h)) (findClass_of_methodNamed B.named) hml (name_of_methodNamed B.named B.method).1 hK hX hK2 hl
def KA : State → Heap → Prop := fun U _ => va_AO RX3 U
theorem KA_st : Stb KA := ⟨fun s U H hW h => va_AO.moved hW.alike h, fun U H g mk a h => va_AO.moved (u := U) (U := U.calling g mk a) (Vm.Alike.refl U.vm) h⟩
def LI (E : En) (n k i : Nat) (H : Heap) : Prop := H.size = n + 2 + 7 * i ∧ va_at E.1 vwCl (n, .inr (1, [.int 0, .ref (n + 1)])) H ∧ (∃ f : Nat → Option Nat, va_at E.1 vwCl (n + 1, .inl (E.2 2, k, .inr (.inr (.inr (.inr f))))) H ∧ ∀ j, j < i → f j = some (n + 2 + 7 * j)) ∧ ∀ j, j < i → Yd E (fun c => n + 2 + 7 * j + c) yE H
def ShW (E : En) (n k : Nat) (H : Heap) : Prop := H.size = n + 2 + 7 * k ∧ va_at E.1 vwCl (n, .inr (1, [.int 0, .ref (n + 1)])) H ∧ va_at E.1 vwCl (n + 1, .inl (E.2 2, k, .inr (.inr (.inr (.inr (fun j => some (n + 2 + 7 * j))))))) H ∧ ∀ j, j < k → Yd E (fun c => n + 2 + 7 * j + c) yE H
theorem arrV_cg {cA : ClassId} {n : Nat} {f g : Nat → Value} (h : ∀ j, j < n → f j = g j) : arrV cA n f = arrV cA n g := by
  show ({ cls := cA, slots := Array.ofFn (n := n) fun j => f j.val, vm := .none } : Cell) = { cls := cA, slots := Array.ofFn (n := n) fun j => g j.val, vm := .none }
  have e : (fun j : Fin n => f j.val) = fun j : Fin n => g j.val := funext fun j => h j.val j.isLt
  rw [e]
theorem at_cgq {E : En} {H : Heap} {a n : Nat} {cA : ClassId} {f g : Nat → Option Nat} (h : va_at E.1 vwCl (a, .inl (cA, n, .inr (.inr (.inr (.inr f))))) H) (e : ∀ j, j < n → f j = g j) : va_at E.1 vwCl (a, .inl (cA, n, .inr (.inr (.inr (.inr g))))) H := by
  show H[a]? = some (vp_cell _ _)
  rw [vp_cell_q, ← arrV_cg (f := fun j => va_rf (f j)) (fun j hj => by rw [e j hj])]
  exact h
theorem Yd_kept {E : En} {q : Nat → Nat} {y : OS} {H H1 : Heap} (h : Yd E q y H) (o : ∀ c, c < 7 → H1[q c]? = H[q c]?) : Yd E q y H1 := ⟨h.1.kept o, h.2⟩
abbrev rmX1_init (k : Nat) : Room := { frames := 3, cells := 1 + 7 * k, slots := k + 74 * k, locals := 61 }
set_option maxHeartbeats 4000000 in
set_option maxRecDepth 100000 in
theorem c_X1_init (l : Launch) (E : En) (n k : Nat) (hk1 : 1 ≤ k) (hk8 : k ≤ 8) : Met l yX1_init (kX1_init :: BIG) (rmX1_init k) (PkG E KA [.ref n, .int (nI k)] (fun H => H.size = n + 1 ∧ va_at E.1 vwCl (n, .inr (1, [.int 0, .null])) H)) (QW none (fun q => n ≤ q) (ShW E n k)) (1 + 7 * k) (k + 74 * k) (fun q => n ≤ q) := by
  refine MbG (by decide) (Nat.le_of_ble_eq_true rfl) ?_
  intro p e s m below meth c ls hx hb hr hlk hB hown hml hnm hK hw hK2 hl
  obtain ⟨hz, hw⟩ := hw
  have hS : va_S (fun q => n ≤ q) s.heap s.heap [] := va_S.rf
  have hl : lv_has ls 3 [(0, .ref n), (1, .int (nI k))] := hl
  have hin2 : meth.name = "<init>" := hnm
  have hA : ∀ q : Nat, n ≤ q → (fun q => n ≤ q) q := fun _ z => z
  have loop : ∀ (d i : Nat) (H : Heap) (L : List Loc) (ls : Array Slot), i + d = k → lv_has ls 3 [(0, .ref n), (1, .int (nI k)), (2, .int (nI i))] → LI E n k i H → va_S (fun q => n ≤ q) s.heap H L → W p l e (rmX1_init k) s m ([.ref n, .int (nI k)] : List Value).toArray below meth c H L (1 + 7 * i) (k + 74 * i) (MQ below (QW none (fun q => n ≤ q) (ShW E n k)) ([.ref n, .int (nI k)] : List Value).toArray s (1 + 7 * k) (k + 74 * k) (fun q => n ≤ q)) (F0 m 18 ls []) := by
    intro d
    induction d with
    | zero =>
      intro i H L ls hi hl hw hS
      have hi : i = k := hi
      subst hi
      obtain ⟨w1, w2, ⟨f, w3, w4⟩, w5⟩ := hw
      refine lv_iload_n hx hb dX1_init_18 rfl (lv_at hl 2 rfl) ?_
      refine lv_aload_n hx hb dX1_init_19 rfl (lv_at hl 0 rfl) ?_
      refine r_get hx hb hB inX1 hown hK w2 rfl 1 (by decide) lkX1_15 rfl rfl dX1_init_20 ?_
      refine r_alen hx hb hK 2 w3 rfl rfl dX1_init_23 ?_
      refine lv_icmp_ge (tgt := 46) hx hb dX1_init_24 (by decide) (fun g1 => ?_) (fun g1 => absurd (Int32.le_refl _) g1)
      exact e_vW hx hb hr hlk ⟨w1, w2, at_cgq w3 w4, w5⟩ hS dX1_init_46
    | succ d ih =>
      intro i H L ls hi hl hw hS
      obtain ⟨w1, w2, ⟨f, w3, w4⟩, w5⟩ := hw
      refine lv_iload_n hx hb dX1_init_18 rfl (lv_at hl 2 rfl) ?_
      refine lv_aload_n hx hb dX1_init_19 rfl (lv_at hl 0 rfl) ?_
      refine r_get hx hb hB inX1 hown hK w2 rfl 1 (by decide) lkX1_15 rfl rfl dX1_init_20 ?_
      refine r_alen hx hb hK 2 w3 rfl rfl dX1_init_23 ?_
      refine lv_icmp_ge (tgt := 46) hx hb dX1_init_24 (by decide) (fun g1 => absurd ((nI_leI (a := k) (b := i) (by omega) (by omega)).mp g1) (by omega)) (fun g1 => ?_)
      refine lv_aload_n hx hb dX1_init_27 rfl (lv_at hl 0 rfl) ?_
      refine r_get hx hb hB inX1 hown hK w2 rfl 1 (by decide) lkX1_15 rfl rfl dX1_init_28 ?_
      refine lv_iload_n hx hb dX1_init_31 rfl (lv_at hl 2 rfl) ?_
      refine r_new (ci := 3) (fs := [.int 0, .int 0, .int 0, .int 0, .null, .null, .null, .null, .null, .null]) hx hb hB inX3 tyX3 tyX3_ok hown (hB _ clX1_c13) (hB _ insX3) (hB _ iniX3) hK hS rfl (fun j hj => by rcases (show j = 0 ∨ j = 1 ∨ j = 2 ∨ j = 3 ∨ j = 4 ∨ j = 5 ∨ j = 6 ∨ j = 7 ∨ j = 8 ∨ j = 9 by omega) with rfl | rfl | rfl | rfl | rfl | rfl | rfl | rfl | rfl | rfl <;> rfl) (by show _ ≤ 1 + 7 * k; omega) (by show _ ≤ k + 74 * k; omega) dX1_init_32 (fun H1 e1 z1 o1 hS => ?_)
      refine lv_dup hx hb dX1_init_35 rfl ?_
      refine k_I (va_runI (As := []) (rest := [.ref H.size, .int (nI i), .ref (n + 1)]) ⟨hx, hb, hml, hown, hB⟩ (c_X3_init l E H.size) (cwI 0 hB (bgG mcX3_init) rfl rfl rfl (hB _ iniX3) (hB _ miX1_21) (hB _ imX3_init) rfl (by decide +kernel) ⟨Nat.le_of_ble_eq_true rfl, Nat.le_of_ble_eq_true rfl⟩) (Pk.S hK ⟨z1, e1⟩) rfl rfl hl.1 rfl (lv_room (Nat.le_of_ble_eq_true rfl)) dX1_init_36 ⟨by show _ ≤ 1 + 7 * k; omega, by show _ ≤ k + 74 * k; omega⟩) hS (fun q h => by have h : H.size ≤ q := h; show n ≤ q; omega) (fun H2 L2 hw2 h6 h7 hS => ?_)
      obtain ⟨z2, y2⟩ := hw2
      have kp : ∀ q : Nat, q < H.size → H2[q]? = H[q]? := fun q hq => (h7 q (by omega) (by show ¬ H.size ≤ q; omega)).trans (o1 q hq)
      have w2 := w2.kept (kp _ (by omega))
      have w3 := w3.kept (kp _ (by omega))
      refine r_aast (ci := 3) (r := (RX3, TX3, 10)) hx hb hK w3 (y2.1 0 (by decide)) hS (by show n ≤ n + 1; omega) (vp_in_nI (by omega) (by omega)) dX1_init_39 (fun H3 L3 w3 ho hS => ?_)
      refine lv_iinc (v := (nI i + 1)) (lv' := [(2, .int (nI i + 1)), (0, .ref n), (1, .int (nI k))]) hx hb dX1_init_40 hl (k := 2) rfl rfl (by decide) rfl (fun ls hl => ?_)
      refine lv_goto (tgt := 18) hx hb dX1_init_43 (by decide) ?_
      have hl : lv_has ls 3 [(2, .int (nI (i + 1))), (0, .ref n), (1, .int (nI k))] := by rw [← nI_add i 1]; exact hl
      refine W.widen (k := 1 + 7 * (i + 1)) (n := k + 74 * (i + 1)) (by omega) (by omega) ?_
      refine W_sz (fun hsz => ?_)
      rw [nI_clamp (by omega)] at w3
      have ge3 : H2.size ≤ H3.size := by
        rcases Nat.lt_or_ge H3.size H2.size with hlt | hge
        · exfalso
          have q := ho H3.size (by
            intro hh
            have := w3.lt
            omega)
          rw [Array.getElem?_eq_none (Nat.le_refl _)] at q
          exact absurd q.symm (by rw [Array.getElem?_eq_getElem hlt]; exact fun hh => by cases hh)
        · exact hge
      refine ih (i + 1) H3 L3 ls (by omega) (lv_sub hl [1, 2, 0] rfl) ⟨by omega, w2.kept (ho _ (by omega)), ⟨_, w3, fun j hj => ?_⟩, fun j hj => ?_⟩ hS
      · by_cases cj : j = i
        · subst cj
          rw [show va_up f j (some (H.size + 0)) j = some (H.size + 0) from if_pos rfl, w1]; rfl
        · rw [show va_up f i (some (H.size + 0)) j = f j from if_neg cj]; exact w4 j (by omega)
      · by_cases cj : j = i
        · subst cj
          have y3 := Yd_kept (H1 := H3) y2 (fun c hc => ho _ (by show H.size + c ≠ n + 1; omega))
          rw [w1] at y3; exact y3
        · exact Yd_kept (w5 j (by omega)) (fun c hc => (ho _ (by show n + 2 + 7 * j + c ≠ n + 1; omega)).trans (kp _ (by show n + 2 + 7 * j + c < H.size; omega)))
  refine lv_aload_n hx hb dX1_init_0 rfl (lv_at hl 0 rfl) ?_
  refine W.objInit hx hb hown (hB _ oiX1) (hB _ imObj) (hB _ mcObj) rfl (by rw [hml]; exact hl.1) rfl dX1_init_1 (Nat.le_of_ble_eq_true rfl) (Nat.le_of_ble_eq_true rfl) ?_
  refine W.eq (g2 := F0 m 4 ls []) rfl ?_
  refine lv_aload_n hx hb dX1_init_4 rfl (lv_at hl 0 rfl) ?_
  refine lv_iload_n hx hb dX1_init_5 rfl (lv_at hl 1 rfl) ?_
  refine lv_iconst (v := 1) hx hb dX1_init_6 (by decide) ?_
  refine va_mmax hx hb (hml.trans hl.1.symm) hown (hB _ mlX1_7) (hB _ smMath_max) (hB _ iniMath) (hB _ mcMath_max) (Nat.le_of_ble_eq_true rfl) (Nat.le_of_ble_eq_true rfl) (Nat.zero_le _) (Nat.zero_le _) dX1_init_7 ?_
  rw [show (if nI k < 1 then (1 : Int32) else nI k) = nI k from if_neg (fun z => by
    have z : nI k < nI 1 := z
    exact absurd z (Int32.not_lt.mpr ((nI_leI (a := 1) (b := k) (by omega) (by omega)).mpr hk1)))]
  refine r_newq (N := k) hx hb hown (hB _ clX1_c13) hK2 hK (nI_pos (by omega)) (nI_clamp (by omega)) (by omega) (by show _ ≤ 1 + 7 * k; omega) (by show _ ≤ k + 74 * k; omega) dX1_init_10 hS (fun H1 e1 z1 o1 hS => ?_)
  refine r_putF (ref := RX1) (a := n) (ty := .array (.object RX3)) hx hb hB inX1 tyX1 tyX1_ok nmX1 hown hK (hw.kept (o1 _ (by omega))) hS (Nat.le_refl n) rfl 1 (by decide) lkX1_15 rfl rfl hin2 rfl (by decide +kernel) rfl rfl (Nat.le_of_ble_eq_true rfl) dX1_init_13 (fun H2 L2 e2 z2 o2 hS => ?_)
  refine lv_iconst (v := 0) hx hb dX1_init_16 (by decide) ?_
  refine lv_istore_n (lv' := [(2, .int 0), (0, .ref n), (1, .int (nI k))]) hx hb dX1_init_17 rfl hl (by decide) rfl (fun ls hl => ?_)
  refine W.widen (k := 1 + 7 * 0) (n := k + 74 * 0) (by omega) (by omega) ?_
  refine loop k 0 H2 L2 ls (by omega) (lv_sub hl [1, 2, 0] rfl) ⟨by omega, ?_, ⟨fun _ => none, ?_, fun j hj => absurd hj (Nat.not_lt_zero j)⟩, fun j hj => absurd hj (Nat.not_lt_zero j)⟩ hS
  · rw [hz] at e2; exact e2
  · rw [hz] at e1; exact e1.kept (o2 _ (by omega))
def fX5_init : Option OS := (fX5_clearTold zO).bind (fun r0 => (fX5_tellsDead (u2 r0 0 13 4) 0 0 7).bind (fun r1 => (fX5_tellsDead r1 1 0 3).bind (fun r2 => (fX5_tellsDead r2 0 1 2).bind (fun r3 => (fX5_tellsDead r3 0 0 9).bind (fun r4 => (fX5_tellsDead r4 1 3 5).bind (fun r5 => (fX5_tellsDead r5 1 2 0).bind (fun r6 => (fX5_tellsDead r6 0 0 6).bind (fun r7 => (fX5_tellsGuest r7 0 4).bind (fun r8 => (fX5_tellsGuest r8 1 3).bind (fun r9 => (fX5_tellsGuest r9 3 6).bind (fun r10 => (fX5_tellsGuest r10 5 2).bind (fun r11 => (fX5_settles (u2 r11 0 14 40)).bind (fun r12 => some r12)))))))))))))
abbrev rmX5_init : Room := { frames := 5, cells := 12, slots := 1161, locals := 116 }
set_option maxHeartbeats 4000000 in
set_option maxRecDepth 100000 in
theorem c_X5_init (l : Launch) (E : En) (n : Nat) (r : OS) (h : fX5_init = some r) : Met l yX5_init (kX5_init :: BIG) rmX5_init (Pk E [.ref n] (fun H => H.size = n + 1 ∧ va_at E.1 vwCl (n, .inr (5, [.int 0, .int 0, .null, .int 0, .null, .int 0, .null, .int 0, .null, .null, .int 0, .int 0, .null, .int 0, .int 0, .int 0, .null, .null, .null, .null, .int 0, .int 0, .int 0, .int 0, .null, .null])) H)) (QW none (fun q => n ≤ q) (MW E (fun c => n + c) r)) 12 1161 (fun q => n ≤ q) := by
  refine Mb (by decide) (Nat.le_of_ble_eq_true rfl) ?_
  intro p e s m below meth c ls hx hb hr hlk hB hown hml hnm hK hw hl
  obtain ⟨hz, hw⟩ := hw
  have hS : va_S (fun q => n ≤ q) s.heap s.heap [] := va_S.rf
  have hl : lv_has ls 1 [(0, .ref n)] := hl
  have hin2 : meth.name = "<init>" := hnm
  have hA : ∀ q : Nat, n ≤ q → (fun q => n ≤ q) q := fun _ z => z
  have st : St E 5 n 1 [.int 0, .int 0, .null, .int 0, .null, .int 0, .null, .int 0, .null, .null, .int 0, .int 0, .null, .int 0, .int 0, .int 0, .null, .null, .null, .null, .int 0, .int 0, .int 0, .int 0, .null, .null] (cM E (fun c => n + c) zO) s.heap := St.one hz hw
  refine lv_aload_n hx hb dX5_init_0 rfl (lv_at hl 0 rfl) ?_
  refine W.objInit hx hb hown (hB _ oiX5) (hB _ imObj) (hB _ mcObj) rfl (by rw [hml]; exact hl.1) rfl dX5_init_1 (Nat.le_of_ble_eq_true rfl) (Nat.le_of_ble_eq_true rfl) ?_
  refine W.eq (g2 := F0 m 4 ls []) rfl ?_
  refine lv_aload_n hx hb dX5_init_4 rfl (lv_at hl 0 rfl) ?_
  refine lv_bipush (v := 66) hx hb dX5_init_5 (by decide) ?_
  refine r_np (len := 66) hx hb hB inX5 tyX5 tyX5_ok nmX5 hown hin2 hK st hS hA rfl 2 (by decide) lkX5_7 rfl rfl (by decide +kernel) (Nat.le_of_ble_eq_true rfl) (by decide) rfl (by decide) rfl (Nat.le_of_ble_eq_true rfl) (Nat.le_of_ble_eq_true rfl) dX5_init_7 dX5_init_9 (fun H L st hS => ?_)
  refine lv_aload_n hx hb dX5_init_12 rfl (lv_at hl 0 rfl) ?_
  refine lv_sipush (v := 528) hx hb dX5_init_13 (by decide) ?_
  refine r_np (len := 528) hx hb hB inX5 tyX5 tyX5_ok nmX5 hown hin2 hK st hS hA rfl 4 (by decide) lkX5_13 rfl rfl (by decide +kernel) (Nat.le_of_ble_eq_true rfl) (by decide) rfl (by decide) rfl (Nat.le_of_ble_eq_true rfl) (Nat.le_of_ble_eq_true rfl) dX5_init_16 dX5_init_18 (fun H L st hS => ?_)
  refine lv_aload_n hx hb dX5_init_21 rfl (lv_at hl 0 rfl) ?_
  refine lv_sipush (v := 132) hx hb dX5_init_22 (by decide) ?_
  refine r_np (len := 132) hx hb hB inX5 tyX5 tyX5_ok nmX5 hown hin2 hK st hS hA rfl 6 (by decide) lkX5_16 rfl rfl (by decide +kernel) (Nat.le_of_ble_eq_true rfl) (by decide) rfl (by decide) rfl (Nat.le_of_ble_eq_true rfl) (Nat.le_of_ble_eq_true rfl) dX5_init_25 dX5_init_27 (fun H L st hS => ?_)
  refine lv_aload_n hx hb dX5_init_30 rfl (lv_at hl 0 rfl) ?_
  refine lv_bipush (v := 16) hx hb dX5_init_31 (by decide) ?_
  refine r_np (len := 16) hx hb hB inX5 tyX5 tyX5_ok nmX5 hown hin2 hK st hS hA rfl 8 (by decide) lkX5_19 rfl rfl (by decide +kernel) (Nat.le_of_ble_eq_true rfl) (by decide) rfl (by decide) rfl (Nat.le_of_ble_eq_true rfl) (Nat.le_of_ble_eq_true rfl) dX5_init_33 dX5_init_35 (fun H L st hS => ?_)
  refine lv_aload_n hx hb dX5_init_38 rfl (lv_at hl 0 rfl) ?_
  refine lv_sipush (v := 200) hx hb dX5_init_39 (by decide) ?_
  refine r_np (len := 200) hx hb hB inX5 tyX5 tyX5_ok nmX5 hown hin2 hK st hS hA rfl 9 (by decide) lkX5_22 rfl rfl (by decide +kernel) (Nat.le_of_ble_eq_true rfl) (by decide) rfl (by decide) rfl (Nat.le_of_ble_eq_true rfl) (Nat.le_of_ble_eq_true rfl) dX5_init_42 dX5_init_44 (fun H L st hS => ?_)
  refine lv_aload_n hx hb dX5_init_47 rfl (lv_at hl 0 rfl) ?_
  refine lv_iconst (v := 3) hx hb dX5_init_48 (by decide) ?_
  refine r_np (len := 3) hx hb hB inX5 tyX5 tyX5_ok nmX5 hown hin2 hK st hS hA rfl 12 (by decide) lkX5_25 rfl rfl (by decide +kernel) (Nat.le_of_ble_eq_true rfl) (by decide) rfl (by decide) rfl (Nat.le_of_ble_eq_true rfl) (Nat.le_of_ble_eq_true rfl) dX5_init_49 dX5_init_51 (fun H L st hS => ?_)
  refine lv_aload_n hx hb dX5_init_54 rfl (lv_at hl 0 rfl) ?_
  refine lv_bipush (v := 66) hx hb dX5_init_55 (by decide) ?_
  refine r_np (len := 66) hx hb hB inX5 tyX5 tyX5_ok nmX5 hown hin2 hK st hS hA rfl 16 (by decide) lkX5_28 rfl rfl (by decide +kernel) (Nat.le_of_ble_eq_true rfl) (by decide) rfl (by decide) rfl (Nat.le_of_ble_eq_true rfl) (Nat.le_of_ble_eq_true rfl) dX5_init_57 dX5_init_59 (fun H L st hS => ?_)
  refine lv_aload_n hx hb dX5_init_62 rfl (lv_at hl 0 rfl) ?_
  refine lv_bipush (v := 66) hx hb dX5_init_63 (by decide) ?_
  refine r_np (len := 66) hx hb hB inX5 tyX5 tyX5_ok nmX5 hown hin2 hK st hS hA rfl 17 (by decide) lkX5_31 rfl rfl (by decide +kernel) (Nat.le_of_ble_eq_true rfl) (by decide) rfl (by decide) rfl (Nat.le_of_ble_eq_true rfl) (Nat.le_of_ble_eq_true rfl) dX5_init_65 dX5_init_67 (fun H L st hS => ?_)
  refine lv_aload_n hx hb dX5_init_70 rfl (lv_at hl 0 rfl) ?_
  refine lv_bipush (v := 66) hx hb dX5_init_71 (by decide) ?_
  refine r_np (len := 66) hx hb hB inX5 tyX5 tyX5_ok nmX5 hown hin2 hK st hS hA rfl 18 (by decide) lkX5_34 rfl rfl (by decide +kernel) (Nat.le_of_ble_eq_true rfl) (by decide) rfl (by decide) rfl (Nat.le_of_ble_eq_true rfl) (Nat.le_of_ble_eq_true rfl) dX5_init_73 dX5_init_75 (fun H L st hS => ?_)
  refine lv_aload_n hx hb dX5_init_78 rfl (lv_at hl 0 rfl) ?_
  refine lv_bipush (v := 6) hx hb dX5_init_79 (by decide) ?_
  refine r_np (len := 6) hx hb hB inX5 tyX5 tyX5_ok nmX5 hown hin2 hK st hS hA rfl 19 (by decide) lkX5_37 rfl rfl (by decide +kernel) (Nat.le_of_ble_eq_true rfl) (by decide) rfl (by decide) rfl (Nat.le_of_ble_eq_true rfl) (Nat.le_of_ble_eq_true rfl) dX5_init_81 dX5_init_83 (fun H L st hS => ?_)
  refine lv_aload_n hx hb dX5_init_86 rfl (lv_at hl 0 rfl) ?_
  refine lv_bipush (v := 6) hx hb dX5_init_87 (by decide) ?_
  refine r_np (len := 6) hx hb hB inX5 tyX5 tyX5_ok nmX5 hown hin2 hK st hS hA rfl 24 (by decide) lkX5_40 rfl rfl (by decide +kernel) (Nat.le_of_ble_eq_true rfl) (by decide) rfl (by decide) rfl (Nat.le_of_ble_eq_true rfl) (Nat.le_of_ble_eq_true rfl) dX5_init_89 dX5_init_91 (fun H L st hS => ?_)
  refine lv_aload_n hx hb dX5_init_94 rfl (lv_at hl 0 rfl) ?_
  refine lv_bipush (v := 6) hx hb dX5_init_95 (by decide) ?_
  refine r_np (len := 6) hx hb hB inX5 tyX5 tyX5_ok nmX5 hown hin2 hK st hS hA rfl 25 (by decide) lkX5_43 rfl rfl (by decide +kernel) (Nat.le_of_ble_eq_true rfl) (by decide) rfl (by decide) rfl (Nat.le_of_ble_eq_true rfl) (Nat.le_of_ble_eq_true rfl) dX5_init_97 dX5_init_99 (fun H L st hS => ?_)
  have hw : MW E (fun c => n + c) zO H := ⟨fun c hc => by
    cases c with
    | zero => exact st.2.2.1
    | succ c => exact st.2.2.2 (c + 1) (by omega) hc, Ij_n n 13⟩
  have hAm : ∀ q, AM (fun c => n + c) q → n ≤ q := fun q h => by obtain ⟨c, -, rfl⟩ := h; exact Nat.le_add_right n c
  rw [fX5_init] at h
  refine lv_aload_n hx hb dX5_init_102 rfl (lv_at hl 0 rfl) ?_
  obtain ⟨r0, e0, h⟩ := ob h
  refine k_VWv (b := n) ⟨hx, hb, hml, hown, hB⟩ (c_X5_clearTold l E (fun c => n + c) zO r0 e0) (clX5_46 hB rfl rfl ⟨Nat.le_of_ble_eq_true rfl, Nat.le_of_ble_eq_true rfl⟩) hK hw (rvM hK hw) rfl hl.1 rfl (Nat.le_of_ble_eq_true rfl) dX5_init_103 ⟨Nat.le_of_ble_eq_true rfl, Nat.le_of_ble_eq_true rfl⟩ hS hAm (fun H L hw _ _ hS => ?_)
  refine lv_aload_n hx hb dX5_init_106 rfl (lv_at hl 0 rfl) ?_
  refine lv_iconst (v := 4) hx hb dX5_init_107 (by decide) ?_
  refine pX5_49 (am := fun c => n + c) hx hb hB hown hK hw hS hAm dX5_init_108 (fun H L hw hS => ?_)
  refine lv_aload_n hx hb dX5_init_111 rfl (lv_at hl 0 rfl) ?_
  refine lv_iconst (v := 0) hx hb dX5_init_112 (by decide) ?_
  refine lv_iconst (v := 0) hx hb dX5_init_113 (by decide) ?_
  refine lv_bipush (v := 7) hx hb dX5_init_114 (by decide) ?_
  obtain ⟨r1, e1, h⟩ := ob h
  refine k_VWv (b := n) ⟨hx, hb, hml, hown, hB⟩ (c_X5_tellsDead l E (fun c => n + c) (u2 r0 0 13 4) 0 0 7 r1 e1) (clX5_53 hB rfl rfl ⟨Nat.le_of_ble_eq_true rfl, Nat.le_of_ble_eq_true rfl⟩) hK hw (rvM hK hw) rfl hl.1 rfl (Nat.le_of_ble_eq_true rfl) dX5_init_116 ⟨Nat.le_of_ble_eq_true rfl, Nat.le_of_ble_eq_true rfl⟩ hS hAm (fun H L hw _ _ hS => ?_)
  refine lv_aload_n hx hb dX5_init_119 rfl (lv_at hl 0 rfl) ?_
  refine lv_iconst (v := 1) hx hb dX5_init_120 (by decide) ?_
  refine lv_iconst (v := 0) hx hb dX5_init_121 (by decide) ?_
  refine lv_iconst (v := 3) hx hb dX5_init_122 (by decide) ?_
  obtain ⟨r2, e2, h⟩ := ob h
  refine k_VWv (b := n) ⟨hx, hb, hml, hown, hB⟩ (c_X5_tellsDead l E (fun c => n + c) r1 1 0 3 r2 e2) (clX5_53 hB rfl rfl ⟨Nat.le_of_ble_eq_true rfl, Nat.le_of_ble_eq_true rfl⟩) hK hw (rvM hK hw) rfl hl.1 rfl (Nat.le_of_ble_eq_true rfl) dX5_init_123 ⟨Nat.le_of_ble_eq_true rfl, Nat.le_of_ble_eq_true rfl⟩ hS hAm (fun H L hw _ _ hS => ?_)
  refine lv_aload_n hx hb dX5_init_126 rfl (lv_at hl 0 rfl) ?_
  refine lv_iconst (v := 0) hx hb dX5_init_127 (by decide) ?_
  refine lv_iconst (v := 1) hx hb dX5_init_128 (by decide) ?_
  refine lv_iconst (v := 2) hx hb dX5_init_129 (by decide) ?_
  obtain ⟨r3, e3, h⟩ := ob h
  refine k_VWv (b := n) ⟨hx, hb, hml, hown, hB⟩ (c_X5_tellsDead l E (fun c => n + c) r2 0 1 2 r3 e3) (clX5_53 hB rfl rfl ⟨Nat.le_of_ble_eq_true rfl, Nat.le_of_ble_eq_true rfl⟩) hK hw (rvM hK hw) rfl hl.1 rfl (Nat.le_of_ble_eq_true rfl) dX5_init_130 ⟨Nat.le_of_ble_eq_true rfl, Nat.le_of_ble_eq_true rfl⟩ hS hAm (fun H L hw _ _ hS => ?_)
  refine lv_aload_n hx hb dX5_init_133 rfl (lv_at hl 0 rfl) ?_
  refine lv_iconst (v := 0) hx hb dX5_init_134 (by decide) ?_
  refine lv_iconst (v := 0) hx hb dX5_init_135 (by decide) ?_
  refine lv_bipush (v := 9) hx hb dX5_init_136 (by decide) ?_
  obtain ⟨r4, e4, h⟩ := ob h
  refine k_VWv (b := n) ⟨hx, hb, hml, hown, hB⟩ (c_X5_tellsDead l E (fun c => n + c) r3 0 0 9 r4 e4) (clX5_53 hB rfl rfl ⟨Nat.le_of_ble_eq_true rfl, Nat.le_of_ble_eq_true rfl⟩) hK hw (rvM hK hw) rfl hl.1 rfl (Nat.le_of_ble_eq_true rfl) dX5_init_138 ⟨Nat.le_of_ble_eq_true rfl, Nat.le_of_ble_eq_true rfl⟩ hS hAm (fun H L hw _ _ hS => ?_)
  refine lv_aload_n hx hb dX5_init_141 rfl (lv_at hl 0 rfl) ?_
  refine lv_iconst (v := 1) hx hb dX5_init_142 (by decide) ?_
  refine lv_iconst (v := 3) hx hb dX5_init_143 (by decide) ?_
  refine lv_iconst (v := 5) hx hb dX5_init_144 (by decide) ?_
  obtain ⟨r5, e5, h⟩ := ob h
  refine k_VWv (b := n) ⟨hx, hb, hml, hown, hB⟩ (c_X5_tellsDead l E (fun c => n + c) r4 1 3 5 r5 e5) (clX5_53 hB rfl rfl ⟨Nat.le_of_ble_eq_true rfl, Nat.le_of_ble_eq_true rfl⟩) hK hw (rvM hK hw) rfl hl.1 rfl (Nat.le_of_ble_eq_true rfl) dX5_init_145 ⟨Nat.le_of_ble_eq_true rfl, Nat.le_of_ble_eq_true rfl⟩ hS hAm (fun H L hw _ _ hS => ?_)
  refine lv_aload_n hx hb dX5_init_148 rfl (lv_at hl 0 rfl) ?_
  refine lv_iconst (v := 1) hx hb dX5_init_149 (by decide) ?_
  refine lv_iconst (v := 2) hx hb dX5_init_150 (by decide) ?_
  refine lv_iconst (v := 0) hx hb dX5_init_151 (by decide) ?_
  obtain ⟨r6, e6, h⟩ := ob h
  refine k_VWv (b := n) ⟨hx, hb, hml, hown, hB⟩ (c_X5_tellsDead l E (fun c => n + c) r5 1 2 0 r6 e6) (clX5_53 hB rfl rfl ⟨Nat.le_of_ble_eq_true rfl, Nat.le_of_ble_eq_true rfl⟩) hK hw (rvM hK hw) rfl hl.1 rfl (Nat.le_of_ble_eq_true rfl) dX5_init_152 ⟨Nat.le_of_ble_eq_true rfl, Nat.le_of_ble_eq_true rfl⟩ hS hAm (fun H L hw _ _ hS => ?_)
  refine lv_aload_n hx hb dX5_init_155 rfl (lv_at hl 0 rfl) ?_
  refine lv_iconst (v := 0) hx hb dX5_init_156 (by decide) ?_
  refine lv_iconst (v := 0) hx hb dX5_init_157 (by decide) ?_
  refine lv_bipush (v := 6) hx hb dX5_init_158 (by decide) ?_
  obtain ⟨r7, e7, h⟩ := ob h
  refine k_VWv (b := n) ⟨hx, hb, hml, hown, hB⟩ (c_X5_tellsDead l E (fun c => n + c) r6 0 0 6 r7 e7) (clX5_53 hB rfl rfl ⟨Nat.le_of_ble_eq_true rfl, Nat.le_of_ble_eq_true rfl⟩) hK hw (rvM hK hw) rfl hl.1 rfl (Nat.le_of_ble_eq_true rfl) dX5_init_160 ⟨Nat.le_of_ble_eq_true rfl, Nat.le_of_ble_eq_true rfl⟩ hS hAm (fun H L hw _ _ hS => ?_)
  refine lv_aload_n hx hb dX5_init_163 rfl (lv_at hl 0 rfl) ?_
  refine lv_iconst (v := 0) hx hb dX5_init_164 (by decide) ?_
  refine lv_iconst (v := 4) hx hb dX5_init_165 (by decide) ?_
  obtain ⟨r8, e8, h⟩ := ob h
  refine k_VWv (b := n) ⟨hx, hb, hml, hown, hB⟩ (c_X5_tellsGuest l E (fun c => n + c) r7 0 4 r8 e8) (clX5_57 hB rfl rfl ⟨Nat.le_of_ble_eq_true rfl, Nat.le_of_ble_eq_true rfl⟩) hK hw (rvM hK hw) rfl hl.1 rfl (Nat.le_of_ble_eq_true rfl) dX5_init_166 ⟨Nat.le_of_ble_eq_true rfl, Nat.le_of_ble_eq_true rfl⟩ hS hAm (fun H L hw _ _ hS => ?_)
  refine lv_aload_n hx hb dX5_init_169 rfl (lv_at hl 0 rfl) ?_
  refine lv_iconst (v := 1) hx hb dX5_init_170 (by decide) ?_
  refine lv_iconst (v := 3) hx hb dX5_init_171 (by decide) ?_
  obtain ⟨r9, e9, h⟩ := ob h
  refine k_VWv (b := n) ⟨hx, hb, hml, hown, hB⟩ (c_X5_tellsGuest l E (fun c => n + c) r8 1 3 r9 e9) (clX5_57 hB rfl rfl ⟨Nat.le_of_ble_eq_true rfl, Nat.le_of_ble_eq_true rfl⟩) hK hw (rvM hK hw) rfl hl.1 rfl (Nat.le_of_ble_eq_true rfl) dX5_init_172 ⟨Nat.le_of_ble_eq_true rfl, Nat.le_of_ble_eq_true rfl⟩ hS hAm (fun H L hw _ _ hS => ?_)
  refine lv_aload_n hx hb dX5_init_175 rfl (lv_at hl 0 rfl) ?_
  refine lv_iconst (v := 3) hx hb dX5_init_176 (by decide) ?_
  refine lv_bipush (v := 6) hx hb dX5_init_177 (by decide) ?_
  obtain ⟨r10, e10, h⟩ := ob h
  refine k_VWv (b := n) ⟨hx, hb, hml, hown, hB⟩ (c_X5_tellsGuest l E (fun c => n + c) r9 3 6 r10 e10) (clX5_57 hB rfl rfl ⟨Nat.le_of_ble_eq_true rfl, Nat.le_of_ble_eq_true rfl⟩) hK hw (rvM hK hw) rfl hl.1 rfl (Nat.le_of_ble_eq_true rfl) dX5_init_179 ⟨Nat.le_of_ble_eq_true rfl, Nat.le_of_ble_eq_true rfl⟩ hS hAm (fun H L hw _ _ hS => ?_)
  refine lv_aload_n hx hb dX5_init_182 rfl (lv_at hl 0 rfl) ?_
  refine lv_iconst (v := 5) hx hb dX5_init_183 (by decide) ?_
  refine lv_iconst (v := 2) hx hb dX5_init_184 (by decide) ?_
  obtain ⟨r11, e11, h⟩ := ob h
  refine k_VWv (b := n) ⟨hx, hb, hml, hown, hB⟩ (c_X5_tellsGuest l E (fun c => n + c) r10 5 2 r11 e11) (clX5_57 hB rfl rfl ⟨Nat.le_of_ble_eq_true rfl, Nat.le_of_ble_eq_true rfl⟩) hK hw (rvM hK hw) rfl hl.1 rfl (Nat.le_of_ble_eq_true rfl) dX5_init_185 ⟨Nat.le_of_ble_eq_true rfl, Nat.le_of_ble_eq_true rfl⟩ hS hAm (fun H L hw _ _ hS => ?_)
  refine lv_aload_n hx hb dX5_init_188 rfl (lv_at hl 0 rfl) ?_
  refine lv_bipush (v := 40) hx hb dX5_init_189 (by decide) ?_
  refine pX5_61 (am := fun c => n + c) hx hb hB hown hK hw hS hAm dX5_init_191 (fun H L hw hS => ?_)
  refine lv_aload_n hx hb dX5_init_194 rfl (lv_at hl 0 rfl) ?_
  obtain ⟨r12, e12, h⟩ := ob h
  refine k_VWv (b := n) ⟨hx, hb, hml, hown, hB⟩ (c_X5_settles l E (fun c => n + c) (u2 r11 0 14 40) r12 e12) (clX5_64 hB rfl rfl ⟨Nat.le_of_ble_eq_true rfl, Nat.le_of_ble_eq_true rfl⟩) hK hw (rvM hK hw) rfl hl.1 rfl (Nat.le_of_ble_eq_true rfl) dX5_init_195 ⟨Nat.le_of_ble_eq_true rfl, Nat.le_of_ble_eq_true rfl⟩ hS hAm (fun H L hw _ _ hS => ?_)
  cases h
  exact e_vW hx hb hr hlk hw hS dX5_init_198
