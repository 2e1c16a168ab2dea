abbrev YS : Type := Nat → Nat → Nat → Int32
abbrev OS : Type := Nat → Nat → Int32
abbrev En : Type := va_G × (Nat → ClassId)
def tysE (E : En) : List (ClassId × FieldType) := [(E.2 0, .int), (E.2 1, .char), (E.2 2, .object RX3)]
def KK (E : En) (U : State) : Prop := va_K E.1 vwCl (tysE E) U ∧ va_Nw (.methodLinkNest RX4 9 yX2_init RX4) U ∧ va_Nw (.methodLinkNest RX4 31 yX0_init RX4) U ∧ va_Nw (.methodLinkNest RX2 54 yX4_isOneOfTheDead RX4) U ∧ va_Nw (.methodLinkNest RX3 114 yX4_isSide RX4) U ∧ va_Nw (.methodLinkNest RX2 68 yX4_isMinutes RX4) U
theorem KK.warm {E : En} {s U : State} (hW : s.WarmedH U.vm) (h : KK E s) : KK E U :=
  ⟨va_K.moved hW.alike h.1, va_Nw.warmM hW h.2.1, va_Nw.warmM hW h.2.2.1, va_Nw.warmM hW h.2.2.2.1, va_Nw.warmM hW h.2.2.2.2.1, va_Nw.warmM hW h.2.2.2.2.2⟩
theorem KK.call {E : En} {U : State} {g : JFrame} {mk : MethodId} {a : Array Value} (h : KK E U) : KK E (U.calling g mk a) :=
  ⟨va_K.moved (u := U) (U := U.calling g mk a) (Vm.Alike.refl U.vm) h.1, va_Nw.same rfl rfl h.2.1, va_Nw.same rfl rfl h.2.2.1, va_Nw.same rfl rfl h.2.2.2.1, va_Nw.same rfl rfl h.2.2.2.2.1, va_Nw.same rfl rfl h.2.2.2.2.2⟩
/-! the standard start of a method and its ends -/
def Pk (E : En) (av : List Value) (X : Heap → Prop) : Array Value → State → Prop := va_Pc av (fun U => X U.heap ∧ KK E U)
theorem Pk.blind {E : En} {av : List Value} {X : Heap → Prop} : FrameBlind (Pk E av X) := fun _ _ _ _ q => ⟨q.1, q.2.1, q.2.2.call⟩
theorem Pk.S {E : En} {s : State} {H : Heap} {As : List Value} {X : Heap → Prop} (hK : KK E s) (hX : X H) : PreS s H (Pk E As X) As := ⟨Pk.blind, fun U hU hW => ⟨rfl, by rw [hU]; exact hX, hK.warm hW⟩⟩
theorem Pk.V {E : En} {s : State} {H : Heap} {C : String} {b : Addr} {As : List Value} {X : Heap → Prop} (hK : KK E s) (hX : X H) (hr : ∃ cellB : Cell, H[b]? = some cellB ∧ cellB.vm.isStatics = false ∧ s.vm.findClass C = some cellB.cls) : PreV s H C b (Pk E (.ref b :: As) X) As := ⟨Pk.blind, hr, fun U hU hW => ⟨rfl, by rw [hU]; exact hX, hK.warm hW⟩⟩
def QW (v : Option Value) (A : Nat → Prop) (X : Heap → Prop) : Array Value → State → Outcome → State → Prop := fun _ st o t => o = .returned v ∧ X t.heap ∧ va_F A st t
/-! the pure words -/
def u2 (y : Nat → Nat → Int32) (c i : Nat) (x : Int32) : Nat → Nat → Int32 := fun c' => if c' = c then upd (y c') i x else y c'
def gB {α : Type} (b : Bool) (x : Option α) : Option α := match b with
  | true => x
  | false => none
theorem gB_ok {α : Type} {b : Bool} {x : Option α} {r : α} (h : gB b x = some r) : b = true ∧ x = some r := by
  cases b with
  | true => exact ⟨rfl, h⟩
  | false => cases h
theorem ob {α β : Type} {o : Option α} {f : α → Option β} {b : β} (h : o.bind f = some b) : ∃ a, o = some a ∧ f a = some b := by
  cases o with
  | none => cases h
  | some a => exact ⟨a, rfl, h⟩
def ib (i : Int32) (n : Nat) : Bool := decide (¬ (i < 0 ∨ n ≤ i.toNatClampNeg))
theorem ib_ok {i : Int32} {n : Nat} (h : ib i n = true) : vp_in i n := of_decide_eq_true (p := ¬ (i < 0 ∨ n ≤ i.toNatClampNeg)) h
def nz (x : Int32) : Bool := decide (¬ x = 0)
theorem nz_ok {x : Int32} (h : nz x = true) : ¬ x = 0 := of_decide_eq_true h
def nzL (x : Int64) : Bool := decide (¬ x = 0)
theorem nzL_ok {x : Int64} (h : nzL x = true) : ¬ x = 0 := of_decide_eq_true h
/-- the number is one of the type's own -/
def isC (ty : FieldType) (x : Int32) : Bool := decide (narrow ty (.int x) = .int x)
theorem isC_ok {ty : FieldType} {x : Int32} (h : isC ty x = true) : narrow ty (.int x) = .int x := of_decide_eq_true h
theorem nn {α : Type} {r : α} (h : (none : Option α) = some r) {P : Prop} : P := by cases h
def FU : Nat := 100000
/-! generic rows -/
section G0
variable {p : Program} {l : Launch} {e : Env} {R : Room} {s : State} {m : MethodId} {args : Array Value} {below : List Frame} {meth : Method} {c : Code} {H : Heap} {locs : List Loc} {cells slots : Nat} {Q : State → Prop}
variable {cc : ByteArray} {pc : Nat} {ls : Array Slot} {rest st0 : List Value} {E : En} {A A0 : Nat → Prop} {H0 : Heap}
theorem Mb {y : MethodName} {cc : ByteArray} {maxL : Nat} {ret : Option FieldType} {rm : Room} {av : List Value} {X : Heap → Prop} {Qc : Array Value → State → Outcome → State → Prop} {mc ms : Nat} {free : Addr → Prop} (hy : plainName y.cls = true) (nv : (lg_sl av).length ≤ maxL)
    (body : ∀ (p : Program) (e : Env) (s : State) (m : MethodId) (below : List Frame) (meth : Method) (c : Code) (ls : Array Slot), p.tables.exec = Jvm.exec → c.code = cc → meth.sig.returnType = ret → meth.locks = false → (∀ w ∈ BIG, w.before av.toArray s = true) → s.vm.findClass y.cls = some m.cls → c.maxLocals = maxL → meth.name = y.name → KK E s → X s.heap → lv_has ls maxL (lv_args 0 av) →
      W p l e rm s m av.toArray below meth c s.heap [] 0 0 (MQ below Qc av.toArray s mc ms free) (F0 m 0 ls [])) : Met l y (Cond.code y cc maxL ret :: BIG) rm (Pk E av X) Qc mc ms free := by
  refine Met.ofW (cc := cc) (maxL := maxL) (ret := ret) hy rfl ?_
  intro p e s m args below meth c s₁ B hml hv
  obtain ⟨rfl, hX, hK⟩ := hv
  have hts := atoms_spec (ws := Cond.code y cc maxL ret :: BIG) B.pre
  have hl := lv_entry av (n := maxL) nv
  rw [lg_entry_eq]
  exact body p e s m below meth c _ B.exec B.bytes B.returns B.notSynchronized (fun w h => hts w (List.mem_cons_of_mem _ h)) (findClass_of_methodNamed B.named) hml (name_of_methodNamed B.named B.method).1 hK hX hl
theorem k_VR {y : MethodName} {bytes : ByteArray} {maxL nL n index : Nat} {ret : Option FieldType} {ws : List Cond} {rm : Room} {X : Heap → Prop} {own C : String} {b : Addr} {As : List Value} {r : Int32} (S : CallFix p m c cc nL s args BIG own) (hM : Met l y ws rm (Pk E (.ref b :: As) X) (QcRead r) 0 0 (fun _ => False)) (cw : CallW R s args own C index y bytes maxL ret ws rm 0 0 n) (hK : KK E s) (hX : X H) (hrc : ∃ cellB : Cell, H[b]? = some cellB ∧ cellB.vm.isStatics = false ∧ s.vm.findClass C = some cellB.cls) (hn : As.length = n) (hsize : ls.size = nL) (hst : st0 = As.reverse ++ .ref b :: rest) (hW : (rest.map fun v => v.category).sum ≤ 8) (hdg : decode cc pc = .ok (.invokevirtual index, 3)) (hf : cells ≤ R.cells ∧ slots ≤ R.slots)
    (kk : W p l e R s m args below meth c H locs cells slots Q (F0 m (pc + 3) ls (.int r :: rest))) : W p l e R s m args below meth c H locs cells slots Q (F0 m pc ls st0) :=
  W.callR (W.runV S hM cw (Pk.V hK hX hrc) rfl hn hsize hst (lv_room hW) hdg hf) kk
theorem k_SR {y : MethodName} {bytes : ByteArray} {maxL nL n index : Nat} {ret : Option FieldType} {ws : List Cond} {rm : Room} {X : Heap → Prop} {own : String} {As : List Value} {r : Int32} (S : CallFix p m c cc nL s args BIG own) (hM : Met l y ws rm (Pk E As X) (QcRead r) 0 0 (fun _ => False)) (cw : CallB R s args own index y bytes maxL ret ws rm 0 0 n ∧ (Cond.static y).before args s = true) (hK : KK E s) (hX : X H) (hn : As.length = n) (hsize : ls.size = nL) (hst : st0 = As.reverse ++ rest) (hW : (rest.map fun v => v.category).sum ≤ 8) (hdg : decode cc pc = .ok (.invokestatic index, 3)) (hf : cells ≤ R.cells ∧ slots ≤ R.slots)
    (kk : W p l e R s m args below meth c H locs cells slots Q (F0 m (pc + 3) ls (.int r :: rest))) : W p l e R s m args below meth c H locs cells slots Q (F0 m pc ls st0) :=
  W.callR (W.runS S hM cw (Pk.S hK hX) rfl hn hsize hst (lv_room hW) hdg hf) kk
theorem k_SNR {y : MethodName} {bytes : ByteArray} {maxL nL n index : Nat} {ret : Option FieldType} {ws : List Cond} {rm : Room} {X : Heap → Prop} {own host : String} {As : List Value} {r : Int32} (S : CallFix p m c cc nL s args BIG own) (hM : Met l y ws rm (Pk E As X) (QcRead r) 0 0 (fun _ => False)) (cw : va_CN R s args own index y host bytes maxL ret ws rm 0 0 n ∧ (Cond.static y).before args s = true ∧ True) (hK : KK E s) (hX : X H) (hn : As.length = n) (hsize : ls.size = nL) (hst : st0 = As.reverse ++ rest) (hW : (rest.map fun v => v.category).sum ≤ 8) (hdg : decode cc pc = .ok (.invokestatic index, 3)) (hf : cells ≤ R.cells ∧ slots ≤ R.slots)
    (kk : W p l e R s m args below meth c H locs cells slots Q (F0 m (pc + 3) ls (.int r :: rest))) : W p l e R s m args below meth c H locs cells slots Q (F0 m pc ls st0) := by
  intro T hT X0
  obtain ⟨v, st₀, t, T', L, h0, X', hL, e1, -, ⟨hv, hh⟩, st⟩ := va_runSN S hM cw (Pk.S hK hX) rfl hn hsize hst (lv_room hW) hdg hf T hT X0
  cases hv
  obtain ⟨t2, a1, b1⟩ := kk T' (by rw [e1, hh, h0]) (Stand.forget X' (fun q h => (hL q h).elim))
  exact ⟨t2, st t2 a1, b1⟩
theorem k_W {mc ms : Nat} {a : Array Value} {v : Option Value} {X : Heap → Prop} (hr : CallRun p l e R s m args below meth c H locs cells slots mc ms (F0 m pc ls st0) rest (QW v A X a) A) (hS : va_S A0 H0 H locs) (hA : ∀ q, A q → A0 q)
    (kk : ∀ (H1 : Heap) (locs1 : List Loc), X H1 → H.size ≤ H1.size → (∀ q : Nat, q < H.size → ¬ A q → H1[q]? = H[q]?) → va_S A0 H0 H1 locs1 → W p l e R s m args below meth c H1 locs1 (cells + mc) (slots + ms) Q (F0 m (pc + 3) ls (v.toList ++ rest))) : W p l e R s m args below meth c H locs cells slots Q (F0 m pc ls st0) := by
  intro T hT X0
  obtain ⟨v', st₀, t, T', L, h0, X', hL, e1, ⟨hv, hx, hz, hk⟩, st⟩ := hr T hT X0
  cases hv
  rw [h0] at hz hk
  obtain ⟨t2, a1, b1⟩ := kk t.heap (locs ++ L) hx hz hk ⟨Nat.le_trans hS.1 hz, fun q h1 h2 => by rw [hk q (Nat.lt_of_lt_of_le h1 hS.1) (fun z => h2 (hA q z))]; exact hS.2.1 q h1 h2, fun q hq => by
      rcases List.mem_append.mp hq with h | h
      · exact hS.2.2 q h
      · exact hA _ (hL q h)⟩ T' e1 X'
  exact ⟨t2, st t2 a1, b1⟩
theorem k_VW {y : MethodName} {bytes : ByteArray} {maxL nL n index : Nat} {ret : Option FieldType} {ws : List Cond} {rm : Room} {X X' : Heap → Prop} {own C : String} {b : Addr} {As : List Value} {v : Option Value} (S : CallFix p m c cc nL s args BIG own) (hM : Met l y ws rm (Pk E (.ref b :: As) X) (QW v A X') 0 0 A) (cw : CallW R s args own C index y bytes maxL ret ws rm 0 0 n) (hK : KK E s) (hX : X H) (hrc : ∃ cellB : Cell, H[b]? = some cellB ∧ cellB.vm.isStatics = false ∧ s.vm.findClass C = some cellB.cls) (hn : As.length = n) (hsize : ls.size = nL) (hst : st0 = As.reverse ++ .ref b :: rest) (hW : (rest.map fun v => v.category).sum ≤ 8) (hdg : decode cc pc = .ok (.invokevirtual index, 3)) (hf : cells ≤ R.cells ∧ slots ≤ R.slots) (hS : va_S A0 H0 H locs) (hA : ∀ q, A q → A0 q)
    (kk : ∀ (H1 : Heap) (locs1 : List Loc), X' H1 → H.size ≤ H1.size → (∀ q : Nat, q < H.size → ¬ A q → H1[q]? = H[q]?) → va_S A0 H0 H1 locs1 → W p l e R s m args below meth c H1 locs1 cells slots Q (F0 m (pc + 3) ls (v.toList ++ rest))) : W p l e R s m args below meth c H locs cells slots Q (F0 m pc ls st0) :=
  k_W (W.runV S hM cw (Pk.V hK hX hrc) rfl hn hsize hst (lv_room hW) hdg hf) hS hA kk
theorem k_SW {y : MethodName} {bytes : ByteArray} {maxL nL n index : Nat} {ret : Option FieldType} {ws : List Cond} {rm : Room} {X X' : Heap → Prop} {own : String} {As : List Value} {v : Option Value} (S : CallFix p m c cc nL s args BIG own) (hM : Met l y ws rm (Pk E As X) (QW v A X') 0 0 A) (cw : CallB R s args own index y bytes maxL ret ws rm 0 0 n ∧ (Cond.static y).before args s = true) (hK : KK E s) (hX : X H) (hn : As.length = n) (hsize : ls.size = nL) (hst : st0 = As.reverse ++ rest) (hW : (rest.map fun v => v.category).sum ≤ 8) (hdg : decode cc pc = .ok (.invokestatic index, 3)) (hf : cells ≤ R.cells ∧ slots ≤ R.slots) (hS : va_S A0 H0 H locs) (hA : ∀ q, A q → A0 q)
    (kk : ∀ (H1 : Heap) (locs1 : List Loc), X' H1 → H.size ≤ H1.size → (∀ q : Nat, q < H.size → ¬ A q → H1[q]? = H[q]?) → va_S A0 H0 H1 locs1 → W p l e R s m args below meth c H1 locs1 cells slots Q (F0 m (pc + 3) ls (v.toList ++ rest))) : W p l e R s m args below meth c H locs cells slots Q (F0 m pc ls st0) :=
  k_W (W.runS S hM cw (Pk.S hK hX) rfl hn hsize hst (lv_room hW) hdg hf) hS hA kk
theorem k_VWi {y : MethodName} {bytes : ByteArray} {maxL nL n index : Nat} {ret : Option FieldType} {ws : List Cond} {rm : Room} {X X' : Heap → Prop} {own C : String} {b : Addr} {As : List Value} {v : Int32} (S : CallFix p m c cc nL s args BIG own) (hM : Met l y ws rm (Pk E (.ref b :: As) X) (QW (some (.int v)) A X') 0 0 A) (cw : CallW R s args own C index y bytes maxL ret ws rm 0 0 n) (hK : KK E s) (hX : X H) (hrc : ∃ cellB : Cell, H[b]? = some cellB ∧ cellB.vm.isStatics = false ∧ s.vm.findClass C = some cellB.cls) (hn : As.length = n) (hsize : ls.size = nL) (hst : st0 = As.reverse ++ .ref b :: rest) (hW : (rest.map fun v => v.category).sum ≤ 8) (hdg : decode cc pc = .ok (.invokevirtual index, 3)) (hf : cells ≤ R.cells ∧ slots ≤ R.slots) (hS : va_S A0 H0 H locs) (hA : ∀ q, A q → A0 q)
    (kk : ∀ (H1 : Heap) (locs1 : List Loc), X' H1 → H.size ≤ H1.size → (∀ q : Nat, q < H.size → ¬ A q → H1[q]? = H[q]?) → va_S A0 H0 H1 locs1 → W p l e R s m args below meth c H1 locs1 cells slots Q (F0 m (pc + 3) ls (.int v :: rest))) : W p l e R s m args below meth c H locs cells slots Q (F0 m pc ls st0) :=
  k_VW S hM cw hK hX hrc hn hsize hst hW hdg hf hS hA kk
theorem k_VWv {y : MethodName} {bytes : ByteArray} {maxL nL n index : Nat} {ret : Option FieldType} {ws : List Cond} {rm : Room} {X X' : Heap → Prop} {own C : String} {b : Addr} {As : List Value} (S : CallFix p m c cc nL s args BIG own) (hM : Met l y ws rm (Pk E (.ref b :: As) X) (QW none A X') 0 0 A) (cw : CallW R s args own C index y bytes maxL ret ws rm 0 0 n) (hK : KK E s) (hX : X H) (hrc : ∃ cellB : Cell, H[b]? = some cellB ∧ cellB.vm.isStatics = false ∧ s.vm.findClass C = some cellB.cls) (hn : As.length = n) (hsize : ls.size = nL) (hst : st0 = As.reverse ++ .ref b :: rest) (hW : (rest.map fun v => v.category).sum ≤ 8) (hdg : decode cc pc = .ok (.invokevirtual index, 3)) (hf : cells ≤ R.cells ∧ slots ≤ R.slots) (hS : va_S A0 H0 H locs) (hA : ∀ q, A q → A0 q)
    (kk : ∀ (H1 : Heap) (locs1 : List Loc), X' H1 → H.size ≤ H1.size → (∀ q : Nat, q < H.size → ¬ A q → H1[q]? = H[q]?) → va_S A0 H0 H1 locs1 → W p l e R s m args below meth c H1 locs1 cells slots Q (F0 m (pc + 3) ls rest)) : W p l e R s m args below meth c H locs cells slots Q (F0 m pc ls st0) :=
  k_VW S hM cw hK hX hrc hn hsize hst hW hdg hf hS hA kk
theorem k_SWi {y : MethodName} {bytes : ByteArray} {maxL nL n index : Nat} {ret : Option FieldType} {ws : List Cond} {rm : Room} {X X' : Heap → Prop} {own : String} {As : List Value} {v : Int32} (S : CallFix p m c cc nL s args BIG own) (hM : Met l y ws rm (Pk E As X) (QW (some (.int v)) A X') 0 0 A) (cw : CallB R s args own index y bytes maxL ret ws rm 0 0 n ∧ (Cond.static y).before args s = true) (hK : KK E s) (hX : X H) (hn : As.length = n) (hsize : ls.size = nL) (hst : st0 = As.reverse ++ rest) (hW : (rest.map fun v => v.category).sum ≤ 8) (hdg : decode cc pc = .ok (.invokestatic index, 3)) (hf : cells ≤ R.cells ∧ slots ≤ R.slots) (hS : va_S A0 H0 H locs) (hA : ∀ q, A q → A0 q)
    (kk : ∀ (H1 : Heap) (locs1 : List Loc), X' H1 → H.size ≤ H1.size → (∀ q : Nat, q < H.size → ¬ A q → H1[q]? = H[q]?) → va_S A0 H0 H1 locs1 → W p l e R s m args below meth c H1 locs1 cells slots Q (F0 m (pc + 3) ls (.int v :: rest))) : W p l e R s m args below meth c H locs cells slots Q (F0 m pc ls st0) :=
  k_SW S hM cw hK hX hn hsize hst hW hdg hf hS hA kk
theorem k_SWv {y : MethodName} {bytes : ByteArray} {maxL nL n index : Nat} {ret : Option FieldType} {ws : List Cond} {rm : Room} {X X' : Heap → Prop} {own : String} {As : List Value} (S : CallFix p m c cc nL s args BIG own) (hM : Met l y ws rm (Pk E As X) (QW none A X') 0 0 A) (cw : CallB R s args own index y bytes maxL ret ws rm 0 0 n ∧ (Cond.static y).before args s = true) (hK : KK E s) (hX : X H) (hn : As.length = n) (hsize : ls.size = nL) (hst : st0 = As.reverse ++ rest) (hW : (rest.map fun v => v.category).sum ≤ 8) (hdg : decode cc pc = .ok (.invokestatic index, 3)) (hf : cells ≤ R.cells ∧ slots ≤ R.slots) (hS : va_S A0 H0 H locs) (hA : ∀ q, A q → A0 q)
    (kk : ∀ (H1 : Heap) (locs1 : List Loc), X' H1 → H.size ≤ H1.size → (∀ q : Nat, q < H.size → ¬ A q → H1[q]? = H[q]?) → va_S A0 H0 H1 locs1 → W p l e R s m args below meth c H1 locs1 cells slots Q (F0 m (pc + 3) ls rest)) : W p l e R s m args below meth c H locs cells slots Q (F0 m pc ls st0) :=
  k_SW S hM cw hK hX hn hsize hst hW hdg hf hS hA kk
theorem e_zR {ty : FieldType} {v r : Int32} (hx : p.tables.exec = Jvm.exec) (hb : c.code = cc) (hr : meth.sig.returnType = some ty) (hlk : meth.locks = false) (hn : narrow ty (.int v) = .int v) (h : some v = some r) (hdg : decode cc pc = .ok (.ireturn, 1)) : W p l e R s m args below meth c s.heap [] cells slots (MQ below (QcRead r) args s cells slots (fun _ => False)) (F0 m pc ls [.int v]) := by
  cases h
  exact W.zret hx hb hr hn (fun t ht _ => ⟨rfl, ht⟩) (fun q h => absurd h List.not_mem_nil) hdg hlk
theorem e_zW {ty : FieldType} {v v' : Int32} {X : Heap → Prop} (hx : p.tables.exec = Jvm.exec) (hb : c.code = cc) (hr : meth.sig.returnType = some ty) (hlk : meth.locks = false) (hn : narrow ty (.int v) = .int v) (hv : v = v') (hX : X H) (hS : va_S A s.heap H locs) (hdg : decode cc pc = .ok (.ireturn, 1)) : W p l e R s m args below meth c H locs cells slots (MQ below (QW (some (.int v')) A X) args s cells slots A) (F0 m pc ls [.int v]) := by
  cases hv
  exact W.zret hx hb hr hn (fun t ht _ => ⟨rfl, by rw [ht]; exact hX, hS.F ht⟩) hS.2.2 hdg hlk
theorem e_vW {X : Heap → Prop} (hx : p.tables.exec = Jvm.exec) (hb : c.code = cc) (hr : meth.sig.returnType = none) (hlk : meth.locks = false) (hX : X H) (hS : va_S A s.heap H locs) (hdg : decode cc pc = .ok (.return_, 1)) : W p l e R s m args below meth c H locs cells slots (MQ below (QW none A X) args s cells slots A) (F0 m pc ls []) :=
  W.vret hx hb hr (fun t ht _ => ⟨rfl, by rw [ht]; exact hX, hS.F ht⟩) hS.2.2 hdg hlk
/-! heap rows: one cell -/
theorem r_get {own ref C : String} {T : u_T} {N ci index a : Nat} {fs : List Value} (hx : p.tables.exec = Jvm.exec) (hb : c.code = cc) (hB : ∀ w ∈ BIG, w.before args s = true) (hin : ∀ w ∈ u_ws C T N, w ∈ BIG) (hown : s.vm.findClass own = some m.cls) (hK : KK E s) (h : va_at E.1 vwCl (a, .inr (ci, fs)) H) (hc : vwCl[ci]? = some (C, T, N)) (k : Nat) (hk : k < N) (hlink : Cond.fieldLink own index ref (T k).2.1 (T k).2.2.1 ∈ BIG) (hsame : (T k).1 = ref) {v : Value} (hv : fs[k]? = some v) (hdg : decode cc pc = .ok (.getfield index, 3))
    (kk : W p l e R s m args below meth c H locs cells slots Q (F0 m (pc + 3) ls (v :: rest))) : W p l e R s m args below meth c H locs cells slots Q (F0 m pc ls (.ref a :: rest)) := by
  subst hsame
  exact va_get (ws := [(a, .inr (ci, fs))]) hx hb hB hin hown hK.1 (fun k q hq => by
    cases k with
    | zero => cases hq; exact h
    | succ k => simp at hq) 0 rfl hc k hk (hB _ hlink) (fun _ h9 => h9) hv hdg kk
theorem r_put {own ref C : String} {T : u_T} {N ci index a : Nat} {fs : List Value} (hx : p.tables.exec = Jvm.exec) (hb : c.code = cc) (hB : ∀ w ∈ BIG, w.before args s = true) (hin : ∀ w ∈ u_ws C T N, w ∈ BIG) (ty0 : Nat → FieldType) (hty : ∀ k, k < N → parseFieldDescriptor (T k).2.2.1 = some (ty0 k)) (hnm : ∀ a, a < N → ∀ b, b < N → a ≠ b → (T a).2.1 ≠ (T b).2.1) (hown : s.vm.findClass own = some m.cls) (hK : KK E s) (h : va_at E.1 vwCl (a, .inr (ci, fs)) H) (hS0 : va_S A H0 H locs) (ha : A a) (hc : vwCl[ci]? = some (C, T, N)) (k : Nat) (hk : k < N) (hlink : Cond.fieldLink own index ref (T k).2.1 (T k).2.2.1 ∈ BIG) (hsame : (T k).1 = ref) (hfin : (T k).2.2.2 = false) {ty : FieldType} {v : Value} (hd : parseFieldDescriptor (T k).2.2.1 = some ty) (hn : narrow ty v = v) (hfit : fits ty v = true) (hl : k < fs.length) (hdg : decode cc pc = .ok (.putfield index, 3))
    (kk : ∀ (H1 : Heap) (locs1 : List Loc), va_at E.1 vwCl (a, .inr (ci, fs.set k v)) H1 → (∀ q : Nat, q ≠ a → H1[q]? = H[q]?) → va_S A H0 H1 locs1 → W p l e R s m args below meth c H1 locs1 cells slots Q (F0 m (pc + 3) ls rest)) : W p l e R s m args below meth c H locs cells slots Q (F0 m pc ls (v :: .ref a :: rest)) := by
  subst hsame
  have hap := va_apart (own := own) hB hin ty0 hty hnm hK.1 hc
  obtain ⟨r, h1, cell, q1, q2, q3, q4⟩ := h
  have hr : r = (C, T, N) := Option.some.inj (h1.symm.trans hc)
  subst hr
  obtain ⟨hS, hfc, kC, hkC, hkind⟩ := hK.1.1 ci _ hc
  obtain ⟨cf, kf, fi, f, hi, hsl⟩ := hS k hk
  have hlay := hB _ (hin _ (u_in_lay hk))
  unfold u_lay at hlay
  rw [if_neg (by rw [hfin]; decide)] at hlay
  have hst := (u_facts hfc hkC (u_lays hB hin hk) hi).1
  have h6 := u_store hfc hkC hkind hlay hi hd hn hfit
  refine W.putK hx hb (f := f) ⟨hown, hB _ hlink, ⟨_, _, _, hi⟩, hst⟩ (by rw [q2]; exact h6) q1 q3 (by rw [hsl]; exact k2_hasslot (q4 k hk)) rfl rfl hdg fun H' e1 e2 e3 => ?_
  rw [hsl] at e1 ⊢
  exact kk H' _ ⟨_, hc, t_OB.to (V := updV (vp_V fs) k v) ⟨_, e1, q2, q3, t_set q4 hap hk v⟩ (fun j _ => vp_updV_set hl v j)⟩ e3 (hS0.put e2 e3 ha)
theorem r_ald {a n : Nat} {f : Nat → Int32} (hx : p.tables.exec = Jvm.exec) (hb : c.code = cc) (hK : KK E s) (h : va_at E.1 vwCl (a, .inl (E.2 0, n, .inl f)) H) {i : Int32} (hin : vp_in i n) (hdg : decode cc pc = .ok (.iaload, 1))
    (kk : W p l e R s m args below meth c H locs cells slots Q (F0 m (pc + 1) ls (.int (f i.toNatClampNeg) :: rest))) : W p l e R s m args below meth c H locs cells slots Q (F0 m pc ls (.int i :: .ref a :: rest)) :=
  va_iald (ws := [(a, .inl (E.2 0, n, .inl f))]) hx hb hK.1 (fun k q hq => by
    cases k with
    | zero => cases hq; exact h
    | succ k => simp at hq) 0 0 rfl rfl hin hdg kk
theorem r_cald {a n : Nat} {f : Nat → Int32} (hx : p.tables.exec = Jvm.exec) (hb : c.code = cc) (hK : KK E s) (h : va_at E.1 vwCl (a, .inl (E.2 1, n, .inl f)) H) {i : Int32} (hin : vp_in i n) (hdg : decode cc pc = .ok (.caload, 1))
    (kk : W p l e R s m args below meth c H locs cells slots Q (F0 m (pc + 1) ls (.int (f i.toNatClampNeg) :: rest))) : W p l e R s m args below meth c H locs cells slots Q (F0 m pc ls (.int i :: .ref a :: rest)) :=
  va_cald (ws := [(a, .inl (E.2 1, n, .inl f))]) hx hb hK.1 (fun k q hq => by
    cases k with
    | zero => cases hq; exact h
    | succ k => simp at hq) 0 1 rfl rfl hin hdg kk
theorem r_aald {a n : Nat} {f : Nat → Option Nat} (hx : p.tables.exec = Jvm.exec) (hb : c.code = cc) (hK : KK E s) (h : va_at E.1 vwCl (a, .inl (E.2 2, n, .inr (.inr (.inr (.inr f))))) H) {i : Int32} (hin : vp_in i n) {v : Nat} (hv : f i.toNatClampNeg = some v) (hdg : decode cc pc = .ok (.aaload, 1))
    (kk : W p l e R s m args below meth c H locs cells slots Q (F0 m (pc + 1) ls (.ref v :: rest))) : W p l e R s m args below meth c H locs cells slots Q (F0 m pc ls (.int i :: .ref a :: rest)) :=
  va_aldq (ws := [(a, .inl (E.2 2, n, .inr (.inr (.inr (.inr f)))))]) hx hb hK.1 (fun k q hq => by
    cases k with
    | zero => cases hq; exact h
    | succ k => simp at hq) 0 2 rfl rfl hin hdg (by rw [hv]; exact kk)
theorem r_alen {a : Nat} {x : vp_A} (hx : p.tables.exec = Jvm.exec) (hb : c.code = cc) (hK : KK E s) (t0 : Nat) {cA : ClassId} {ty : FieldType} (h : va_at E.1 vwCl (a, .inl (cA, x)) H) (ht : (tysE E)[t0]? = some (cA, ty)) {v : Int32} (hv : Int32.ofNat x.1 = v) (hdg : decode cc pc = .ok (.arraylength, 1))
    (kk : W p l e R s m args below meth c H locs cells slots Q (F0 m (pc + 1) ls (.int v :: rest))) : W p l e R s m args below meth c H locs cells slots Q (F0 m pc ls (.ref a :: rest)) :=
  va_alen (ws := [(a, .inl (cA, x))]) hx hb hK.1 (fun k q hq => by
    cases k with
    | zero => cases hq; exact h
    | succ k => simp at hq) 0 t0 rfl ht hv hdg kk
theorem r_ast {a n : Nat} {f : Nat → Int32} (hx : p.tables.exec = Jvm.exec) (hb : c.code = cc) (hK : KK E s) (h : va_at E.1 vwCl (a, .inl (E.2 0, n, .inl f)) H) (hS : va_S A H0 H locs) (ha : A a) {i x : Int32} (hin : vp_in i n) (hdg : decode cc pc = .ok (.iastore, 1))
    (kk : ∀ (H1 : Heap) (locs1 : List Loc), va_at E.1 vwCl (a, .inl (E.2 0, n, .inl (upd f i.toNatClampNeg x))) H1 → (∀ q : Nat, q ≠ a → H1[q]? = H[q]?) → va_S A H0 H1 locs1 → W p l e R s m args below meth c H1 locs1 cells slots Q (F0 m (pc + 1) ls rest)) : W p l e R s m args below meth c H locs cells slots Q (F0 m pc ls (.int x :: .int i :: .ref a :: rest)) := by
  refine W.iast hx hb h ((hK.1.2 0 _ rfl).1 n (fun j => .int (f j))) (fun q => by cases q) (by show ¬ (i < 0 ∨ (arrV _ _ _).slots.size ≤ _); rw [arrV_size]; exact hin) rfl rfl hdg fun H1 e z oq => ?_
  refine kk H1 _ ?_ oq (hS.put z oq ha)
  show H1[a]? = some (vp_cell _ _)
  rw [e, vp_cell_i, vp_cell_i, arrV_store]
  congr 2
  funext q
  by_cases hq : q = i.toNatClampNeg
  · subst hq
    simp [updV, upd]
  · simp [updV, upd, hq]
theorem r_cast {a n : Nat} {f : Nat → Int32} (hx : p.tables.exec = Jvm.exec) (hb : c.code = cc) (hK : KK E s) (h : va_at E.1 vwCl (a, .inl (E.2 1, n, .inl f)) H) (hS : va_S A H0 H locs) (ha : A a) {i x : Int32} (hin : vp_in i n) (hdg : decode cc pc = .ok (.castore, 1))
    (kk : ∀ (H1 : Heap) (locs1 : List Loc), va_at E.1 vwCl (a, .inl (E.2 1, n, .inl (upd f i.toNatClampNeg (vp_nar .char x)))) H1 → (∀ q : Nat, q ≠ a → H1[q]? = H[q]?) → va_S A H0 H1 locs1 → W p l e R s m args below meth c H1 locs1 cells slots Q (F0 m (pc + 1) ls rest)) : W p l e R s m args below meth c H locs cells slots Q (F0 m pc ls (.int x :: .int i :: .ref a :: rest)) := by
  refine W.cast hx hb h ((hK.1.2 1 _ rfl).1 n (fun j => .int (f j))) (fun q => by cases q) (by show ¬ (i < 0 ∨ (arrV _ _ _).slots.size ≤ _); rw [arrV_size]; exact hin) rfl rfl hdg fun H1 e z oq => ?_
  refine kk H1 _ ?_ oq (hS.put z oq ha)
  show H1[a]? = some (vp_cell _ _)
  rw [e, vp_cell_i, vp_cell_i, arrV_store]
  congr 2
  funext q
  by_cases hq : q = i.toNatClampNeg
  · subst hq
    simp [updV, upd, vp_nar]
    try rfl
  · simp [updV, upd, hq]
theorem r_aast {a n v ci : Nat} {r : vw_C} {vs : List Value} {f : Nat → Option Nat} (hx : p.tables.exec = Jvm.exec) (hb : c.code = cc) (hK : KK E s) (h : va_at E.1 vwCl (a, .inl (E.2 2, n, .inr (.inr (.inr (.inr f))))) H) (hv : va_at E.1 vwCl (v, .inr (3, vs)) H) (hS : va_S A H0 H locs) (ha : A a) {i : Int32} (hin : vp_in i n) (hdg : decode cc pc = .ok (.aastore, 1))
    (kk : ∀ (H1 : Heap) (locs1 : List Loc), va_at E.1 vwCl (a, .inl (E.2 2, n, .inr (.inr (.inr (.inr (va_up f i.toNatClampNeg (some v))))))) H1 → (∀ q : Nat, q ≠ a → H1[q]? = H[q]?) → va_S A H0 H1 locs1 → W p l e R s m args below meth c H1 locs1 cells slots Q (F0 m (pc + 1) ls rest)) : W p l e R s m args below meth c H locs cells slots Q (F0 m pc ls (.ref v :: .int i :: .ref a :: rest)) := by
  have hlt : i.toNatClampNeg < n := Nat.not_le.mp fun q => hin (Or.inr q)
  have h0 : ¬ i < 0 := fun q => hin (Or.inl q)
  obtain ⟨r', hr', cellV, g1, g2, g3, -⟩ := hv
  have hcls := (hK.1.1 3 (RX3, TX3, 10) rfl).2
  obtain ⟨kA, comp, k1, k2, k3, -⟩ := (hK.1.2 2 (E.2 2, .object RX3) rfl).2
  have hcomp : comp = E.1.1 3 := Option.some.inj (k3.symm.trans hcls.1)
  subst hcomp
  obtain ⟨kC, hkC, -⟩ := hcls.2
  refine W.aast hx hb h (fun q h => by cases h) (fun h => by cases h) k1 k2 rfl hkC ⟨h0, by show _ < (arrV _ _ _).slots.size; rw [arrV_size]; exact hlt⟩ g1 (fun q h => by rw [g3] at h; cases h) (by rw [g2]; exact hkC) (by rw [g2]; exact va_assign hcls) rfl rfl hdg fun H1 e z oq => ?_
  refine kk H1 _ ?_ oq (hS.put z oq ha)
  show H1[a]? = some (vp_cell _ _)
  rw [e, vp_cell_q, vp_cell_q, arrV_store]
  congr 2
  funext q
  by_cases hq : q = i.toNatClampNeg
  · subst hq
    simp [updV, va_up, va_rf]
  · simp [updV, va_up, hq]
theorem r_recv {a ci : Nat} {q : vw_C} {fs : List Value} (hK : KK E s) (h : va_at E.1 vwCl (a, .inr (ci, fs)) H) (hc : vwCl[ci]? = some q) : ∃ cell : Cell, H[a]? = some cell ∧ cell.vm.isStatics = false ∧ s.vm.findClass q.1 = some cell.cls :=
  va_recv (ws := [(a, .inr (ci, fs))]) (q0 := 0) hK.1 (fun k q hq => by
    cases k with
    | zero => cases hq; exact h
    | succ k => simp at hq) hc rfl
end G0
/-! worlds: cells by number, at addresses that differ -/
def Wd (E : En) (N : Nat) (ad : Nat → Nat) (cl : Nat → va_E) (H : Heap) : Prop := ∀ c, c < N → va_at E.1 vwCl (ad c, cl c) H
def Ij (N : Nat) (ad : Nat → Nat) : Prop := ∀ i j, i < N → j < N → ad i = ad j → i = j
theorem Wd.set {E : En} {N : Nat} {ad : Nat → Nat} {cl cl' : Nat → va_E} {H H1 : Heap} (h : Wd E N ad cl H) (hi : Ij N ad) (c : Nat) (hc : c < N) (he : va_at E.1 vwCl (ad c, cl' c) H1) (oq : ∀ q, q ≠ ad c → H1[q]? = H[q]?) (hs : ∀ k, k < N → k ≠ c → cl' k = cl k) : Wd E N ad cl' H1 := by
  intro k hk
  by_cases e : k = c
  · rw [e]; exact he
  · rw [hs k hk e]
    exact (h k hk).kept (oq _ (fun z => e (hi k c hk hc z)))
theorem Wd.kept {E : En} {N : Nat} {ad : Nat → Nat} {cl : Nat → va_E} {H H1 : Heap} (h : Wd E N ad cl H) (oq : ∀ c, c < N → H1[ad c]? = H[ad c]?) : Wd E N ad cl H1 := fun k hk => (h k hk).kept (oq k hk)
/-! one Yards -/
def cY (E : En) (q : Nat → Nat) (y : OS) : Nat → va_E := fun c => match c with
  | 0 => .inr (3, [.int (y 0 0), .int (y 0 1), .int (y 0 2), .int (y 0 3), .ref (q 1), .ref (q 2), .ref (q 3), .ref (q 4), .ref (q 5), .ref (q 6)])
  | 1 => .inl (E.2 0, 12, .inl (y 1))
  | 2 => .inl (E.2 0, 12, .inl (y 2))
  | 3 => .inl (E.2 0, 12, .inl (y 3))
  | 4 => .inl (E.2 0, 16, .inl (y 4))
  | 5 => .inl (E.2 0, 6, .inl (y 5))
  | _ => .inl (E.2 0, 6, .inl (y 6))
def Yd (E : En) (q : Nat → Nat) (y : OS) (H : Heap) : Prop := Wd E 7 q (cY E q y) H ∧ Ij 7 q
def AY (q : Nat → Nat) : Nat → Prop := fun a => ∃ c, c < 7 ∧ a = q c
theorem cY_u2 (E : En) (q : Nat → Nat) (y : OS) (c i : Nat) (x : Int32) (k : Nat) (hk : k < 7) (hne : k ≠ c) : cY E q (u2 y c i x) k = cY E q y k := by
  have e : u2 y c i x k = y k := if_neg hne
  match k, hk with
  | 0, _ => simp only [cY, e]
  | 1, _ => simp only [cY, e]
  | 2, _ => simp only [cY, e]
  | 3, _ => simp only [cY, e]
  | 4, _ => simp only [cY, e]
  | 5, _ => simp only [cY, e]
  | 6, _ => simp only [cY, e]
theorem Yd.w {E : En} {q : Nat → Nat} {y : OS} {H H1 : Heap} (h : Yd E q y H) (c : Nat) (hc : c < 7) {i : Nat} {x : Int32} (he : va_at E.1 vwCl (q c, cY E q (u2 y c i x) c) H1) (oq : ∀ a, a ≠ q c → H1[a]? = H[a]?) : Yd E q (u2 y c i x) H1 :=
  ⟨h.1.set h.2 c hc he oq (fun k hk hne => cY_u2 E q y c i x k hk hne), h.2⟩
