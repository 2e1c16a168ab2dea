/-! new cells: at the heap's end -/
theorem acI : Cond.arrayClass .int ∈ BIG := bg (inT1 (List.mem_of_getElem? (i := 45) (by decide +kernel))) rfl
theorem acC : Cond.arrayClass .char ∈ BIG := bg (inT1 (List.mem_of_getElem? (i := 44) (by decide +kernel))) rfl
theorem va_S_grow {A : Nat → Prop} {H0 H H1 : Heap} {locs : List Loc} (hS : va_S A H0 H locs) (z : H1.size = H.size + 1) (o : ∀ q, q < H.size → H1[q]? = H[q]?) : va_S A H0 H1 locs :=
  ⟨Nat.le_trans hS.1 (by omega), fun x h1 h2 => (o x (Nat.lt_of_lt_of_le h1 hS.1)).trans (hS.2.1 x h1 h2), hS.2.2⟩
section BORN
variable {p : Program} {l : Launch} {e : Env} {R : Room} {s : State} {m : MethodId} {args : Array Value} {below : List Frame} {meth : Method} {c : Code} {H : Heap} {locs : List Loc} {cells slots : Nat} {Q : State → Prop}
variable {cc : ByteArray} {pc : Nat} {ls : Array Slot} {rest st0 : List Value} {E : En} {A A0 : Nat → Prop} {H0 : Heap}
theorem W_sz {g : JFrame} (kk : H.size ≤ s.heap.size + cells → W p l e R s m args below meth c H locs cells slots Q g) : W p l e R s m args below meth c H locs cells slots Q g := fun T hT X => kk (by rw [← hT]; exact X.heapSize) T hT X
theorem r_newi (hx : p.tables.exec = Jvm.exec) (hb : c.code = cc) (hB : ∀ w ∈ BIG, w.before args s = true) (hK : KK E s) {N : Nat} {i : Int32} (hn : ¬ i < 0) (hN : i.toNatClampNeg = N) (hbytes : N ≤ 1000) (hcells : cells + 1 ≤ R.cells) (hslots : slots + N ≤ R.slots) (hdg : decode cc pc = .ok (.newarray .int, 2)) (hS : va_S A H0 H locs)
    (kk : ∀ H1 : Heap, va_at E.1 vwCl (H.size, .inl (E.2 0, N, .inl (fun _ => 0))) H1 → H1.size = H.size + 1 → (∀ q, q < H.size → H1[q]? = H[q]?) → va_S A H0 H1 locs → W p l e R s m args below meth c H1 locs (cells + 1) (slots + N) Q (F0 m (pc + 2) ls (.ref H.size :: rest))) : W p l e R s m args below meth c H locs cells slots Q (F0 m pc ls (.int i :: rest)) := by
  refine va_newaK (atype := .int) hx hb (hB _ acI) rfl hdg rfl hn hN (by show N * 4 ≤ 536870912; omega) hcells hslots rfl fun H1 cA e1 z1 o1 hAr hNm => ?_
  have h2 : s.vm.findClass ("[" ++ FieldType.int.toString) = some (E.2 0) := (hK.1.2 0 _ rfl).2
  have h3 : cA = E.2 0 := Option.some.inj (hNm.symm.trans h2)
  subst h3
  exact kk H1 e1 z1 o1 (va_S_grow hS z1 o1)
theorem r_newc (hx : p.tables.exec = Jvm.exec) (hb : c.code = cc) (hB : ∀ w ∈ BIG, w.before args s = true) (hK : KK E s) {N : Nat} {i : Int32} (hn : ¬ i < 0) (hN : i.toNatClampNeg = N) (hbytes : N ≤ 1000) (hcells : cells + 1 ≤ R.cells) (hslots : slots + N ≤ R.slots) (hdg : decode cc pc = .ok (.newarray .char, 2)) (hS : va_S A H0 H locs)
    (kk : ∀ H1 : Heap, va_at E.1 vwCl (H.size, .inl (E.2 1, N, .inl (fun _ => 0))) H1 → H1.size = H.size + 1 → (∀ q, q < H.size → H1[q]? = H[q]?) → va_S A H0 H1 locs → W p l e R s m args below meth c H1 locs (cells + 1) (slots + N) Q (F0 m (pc + 2) ls (.ref H.size :: rest))) : W p l e R s m args below meth c H locs cells slots Q (F0 m pc ls (.int i :: rest)) := by
  refine va_newaK (atype := .char) hx hb (hB _ acC) rfl hdg rfl hn hN (by show N * 2 ≤ 536870912; omega) hcells hslots rfl fun H1 cA e1 z1 o1 hAr hNm => ?_
  have h2 : s.vm.findClass ("[" ++ FieldType.char.toString) = some (E.2 1) := (hK.1.2 1 _ rfl).2
  have h3 : cA = E.2 1 := Option.some.inj (hNm.symm.trans h2)
  subst h3
  exact kk H1 e1 z1 o1 (va_S_grow hS z1 o1)
theorem r_newq (hx : p.tables.exec = Jvm.exec) (hb : c.code = cc) {own : String} {index : Nat} (hown : s.vm.findClass own = some m.cls) (hclink : (Cond.classLink own index RX3).before args s = true) (hover : va_AO RX3 s) (hK : KK E s) {N : Nat} {i : Int32} (hn : ¬ i < 0) (hN : i.toNatClampNeg = N) (hbytes : N ≤ 1000) (hcells : cells + 1 ≤ R.cells) (hslots : slots + N ≤ R.slots) (hdg : decode cc pc = .ok (.anewarray index, 3)) (hS : va_S A H0 H locs)
    (kk : ∀ H1 : Heap, va_at E.1 vwCl (H.size, .inl (E.2 2, N, .inr (.inr (.inr (.inr (fun _ => none)))))) H1 → H1.size = H.size + 1 → (∀ q, q < H.size → H1[q]? = H[q]?) → va_S A H0 H1 locs → W p l e R s m args below meth c H1 locs (cells + 1) (slots + N) Q (F0 m (pc + 3) ls (.ref H.size :: rest))) : W p l e R s m args below meth c H locs cells slots Q (F0 m pc ls (.int i :: rest)) := by
  subst hN
  refine W.anew hx hb hown hclink (va_AO.use hover) rfl hdg rfl hn (by omega) hcells hslots fun cA kA comp f1 f2 f3 f4 => ?_
  obtain ⟨-, -, -, -, -, h2⟩ := (hK.1.2 2 (E.2 2, .object RX3) rfl).2
  have h3 : cA = E.2 2 := Option.some.inj (f1.symm.trans h2)
  subst h3
  generalize hH1 : H.push ({ cls := E.2 2, slots := Array.replicate i.toNatClampNeg .null, vm := .none } : Cell) = H1
  have z1 : H1.size = H.size + 1 := by rw [← hH1, Array.size_push]
  have e1 : H1[H.size]? = some (arrV (E.2 2) i.toNatClampNeg (fun _ => .null)) := by rw [← hH1, Array.getElem?_push_size, ← arrV_new]
  have o1 : ∀ q : Nat, q < H.size → H1[q]? = H[q]? := fun q hq => by rw [← hH1, Array.getElem?_push, if_neg (Nat.ne_of_lt hq)]
  exact kk H1 e1 z1 o1 (va_S_grow hS z1 o1)
theorem r_new {own C : String} {T : u_T} {N ci index : Nat} (hx : p.tables.exec = Jvm.exec) (hb : c.code = cc) (hB : ∀ w ∈ BIG, w.before args s = true) (hin : ∀ w ∈ u_ws C T N, w ∈ BIG) (ty : Nat → FieldType) (hty : ∀ k, k < N → parseFieldDescriptor (T k).2.2.1 = some (ty k)) (hown : s.vm.findClass own = some m.cls) (hcl : (Cond.classLink own index C).before args s = true) (hinst : (Cond.instantiable C N).before args s = true) (hini : (Cond.initialized C).before args s = true) (hK : KK E s) (hS : va_S A H0 H locs) (hc : vwCl[ci]? = some (C, T, N)) {fs : List Value} (hfs : ∀ j, j < N → defaultValue (ty j) = vp_V fs j) (hcells : cells + 1 ≤ R.cells) (hslots : slots + N ≤ R.slots) (hdg : decode cc pc = .ok (.new index, 3))
    (kk : ∀ H1 : Heap, va_at E.1 vwCl (H.size, .inr (ci, fs)) H1 → H1.size = H.size + 1 → (∀ q, q < H.size → H1[q]? = H[q]?) → va_S A H0 H1 locs → W p l e R s m args below meth c H1 locs (cells + 1) (slots + N) Q (F0 m (pc + 3) ls (.ref H.size :: rest))) : W p l e R s m args below meth c H locs cells slots Q (F0 m pc ls rest) := by
  have hKn := hK.1.1 ci _ hc
  refine W.newcK hx hb hown hcl hinst hini rfl hdg hcells hslots hKn.2.1 rfl fun H1 kC hkC e1 z1 o1 => ?_
  exact kk H1 ⟨_, hc, (u_born ty hB hin hKn hkC e1 hty).to hfs⟩ z1 o1 (va_S_grow hS z1 o1)
theorem r_putF {own ref C : String} {T : u_T} {N ci index a : Nat} {fs : List Value} (hx : p.tables.exec = Jvm.exec) (hb : c.code = cc) (hB : ∀ w ∈ BIG, w.before args s = true) (hin : ∀ w ∈ u_ws C T N, w ∈ BIG) (ty0 : Nat → FieldType) (hty : ∀ k, k < N → parseFieldDescriptor (T k).2.2.1 = some (ty0 k)) (hnm : ∀ a, a < N → ∀ b, b < N → a ≠ b → (T a).2.1 ≠ (T b).2.1) (hown : s.vm.findClass own = some m.cls) (hK : KK E s) (h : va_at E.1 vwCl (a, .inr (ci, fs)) H) (hS0 : va_S A H0 H locs) (ha : A a) (hc : vwCl[ci]? = some (C, T, N)) (k : Nat) (hk : k < N) (hlink : Cond.fieldLink own index ref (T k).2.1 (T k).2.2.1 ∈ BIG) (hsame : (T k).1 = ref) (hfin : (T k).2.2.2 = true) (hin2 : meth.name = "<init>") (hdecl : (T k).1 = own) {ty : FieldType} {v : Value} (hd : parseFieldDescriptor (T k).2.2.1 = some ty) (hn : narrow ty v = v) (hfit : fits ty v = true) (hl : k < fs.length) (hdg : decode cc pc = .ok (.putfield index, 3))
    (kk : ∀ (H1 : Heap) (locs1 : List Loc), va_at E.1 vwCl (a, .inr (ci, fs.set k v)) H1 → H1.size = H.size → (∀ q : Nat, q ≠ a → H1[q]? = H[q]?) → va_S A H0 H1 locs1 → W p l e R s m args below meth c H1 locs1 cells slots Q (F0 m (pc + 3) ls rest)) : W p l e R s m args below meth c H locs cells slots Q (F0 m pc ls (v :: .ref a :: rest)) := by
  subst hsame
  have hap := va_apart (own := own) hB hin ty0 hty hnm hK.1 hc
  obtain ⟨r, h1, cell, q1, q2, q3, q4⟩ := h
  have hr : r = (C, T, N) := Option.some.inj (h1.symm.trans hc)
  subst hr
  obtain ⟨hS, hfc, kC, hkC, hkind⟩ := hK.1.1 ci _ hc
  obtain ⟨cf, kf, fi, f, hi, hsl⟩ := hS k hk
  have hlay := hB _ (hin _ (u_in_lay hk))
  unfold u_lay at hlay
  rw [if_pos hfin] at hlay
  have hst := (u_facts hfc hkC (u_lays hB hin hk) hi).1
  have hcf : m.cls = cf := by
    obtain ⟨_, _, c', _, _, _, -, -, hf', -, -, -, hown2, -⟩ := Cond.laysFinal_spec hlay
    have e1 : c' = cf := by have := hi.symm.trans hf'; simp at this; exact this.1.symm
    rw [hdecl] at hown2
    rw [← e1]; exact Option.some.inj (hown.symm.trans hown2)
  have h6 := u_fits hfc hkC hkind (Or.inr hlay) hi hd hn hfit
  refine W.putFinK hx hb hown (hB _ hlink) hi hst hcf hin2 (by rw [q2]; exact h6) q1 q3 (by rw [hsl]; exact k2_hasslot (q4 k hk)) rfl rfl hdg fun H' e1 e2 e3 => ?_
  rw [hsl] at e1 ⊢
  exact kk H' _ ⟨_, hc, t_OB.to (V := updV (vp_V fs) k v) ⟨_, e1, q2, q3, t_set q4 hap hk v⟩ (fun j _ => vp_updV_set hl v j)⟩ e2 e3 (hS0.put e2 e3 ha)
theorem k_I {mc ms : Nat} {a : Array Value} {v : Option Value} {X : Heap → Prop} (hr : va_Run p l e R s m args below meth c H locs cells slots mc ms (F0 m pc ls st0) rest (QW v A X a) A) (hS : va_S A0 H0 H locs) (hA : ∀ q, A q → A0 q)
    (kk : ∀ (H1 : Heap) (locs1 : List Loc), X H1 → H.size ≤ H1.size → (∀ q : Nat, q < H.size → ¬ A q → H1[q]? = H[q]?) → va_S A0 H0 H1 locs1 → W p l e R s m args below meth c H1 locs1 (cells + mc) (slots + ms) Q (F0 m (pc + 3) ls (v.toList ++ rest))) : W p l e R s m args below meth c H locs cells slots Q (F0 m pc ls st0) := by
  intro T hT X0
  obtain ⟨v', st₀, t, T', L, h0, X', hL, e1, -, ⟨hv, hx, hz, hk⟩, st⟩ := hr T hT X0
  cases hv
  rw [h0] at hz hk
  obtain ⟨t2, a1, b1⟩ := kk t.heap (locs ++ L) hx hz hk ⟨Nat.le_trans hS.1 hz, fun q h1 h2 => by rw [hk q (Nat.lt_of_lt_of_le h1 hS.1) (fun z => h2 (hA q z))]; exact hS.2.1 q h1 h2, fun q hq => by
      rcases List.mem_append.mp hq with h | h
      · exact hS.2.2 q h
      · exact hA _ (hL q h)⟩ T' e1 X'
  exact ⟨t2, st t2 a1, b1⟩
/-- an object that is being made: at n, its N - 1 other cells behind it -/
def St (E : En) (ci n N : Nat) (fs : List Value) (cl : Nat → va_E) (H : Heap) : Prop := H.size = n + N ∧ 1 ≤ N ∧ va_at E.1 vwCl (n, .inr (ci, fs)) H ∧ ∀ j, 1 ≤ j → j < N → va_at E.1 vwCl (n + j, cl j) H
theorem St.one {ci n : Nat} {fs : List Value} {cl : Nat → va_E} (h1 : H.size = n + 1) (h2 : va_at E.1 vwCl (n, .inr (ci, fs)) H) : St E ci n 1 fs cl H := ⟨h1, Nat.le_refl 1, h2, fun j a b => by omega⟩
theorem St.snoc {ci n N : Nat} {fs : List Value} {cl : Nat → va_E} {H1 : Heap} (h : St E ci n N fs cl H) (e : va_at E.1 vwCl (H.size, cl N) H1) (z : H1.size = H.size + 1) (o : ∀ q, q < H.size → H1[q]? = H[q]?) : St E ci n (N + 1) fs cl H1 := by
  obtain ⟨h1, h2, h3, h4⟩ := h
  refine ⟨by omega, by omega, h3.kept (o _ (by omega)), fun j a b => ?_⟩
  by_cases c : j = N
  · subst c; rw [← h1]; exact e
  · exact (h4 j a (by omega)).kept (o _ (by omega))
theorem St.put {ci n N : Nat} {fs fs' : List Value} {cl : Nat → va_E} {H1 : Heap} (h : St E ci n N fs cl H) (e : va_at E.1 vwCl (n, .inr (ci, fs')) H1) (z : H1.size = H.size) (o : ∀ q : Nat, q ≠ n → H1[q]? = H[q]?) : St E ci n N fs' cl H1 :=
  ⟨by rw [z]; exact h.1, h.2.1, e, fun j a b => (h.2.2.2 j a b).kept (o _ (by omega))⟩
theorem St.blk {ci n N len : Nat} {fs : List Value} {cl : Nat → va_E} {H1 : Heap} (h : St E ci n N fs cl H) (z : H1.size = n + N + len) (o : ∀ q, q < n + N → H1[q]? = H[q]?) (e : ∀ j, j < len → va_at E.1 vwCl (n + N + j, cl (N + j)) H1) : St E ci n (N + len) fs cl H1 := by
  obtain ⟨h1, h2, h3, h4⟩ := h
  refine ⟨by omega, by omega, h3.kept (o _ (by omega)), fun j a b => ?_⟩
  by_cases c : j < N
  · exact (h4 j a c).kept (o _ (by omega))
  · have := e (j - N) (by omega)
    rw [show n + N + (j - N) = n + j by omega, show N + (j - N) = j by omega] at this
    exact this
theorem r_np {own C : String} {T : u_T} {NF ci index n N len : Nat} {fs : List Value} {cl : Nat → va_E} {i : Int32} (hx : p.tables.exec = Jvm.exec) (hb : c.code = cc) (hB : ∀ w ∈ BIG, w.before args s = true) (hin : ∀ w ∈ u_ws C T NF, w ∈ BIG) (ty0 : Nat → FieldType) (hty : ∀ k, k < NF → parseFieldDescriptor (T k).2.2.1 = some (ty0 k)) (hnm : ∀ a, a < NF → ∀ b, b < NF → a ≠ b → (T a).2.1 ≠ (T b).2.1) (hown : s.vm.findClass own = some m.cls) (hin2 : meth.name = "<init>") (hK : KK E s) (h : St E ci n N fs cl H) (hS : va_S A H0 H locs) (hA : ∀ q, n ≤ q → A q) (hc : vwCl[ci]? = some (C, T, NF)) (k : Nat) (hk : k < NF) (hlink : Cond.fieldLink own index own (T k).2.1 (T k).2.2.1 ∈ BIG) (hdecl : (T k).1 = own) (hfin : (T k).2.2.2 = true) (hd : parseFieldDescriptor (T k).2.2.1 = some (.array .int)) (hl : k < fs.length) (hn : ¬ i < 0) (hlen : i.toNatClampNeg = len) (hsm : len ≤ 1000) (hcl : cl N = .inl (E.2 0, len, .inl (fun _ => 0))) (hcells : cells + 1 ≤ R.cells) (hslots : slots + len ≤ R.slots) (hd1 : decode cc pc = .ok (.newarray .int, 2)) (hd2 : decode cc (pc + 2) = .ok (.putfield index, 3))
    (kk : ∀ (H1 : Heap) (locs1 : List Loc), St E ci n (N + 1) (fs.set k (.ref (n + N))) cl H1 → va_S A H0 H1 locs1 → W p l e R s m args below meth c H1 locs1 (cells + 1) (slots + len) Q (F0 m (pc + 2 + 3) ls rest)) : W p l e R s m args below meth c H locs cells slots Q (F0 m pc ls (.int i :: .ref n :: rest)) := by
  refine r_newi hx hb hB hK hn hlen hsm hcells hslots hd1 hS (fun H1 e1 z1 o1 hS1 => ?_)
  have h1 := h.snoc (by rw [hcl]; exact e1) z1 o1
  refine r_putF (ref := own) (a := n) (ty := .array .int) hx hb hB hin ty0 hty hnm hown hK h1.2.2.1 hS1 (hA _ (Nat.le_refl _)) hc k hk hlink hdecl hfin hin2 hdecl hd rfl rfl hl hd2 (fun H2 locs2 e2 z2 o2 hS2 => ?_)
  rw [h.1] at e2
  exact kk H2 locs2 (h1.put e2 z2 o2) hS2
theorem r_npc {own C : String} {T : u_T} {NF ci index n N len : Nat} {fs : List Value} {cl : Nat → va_E} {i : Int32} (hx : p.tables.exec = Jvm.exec) (hb : c.code = cc) (hB : ∀ w ∈ BIG, w.before args s = true) (hin : ∀ w ∈ u_ws C T NF, w ∈ BIG) (ty0 : Nat → FieldType) (hty : ∀ k, k < NF → parseFieldDescriptor (T k).2.2.1 = some (ty0 k)) (hnm : ∀ a, a < NF → ∀ b, b < NF → a ≠ b → (T a).2.1 ≠ (T b).2.1) (hown : s.vm.findClass own = some m.cls) (hin2 : meth.name = "<init>") (hK : KK E s) (h : St E ci n N fs cl H) (hS : va_S A H0 H locs) (hA : ∀ q, n ≤ q → A q) (hc : vwCl[ci]? = some (C, T, NF)) (k : Nat) (hk : k < NF) (hlink : Cond.fieldLink own index own (T k).2.1 (T k).2.2.1 ∈ BIG) (hdecl : (T k).1 = own) (hfin : (T k).2.2.2 = true) (hd : parseFieldDescriptor (T k).2.2.1 = some (.array .char)) (hl : k < fs.length) (hn : ¬ i < 0) (hlen : i.toNatClampNeg = len) (hsm : len ≤ 1000) (hcl : cl N = .inl (E.2 1, len, .inl (fun _ => 0))) (hcells : cells + 1 ≤ R.cells) (hslots : slots + len ≤ R.slots) (hd1 : decode cc pc = .ok (.newarray .char, 2)) (hd2 : decode cc (pc + 2) = .ok (.putfield index, 3))
    (kk : ∀ (H1 : Heap) (locs1 : List Loc), St E ci n (N + 1) (fs.set k (.ref (n + N))) cl H1 → va_S A H0 H1 locs1 → W p l e R s m args below meth c H1 locs1 (cells + 1) (slots + len) Q (F0 m (pc + 2 + 3) ls rest)) : W p l e R s m args below meth c H locs cells slots Q (F0 m pc ls (.int i :: .ref n :: rest)) := by
  refine r_newc hx hb hB hK hn hlen hsm hcells hslots hd1 hS (fun H1 e1 z1 o1 hS1 => ?_)
  have h1 := h.snoc (by rw [hcl]; exact e1) z1 o1
  refine r_putF (ref := own) (a := n) (ty := .array .char) hx hb hB hin ty0 hty hnm hown hK h1.2.2.1 hS1 (hA _ (Nat.le_refl _)) hc k hk hlink hdecl hfin hin2 hdecl hd rfl rfl hl hd2 (fun H2 locs2 e2 z2 o2 hS2 => ?_)
  rw [h.1] at e2
  exact kk H2 locs2 (h1.put e2 z2 o2) hS2
end BORN
